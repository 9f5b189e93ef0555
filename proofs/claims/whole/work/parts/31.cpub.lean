/-! the calls, on the mathematical value -/
def s_setv (g : sg) (k a b : Nat) (x : Int32) : sg := (g.1, fun k' a' b' => if k' = k ∧ a' = a ∧ b' = b then x else g.2.1 k' a' b', g.2.2)
def s_setc (g : sg) (p q : Nat) (l : List (Int32 × Int32)) : sg := (g.1, g.2.1, fun a b => if a = p ∧ b = q then l else g.2.2.1 a b, g.2.2.2)
def s_inr (g : sg) (p : Nat) : Bool := !(g.1 0 p 0 == 0) && (g.1 7 p 0 == 1)
def s_work (g : sg) (p : Nat) (x : Int32) : Int32 × sg := if g.1 6 p 0 = 1 then (-2, g) else if s_inr g p = true then (-3, g) else (0, s_setv g 0 (3 * p) 0 (31 * g.2.1 0 (3 * p) 0 + x))
def s_send (g : sg) (p q : Nat) : Int32 × sg := if g.1 6 p 0 = 1 then (-2, g) else if g.1 0 p 0 ≠ 0 then (-3, g) else if 6 ≤ (g.2.2.1 p q).length then (-4, g)
  else (g.2.1 1 (3 * p) q + 1, s_setc (s_setv g 1 (3 * p) q (g.2.1 1 (3 * p) q + 1)) p q (g.2.2.1 p q ++ [(g.2.1 1 (3 * p) q + 1, g.2.1 0 (3 * p) 0)]))
def s_receive (g : sg) (p q : Nat) : Int32 × sg := if g.1 6 q 0 = 1 then (-2, g) else if s_inr g q = true then (-3, g) else if g.1 6 p 0 = 1 then (-3, g) else if s_inr g p = true then (-3, g)
  else match g.2.2.1 p q with
    | [] => (-4, g)
    | m :: l => (m.1, s_setc (s_setv (s_setv g 2 (3 * q) p m.1) 0 (3 * q) 0 (17 * g.2.1 0 (3 * q) 0 + m.2 + 1)) p q l)
def s_lose (g : sg) (p q : Nat) : Int32 × sg := match g.2.2.1 p q with
    | [] => (-4, g)
    | m :: l => (m.1, s_setc g p q l)
def s_checkpoint (n : Nat) (g : sg) (p : Nat) : Int32 × sg := if g.1 6 p 0 = 1 then (-2, g) else if g.1 0 p 0 ≠ 0 then (-3, g) else (nI (gInst g + 1), s_begin n g p false)
def s_crash (g : sg) (p : Nat) : Int32 × sg := if g.1 6 p 0 = 1 then (-2, g) else if g.1 0 p 0 ≠ 0 then (-3, g) else (0, s_num g 6 p 0 1)
def s_restart (n : Nat) (g : sg) (p : Nat) : Int32 × sg := if g.1 6 p 0 = 1 then (if g.1 0 p 0 ≠ 0 then (-3, g) else (nI (gInst g + 1), s_begin n g p true)) else (-2, g)
theorem k_tick_l (F n d : Nat) (hF : 100 ≤ F) (hd : d ≤ 1000) : ∀ (r k K : Nat) (g : sg) (D N : List pv_N) (f : Nat) (σ : mm_M), D.length = r → k + r = d → r < K → gv n g D N → rc n [] g f σ →
    ∃ σ' f' N', f_X_tick_l10 F n (nI d) K σ (nI k) = some σ' ∧ rc n [] (s_ticks n r g) f' σ' ∧ gv n (s_ticks n r g) [] N' := by
  intro r
  induction r with
  | zero =>
    intro k K g D N f σ hD hk hK hv h
    obtain ⟨K, rfl⟩ : ∃ K', K = K' + 1 := ⟨K - 1, by omega⟩
    have hD : D = [] := List.length_eq_zero_iff.mp hD
    subst hD
    rw [f_X_tick_l10, if_pos ((nn_le (by omega) (by omega)).mpr (by omega))]
    exact ⟨σ, f, N, rfl, h, hv⟩
  | succ r ih =>
    intro k K g D N f σ hD hk hK hv h
    obtain ⟨K, rfl⟩ : ∃ K', K = K' + 1 := ⟨K - 1, by omega⟩
    obtain ⟨hw, hns, hJ, hgk⟩ := hv
    cases D with
    | nil => simp at hD
    | cons m D =>
      have hD : D.length = r := by simpa using hD
      have hns : g.2.2.2 = m :: (D ++ N) := hns
      have hR : rc n [m] (g.1, g.2.1, g.2.2.1, D ++ N) f σ := by
        obtain ⟨R1, R2, R3, R4⟩ := h
        refine ⟨R1, R2, R3, ?_⟩
        rw [List.nil_append, hns] at R4
        exact R4
      have hw0 : gw n (g.1, g.2.1, g.2.2.1, D ++ N) := hw
      have hJ0 : gJ n n (g.1, g.2.1, g.2.2.1, D ++ N) (m :: D) N := gJ_v hJ rfl
      obtain ⟨σ1, e1, e2⟩ := k_deliver F n f _ m D N σ hF hw0 rfl hJ0 hgk hR
      obtain ⟨N', hv'⟩ := gv_hear hw0 rfl hJ0 hgk
      obtain ⟨R1, R2, R3, R4⟩ := e2
      obtain ⟨σ2, f2, a1, a2, a3⟩ := k_lineTake F n σ1 hw.2.1 R4
      have hR2 : rc n [] (s_hear n (g.1, g.2.1, g.2.2.1, D ++ N) m) f2 σ2 := by
        refine ⟨?_, ?_, ?_, ?_⟩
        · rw [a3 0 (by decide), a3 4 (by decide), a3 5 (by decide), a3 6 (by decide), a3 10 (by decide)]; exact R1
        · rw [a3 7 (by decide), a3 8 (by decide), a3 9 (by decide)]; exact R2
        · rw [a3 11 (by decide), a3 12 (by decide), a3 13 (by decide)]; exact R3
        · exact a2
      rw [f_X_tick_l10, if_neg (by rw [nn_le (by omega) (by omega)]; omega), k_first F n σ hw.2.1 h.2.2.2, Option.bind_some, e1, Option.bind_some, a1, Option.bind_some, nI_1]
      have e : s_ticks n (r + 1) g = s_ticks n r (s_hear n (g.1, g.2.1, g.2.2.1, D ++ N) m) := by
        rw [s_ticks, hns]
      rw [e]
      exact ih (k + 1) K _ D N' f2 σ2 hD (by omega) (by omega) hv' hR2
theorem k_tick (F n f : Nat) (g : sg) (N : List pv_N) (σ : mm_M) (hF : 100 ≤ F) (hv : gv n g [] N) (h : rc n [] g f σ) :
    ∃ σ' f' N', f_X_tick F n σ = some (nI g.2.2.2.length, σ') ∧ rc n [] (s_ticks n g.2.2.2.length g) f' σ' ∧ gv n (s_ticks n g.2.2.2.length g) [] N' := by
  obtain ⟨hw, hns, hJ, hgk⟩ := hv
  have hns : g.2.2.2 = N := hns
  have hc := h.2.2.2.2.2.1
  have hlen := h.2.2.2.2.2.2.1
  have hcap := k_cap hw.2.1
  have hc : σ 3 0 2 = nI g.2.2.2.length := hc
  have hlen : g.2.2.2.length ≤ 4 * n * (n - 1) := hlen
  obtain ⟨σ', f', N', e1, e2, e3⟩ := k_tick_l F n g.2.2.2.length hF (by omega) g.2.2.2.length 0 F g N [] f σ (by rw [hns]) (by omega) (by omega) ⟨hw, by rw [hns]; simp, pv_tick hJ, by simpa using hgk⟩ h
  unfold f_X_tick
  have e1 : f_X_tick_l10 F n (nI g.2.2.2.length) F σ (0 : Int32) = some σ' := e1
  rw [hc, e1]
  exact ⟨σ', f', N', rfl, e2, e3⟩
/-! in range or not -/
theorem k_proc (F n : Nat) (σ : mm_M) (p : Nat) (hn : n ≤ 5) (hp : p < n) (h0 : σ 0 0 0 = nI n) : f_X_isProcess F n σ (nI p) = some 1 := by
  unfold f_X_isProcess
  rw [h0, if_neg (by rw [show (0 : Int32) = nI 0 from rfl, nn_lt (by omega) (by omega)]; omega), if_neg (by rw [nn_le (by omega) (by omega)]; omega)]
  rfl
theorem k_noproc (F n : Nat) (σ : mm_M) (a : Int32) (h0 : σ 0 0 0 = nI n) (h : a < 0 ∨ nI n ≤ a) : f_X_isProcess F n σ a = some 0 := by
  unfold f_X_isProcess
  rw [h0]
  by_cases h1 : a < 0
  · rw [if_pos h1]; rfl
  · rw [if_neg h1, if_pos (h.resolve_left h1)]; rfl
theorem k_chan (F n : Nat) (σ : mm_M) (p q : Nat) (hn : n ≤ 5) (hp : p < n) (hq : q < n) (hpq : p ≠ q) (h0 : σ 0 0 0 = nI n) : f_X_isChannel F n σ (nI p) (nI q) = some 1 := by
  unfold f_X_isChannel
  rw [k_proc F n σ p hn hp h0, Option.bind_some, if_neg (by decide), k_proc F n σ q hn hq h0, Option.bind_some, if_neg (by decide), if_neg (by rw [nn_eq (by omega) (by omega)]; exact hpq)]
  rfl
theorem k_nochan (F n : Nat) (σ : mm_M) (a b : Int32) (hn : n ≤ 5) (h0 : σ 0 0 0 = nI n) (h : (a < 0 ∨ nI n ≤ a) ∨ (b < 0 ∨ nI n ≤ b) ∨ a = b) : f_X_isChannel F n σ a b = some 0 := by
  unfold f_X_isChannel
  by_cases ha : a < 0 ∨ nI n ≤ a
  · rw [k_noproc F n σ a h0 ha, Option.bind_some, if_pos rfl]; rfl
  · have : ∃ j, j < n ∧ a = nI j := by
      rcases pk_ix a (show n < 2 ^ 31 by omega) with z | z | z
      · exact absurd (Or.inl z) ha
      · exact absurd (Or.inr z) ha
      · exact z
    obtain ⟨j, hj, rfl⟩ := this
    rw [k_proc F n σ j hn hj h0, Option.bind_some, if_neg (by decide)]
    by_cases hb : b < 0 ∨ nI n ≤ b
    · rw [k_noproc F n σ b h0 hb, Option.bind_some, if_pos rfl]; rfl
    · have : ∃ j, j < n ∧ b = nI j := by
        rcases pk_ix b (show n < 2 ^ 31 by omega) with z | z | z
        · exact absurd (Or.inl z) hb
        · exact absurd (Or.inr z) hb
        · exact z
      obtain ⟨j2, hj2, rfl⟩ := this
      rw [k_proc F n σ j2 hn hj2 h0, Option.bind_some, if_neg (by decide)]
      have e : nI j = nI j2 := by
        rcases h with h | h | h
        · exact absurd h ha
        · exact absurd h hb
        · exact h
      rw [if_pos e]
      rfl
theorem k_inr (F n : Nat) (σ : mm_M) (g : sg) (p : Nat) (hw : gw n g) (hp : p < n) (A4 : σ 6 p 6 = nI (g.1 0 p 0)) (A5 : σ 6 p 7 = nI (g.1 7 p 0)) : f_M_isInRollback F n σ p = some (if s_inr g p = true then 1 else 0) := by
  have hI : g.1 0 p 0 ≤ 512 := hw.2.2.2.2.2.2.2.2.2 p hp
  have hb := (hw.2.2.2.1 p).2.1
  unfold f_M_isInRollback
  rw [k_isInv F n σ p (g.1 0 p 0) (by omega) A4, Option.bind_some, A5]
  unfold s_inr
  by_cases h0 : g.1 0 p 0 = 0
  · simp [h0]
  · rw [if_neg h0, if_neg (by decide)]
    rcases (show g.1 7 p 0 = 0 ∨ g.1 7 p 0 = 1 by omega) with e | e
    · rw [e, if_pos (by decide)]; simp
    · rw [e, if_neg (by decide)]; simp [h0]
theorem k_work (F n f p : Nat) (x : Int32) (g : sg) (σ : mm_M) (hw : gw n g) (h : rc n [] g f σ) (hp : p < n) : ∃ σ', f_X_work F n σ (nI p) x = some ((s_work g p x).1, σ') ∧ rc n [] (s_work g p x).2 f σ' := by
  have hR := h
  obtain ⟨⟨A1, A2, A3, A4, A5⟩, hV, hH, hN⟩ := h
  obtain ⟨B1, B2, B3, B4, B5, B6, B7, B8⟩ := A4 p hp
  have hn := hw.2.1
  have hdn := (hw.2.2.2.1 p).1
  unfold f_X_work s_work
  rw [k_proc F n σ p hn hp A1, Option.bind_some, if_neg (by decide), if_pos (nn_in hp (by omega)), nn_c (by omega), B1]
  by_cases h1 : g.1 6 p 0 = 1
  · rw [if_neg (by rw [nn_z (by omega)]; omega), if_pos h1]
    exact ⟨σ, rfl, hR⟩
  · rw [if_pos (by rw [nn_z (by omega)]; omega), if_neg h1, k_inr F n σ g p hw hp B4 B5, Option.bind_some]
    by_cases h2 : s_inr g p = true
    · rw [if_pos h2, if_neg (by decide), if_pos h2]
      exact ⟨σ, rfl, hR⟩
    · rw [if_neg h2, if_pos rfl, if_neg h2, hV.1 (3 * p) (by omega)]
      refine ⟨_, rfl, ⟨?_, ?_, ?_, ?_, ?_⟩, ⟨fun j hj => ?_, fun j q hj hq => ?_⟩, ?_, ?_⟩
      · rw [mm_sn _ _ _ _ (by decide)]; exact A1
      · rw [mm_sn _ _ _ _ (by decide)]; exact A2
      · rw [mm_sn _ _ _ _ (by decide), mm_sn _ _ _ _ (by decide)]; exact A3
      · rw [mm_sn _ _ _ _ (by decide)]; exact A4
      · rw [mm_sn _ _ _ _ (by decide)]; exact A5
      · by_cases hj3 : j = 3 * p
        · simp [mm_st, s_setv, hj3]
        · simp [mm_st, s_setv, hj3, hV.1 j hj]
      · rw [mm_sn _ _ _ _ (by decide), mm_sn _ _ _ _ (by decide)]
        simp [s_setv, hV.2 j q hj hq]
      · rw [mm_sn _ _ _ _ (by decide), mm_sn _ _ _ _ (by decide), mm_sn _ _ _ _ (by decide)]; exact hH
      · rw [mm_sn _ _ _ _ (by decide), mm_sn _ _ _ _ (by decide)]; exact hN
theorem rcH_set {n p q : Nat} {σ σ' : mm_M} {ch : Nat → Nat → List (Int32 × Int32)} {l : List (Int32 × Int32)} (h : rcH n (σ 11) (σ 12) (σ 13) ch) (hq : q < n) (h1 : k_ch (σ' 11) (σ' 12) (σ' 13) (p * n + q) l) (h2 : k_same σ σ' (p * n + q)) :
    rcH n (σ' 11) (σ' 12) (σ' 13) (fun a b => if a = p ∧ b = q then l else ch a b) := by
  intro a b ha hb
  by_cases hab : a = p ∧ b = q
  · obtain ⟨rfl, rfl⟩ := hab
    simp only [and_self, if_true]
    exact h1
  · have hne : a * n + b ≠ p * n + q := fun z => hab (ix_inj hb hq z)
    have h3 := h a b ha hb
    unfold k_ch at h3 ⊢
    rw [h2.2 11 _ hne, h2.2 12 _ hne, h2.2 13 _ hne]
    simp only [hab, if_false]
    exact h3
theorem k_send (F n f p q : Nat) (g : sg) (σ : mm_M) (hw : gw n g) (h : rc n [] g f σ) (hp : p < n) (hq : q < n) (hpq : p ≠ q) : ∃ σ', f_X_send F n σ (nI p) (nI q) = some ((s_send g p q).1, σ') ∧ rc n [] (s_send g p q).2 f σ' := by
  have hR := h
  obtain ⟨⟨A1, A2, A3, A4, A5⟩, hV, hH, hN⟩ := h
  obtain ⟨B1, B2, B3, B4, B5, B6, B7, B8⟩ := A4 p hp
  have hn := hw.2.1
  have hdn := (hw.2.2.2.1 p).1
  have hI : g.1 0 p 0 ≤ 512 := hw.2.2.2.2.2.2.2.2.2 p hp
  have hch := hH p q hp hq
  unfold f_X_send s_send
  rw [k_chan F n σ p q hn hp hq hpq A1, Option.bind_some, if_neg (by decide), if_pos (nn_in hp (by omega)), nn_c (by omega), B1]
  by_cases h1 : g.1 6 p 0 = 1
  · rw [if_neg (by rw [nn_z (by omega)]; omega), if_pos h1]
    exact ⟨σ, rfl, hR⟩
  · rw [if_pos (by rw [nn_z (by omega)]; omega), if_neg h1, k_isInv F n σ p (g.1 0 p 0) (by omega) B4, Option.bind_some]
    by_cases h2 : g.1 0 p 0 ≠ 0
    · rw [if_neg h2, if_neg (by decide), if_pos h2]
      exact ⟨σ, rfl, hR⟩
    · have h2' : g.1 0 p 0 = 0 := by omega
      rw [if_pos h2', if_pos rfl, if_neg h2, k_channelOf F n σ p q hn hp hq A1, Option.bind_some, hch.1]
      have hl6 := hch.2.1
      by_cases h3 : 6 ≤ (g.2.2.1 p q).length
      · rw [if_neg (by rw [show (6 : Int32) = nI 6 from rfl, nn_lt (by omega) (by omega)]; omega), if_pos h3]
        exact ⟨σ, rfl, hR⟩
      · rw [if_pos (by rw [show (6 : Int32) = nI 6 from rfl, nn_lt (by omega) (by omega)]; omega), if_neg h3, if_pos (nn_in hq (by omega)), nn_c (by omega), (hV.2 (3 * p) q (by omega) hq).1]
        have hch2 : k_ch (mm_st σ 8 (3 * p) q (g.2.1 1 (3 * p) q + 1) 11) (mm_st σ 8 (3 * p) q (g.2.1 1 (3 * p) q + 1) 12) (mm_st σ 8 (3 * p) q (g.2.1 1 (3 * p) q + 1) 13) (p * n + q) (g.2.2.1 p q) := by
          rw [mm_sn _ _ _ _ (by decide), mm_sn _ _ _ _ (by decide), mm_sn _ _ _ _ (by decide)]; exact hch
        have er : mm_st σ 8 (3 * p) q (g.2.1 1 (3 * p) q + 1) 8 (3 * p) q = g.2.1 1 (3 * p) q + 1 := by simp [mm_st]
        rw [er, hV.1 (3 * p) (by omega)]
        obtain ⟨σ2, e1, e2, e3⟩ := k_put F n (mm_st σ 8 (3 * p) q (g.2.1 1 (3 * p) q + 1)) (p * n + q) (g.2.1 1 (3 * p) q + 1) (g.2.1 0 (3 * p) 0) (g.2.2.1 p q) hch2 (by omega)
        rw [e1, Option.bind_some]
        have s2 : ∀ k, k ≠ 11 → k ≠ 12 → k ≠ 13 → k ≠ 8 → σ2 k = σ k := fun k z1 z2 z3 z4 => by rw [e3.1 k z1 z2 z3, mm_sn _ _ _ _ z4]
        have s8 : σ2 8 = mm_st σ 8 (3 * p) q (g.2.1 1 (3 * p) q + 1) 8 := e3.1 8 (by decide) (by decide) (by decide)
        refine ⟨σ2, by rw [s8, er], ⟨?_, ?_, ?_, ?_, ?_⟩, ⟨fun j hj => ?_, fun j r hj hr => ?_⟩, ?_, ?_⟩
        · rw [s2 0 (by decide) (by decide) (by decide) (by decide)]; exact A1
        · rw [s2 0 (by decide) (by decide) (by decide) (by decide)]; exact A2
        · rw [s2 4 (by decide) (by decide) (by decide) (by decide), s2 5 (by decide) (by decide) (by decide) (by decide)]; exact A3
        · rw [s2 6 (by decide) (by decide) (by decide) (by decide)]; exact A4
        · rw [s2 10 (by decide) (by decide) (by decide) (by decide)]; exact A5
        · rw [s2 7 (by decide) (by decide) (by decide) (by decide)]
          simp [s_setc, s_setv, hV.1 j hj]
        · rw [s8, s2 9 (by decide) (by decide) (by decide) (by decide)]
          obtain ⟨v1, v2⟩ := hV.2 j r hj hr
          by_cases hjr : j = 3 * p ∧ r = q
          · simp [mm_st, s_setc, s_setv, hjr, v2]
            exact (hV.2 (3 * p) q (by omega) hq).2
          · simp [mm_st, s_setc, s_setv, hjr, v1, v2]
        · exact rcH_set (σ := mm_st σ 8 (3 * p) q (g.2.1 1 (3 * p) q + 1)) (by rw [mm_sn _ _ _ _ (by decide), mm_sn _ _ _ _ (by decide), mm_sn _ _ _ _ (by decide)]; exact hH) hq e2 e3
        · rw [s2 3 (by decide) (by decide) (by decide) (by decide), s2 15 (by decide) (by decide) (by decide) (by decide)]; exact hN
