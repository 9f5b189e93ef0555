theorem rr_T {n T T' off : Nat} {hd : List pv_N} {g : sg} {ρ : mm_M} (h : rr n T off hd g ρ) (hT : T ≤ T') : rr n T' off hd g ρ := by
  obtain ⟨⟨ln, kp, fx, gn, A, B, C, D, E, G⟩, hN⟩ := h
  exact ⟨⟨ln, kp, fx, gn, A, B, C, fun p hp => by obtain ⟨z1, z2, z3, z4, z5⟩ := D p hp; exact ⟨z1, z2, z3, by omega, z5⟩, E, G⟩, hN⟩
theorem r_tick_l (F n T d : Nat) (hF : 1000 ≤ F) (hT : T ≤ 512) (hd : d ≤ 80) : ∀ (r k K : Nat) (g : sg) (D N : List pv_N) (ρ : mm_M), D.length = r → k + r = d → r < K → gv n g D N → rr n T k [] g ρ →
    ∃ ρ', f_R_tick_l7 F n (nI d) K ρ (nI k) = some ρ' ∧ rr n T d [] (s_ticks n r g) ρ' := by
  intro r
  induction r with
  | zero =>
    intro k K g D N ρ hD hk hK hv h
    obtain ⟨K, rfl⟩ : ∃ K', K = K' + 1 := ⟨K - 1, by omega⟩
    have hk : k = d := by omega
    subst hk
    rw [f_R_tick_l7, if_pos ((nn_le (by omega) (by omega)).mpr (by omega))]
    exact ⟨ρ, rfl, h⟩
  | succ r ih =>
    intro k K g D N ρ hD hk hK hv h
    obtain ⟨K, rfl⟩ : ∃ K', K = K' + 1 := ⟨K - 1, by omega⟩
    obtain ⟨hw, hns, hJ, hgk⟩ := hv
    cases D with
    | nil => simp at hD
    | cons m D =>
      have hD : D.length = r := by simpa using hD
      have hns : g.2.2.2 = m :: (D ++ N) := hns
      have hR : rr n T k [m] (g.1, g.2.1, g.2.2.1, D ++ N) ρ := by
        obtain ⟨R1, R2⟩ := h
        refine ⟨R1, ?_⟩
        rw [List.nil_append, hns] at R2
        exact R2
      have hw0 : gw n (g.1, g.2.1, g.2.2.1, D ++ N) := hw
      have hJ0 : gJ n n (g.1, g.2.1, g.2.2.1, D ++ N) (m :: D) N := gJ_v hJ rfl
      obtain ⟨ρ1, e1, e2⟩ := r_deliver F n T k _ m D N ρ hF hT (by omega) hw0 rfl hJ0 hgk hR
      obtain ⟨N', hv'⟩ := gv_hear hw0 rfl hJ0 hgk
      rw [f_R_tick_l7, if_neg (by rw [nn_le (by omega) (by omega)]; omega), e1, Option.bind_some, nI_1]
      have e : s_ticks n (r + 1) g = s_ticks n r (s_hear n (g.1, g.2.1, g.2.2.1, D ++ N) m) := by
        rw [s_ticks, hns]
      rw [e]
      refine ih (k + 1) K _ D N' ρ1 hD (by omega) (by omega) hv' ?_
      obtain ⟨R1, z1, z2, z3⟩ := e2
      refine ⟨R1, ?_, ?_, fun j m' hm' => ?_⟩
      · rw [z1]
        congr 1
        simp only [List.length_append, List.length_cons, List.length_nil]
        omega
      · simp only [List.length_append, List.length_cons, List.length_nil] at z2 ⊢
        omega
      · have := z3 (j + 1) m' hm'
        rw [show k + 1 + j = k + (j + 1) by omega]
        exact this
theorem r_shift_l (F n d L : Nat) (kd : Nat → Nat) (hkd : ∀ i, kd i ≤ 1) (ns : List pv_N) (hL : ns.length = L) (hb : d + L ≤ 300) : ∀ (r k K : Nat) (ρ : mm_M), k + r = L → r < K → ρ 0 0 18 = nI L →
    (∀ j m, ns[j]? = some m → (j < k → r_nt ρ j m (kd m.2.1)) ∧ (k ≤ j → r_nt ρ (d + j) m (kd m.2.1))) →
    ∃ ρ', f_R_tick_l35 F n (nI d) K ρ (nI k) = some ρ' ∧ rrN 0 ρ' kd ns ∧ (∀ kk, nk kk → ρ' kk = ρ kk) ∧ ρ' 0 = ρ 0 := by
  intro r
  induction r with
  | zero =>
    intro k K ρ hk hK h18 h
    obtain ⟨K, rfl⟩ : ∃ K', K = K' + 1 := ⟨K - 1, by omega⟩
    have hk : k = L := by omega
    subst hk
    rw [f_R_tick_l35, h18, if_pos ((nn_le (by omega) (by omega)).mpr (by omega))]
    refine ⟨ρ, rfl, ⟨?_, ?_, fun j m hm => ?_⟩, fun _ _ => rfl, rfl⟩
    · rw [h18, hL, Nat.zero_add]
    · omega
    · have hj := (List.getElem?_eq_some_iff.mp hm).1
      rw [Nat.zero_add]
      exact (h j m hm).1 (by omega)
  | succ r ih =>
    intro k K ρ hk hK h18 h
    obtain ⟨K, rfl⟩ : ∃ K', K = K' + 1 := ⟨K - 1, by omega⟩
    have hkl : k < ns.length := by omega
    obtain ⟨m0, hm0⟩ : ∃ m0, ns[k]? = some m0 := ⟨ns[k], List.getElem?_eq_getElem hkl⟩
    have hn0 := (h k m0 hm0).2 (Nat.le_refl _)
    have hz : mm_z (ρ 24 0 (d + k)) := by rw [hn0.2.2.2.2.1]; exact nn_b (hkd _)
    have hix : nI k + nI d = nI (d + k) := by rw [nI_add, Nat.add_comm]
    rw [f_R_tick_l35, h18, if_neg (by rw [nn_le (by omega) (by omega)]; omega), hix, if_pos (nn_in (show d + k < 400 by omega) (by omega)), if_pos (nn_in (show k < 400 by omega) (by omega)), nn_c (by omega), nn_c (by omega), if_pos hz, nI_1]
    generalize hρ1 : mm_st (mm_st (mm_st (mm_st (mm_st (mm_st ρ 20 0 k (ρ 20 0 (d + k))) 21 0 k (ρ 21 0 (d + k))) 22 0 k (ρ 22 0 (d + k))) 23 0 k (ρ 23 0 (d + k))) 24 0 k (ρ 24 0 (d + k))) 25 0 k (ρ 25 0 (d + k)) = ρ1
    have k1 : ∀ kk, kk < 20 ∨ 25 < kk → ρ1 kk = ρ kk := fun kk hkk => by
      rw [← hρ1, mm_sn _ _ _ _ (by omega), mm_sn _ _ _ _ (by omega), mm_sn _ _ _ _ (by omega), mm_sn _ _ _ _ (by omega), mm_sn _ _ _ _ (by omega), mm_sn _ _ _ _ (by omega)]
    obtain ⟨ρ', f1, f2, f3, f4⟩ := ih (k + 1) K ρ1 (by omega) (by omega) (by rw [k1 0 (by omega)]; exact h18) (fun j m hm => by
      obtain ⟨g1, g2⟩ := h j m hm
      refine ⟨fun hj => ?_, fun hj => ?_⟩
      · by_cases hjk : j = k
        · subst hjk
          rw [hm0] at hm
          cases hm
          unfold r_nt at hn0 ⊢
          rw [← hρ1]
          simp [mm_st]
          exact hn0
        · have := g1 (by omega)
          unfold r_nt at this ⊢
          rw [← hρ1]
          simp [mm_st, hjk]
          exact this
      · have := g2 (by omega)
        have hne : ¬ d + j = k := by omega
        unfold r_nt at this ⊢
        rw [← hρ1]
        simp [mm_st, hne]
        exact this)
    refine ⟨ρ', f1, f2, fun kk hkk => by rw [f3 kk hkk, k1 kk hkk.2], by rw [f4, k1 0 (by omega)]⟩
theorem gv_ticks {n : Nat} : ∀ (r : Nat) (g : sg) (D N : List pv_N), D.length = r → gv n g D N → ∃ N', gv n (s_ticks n r g) [] N' := by
  intro r
  induction r with
  | zero =>
    intro g D N hD hv
    have hD : D = [] := List.length_eq_zero_iff.mp hD
    subst hD
    exact ⟨N, hv⟩
  | succ r ih =>
    intro g D N hD hv
    cases D with
    | nil => simp at hD
    | cons m D =>
      obtain ⟨hw, hns, hJ, hgk⟩ := hv
      have hns : g.2.2.2 = m :: (D ++ N) := hns
      obtain ⟨N', hv'⟩ := gv_hear (g := (g.1, g.2.1, g.2.2.1, D ++ N)) hw rfl (gJ_v hJ rfl) hgk
      rw [s_ticks, hns]
      exact ih _ D N' (by simpa using hD) hv'
theorem gv_tick {n : Nat} {g : sg} {N : List pv_N} (hv : gv n g [] N) : gv n g N [] := by
  obtain ⟨hw, hns, hJ, hgk⟩ := hv
  exact ⟨hw, by rw [hns]; simp, pv_tick hJ, by simpa using hgk⟩
theorem r_tick (F n T : Nat) (g : sg) (N : List pv_N) (ρ : mm_M) (hF : 1000 ≤ F) (hT : T ≤ 512) (hv : gv n g [] N) (h : rr n T 0 [] g ρ) :
    ∃ ρ', f_R_tick F n ρ = some (nI g.2.2.2.length, ρ') ∧ rr n T 0 [] (s_ticks n g.2.2.2.length g) ρ' := by
  have hvt := gv_tick hv
  obtain ⟨hw, hns, hJ, hgk⟩ := hv
  have hns : g.2.2.2 = N := hns
  have hcap := hJ.cap
  have hcap5 := k_cap hw.2.1
  have hd : g.2.2.2.length ≤ 80 := by
    have := k_cap3 hw.1 hcap
    rw [hns]
    simp only [List.length_nil] at this
    omega
  have h18 : ρ 0 0 18 = nI g.2.2.2.length := by have := h.2.1; simpa using this
  obtain ⟨ρ1, e1, e2⟩ := r_tick_l F n T g.2.2.2.length hF hT hd g.2.2.2.length 0 F g N [] ρ (by rw [hns]) (by omega) (by omega) hvt h
  obtain ⟨N', hv'⟩ := gv_ticks g.2.2.2.length g N [] (by rw [hns]) hvt
  unfold f_R_tick
  have e1 : f_R_tick_l7 F n (nI g.2.2.2.length) F ρ (0 : Int32) = some ρ1 := e1
  rw [h18, e1, Option.bind_some]
  generalize g.2.2.2.length = d at *
  generalize s_ticks n d g = g' at *
  have hwg' : ∀ i, g'.1 11 i 0 ≤ 1 := fun i => (hv'.1.2.2.2.2.1 i).1
  obtain ⟨⟨ln, kp, fx, gn, hB⟩, z1, z2, z3⟩ := e2
  have z1 : ρ1 0 0 18 = nI (d + g'.2.2.2.length) := z1
  have z2 : d + g'.2.2.2.length ≤ 300 := z2
  rw [z1, pk_sub (by omega), show d + g'.2.2.2.length - d = g'.2.2.2.length by omega]
  generalize hρ2 : mm_st ρ1 0 0 18 (nI g'.2.2.2.length) = ρ2
  have k2 : ∀ kk, kk ≠ 0 → ρ2 kk = ρ1 kk := fun kk hkk => by rw [← hρ2, mm_sn _ _ _ _ hkk]
  obtain ⟨ρ3, f1, f2, f3, f4⟩ := r_shift_l F n d g'.2.2.2.length (fun i => g'.1 11 i 0) hwg' g'.2.2.2 rfl z2 g'.2.2.2.length 0 F ρ2 (by omega) (by omega) (by rw [← hρ2]; simp [mm_st]) (fun j m hm => ⟨fun hj => by omega, fun _ => by
    have := z3 j m hm
    unfold r_nt at this ⊢
    rw [k2 20 (by decide), k2 21 (by decide), k2 22 (by decide), k2 23 (by decide), k2 24 (by decide), k2 25 (by decide)]
    exact this⟩)
  have f1 : f_R_tick_l35 F n (nI d) F ρ2 (0 : Int32) = some ρ3 := f1
  rw [f1, Option.bind_some]
  refine ⟨ρ3, rfl, ⟨ln, kp, fx, gn, rrB_k hB (fun k hk => by rw [f3 k hk, k2 k hk.1]) ?_ ?_⟩, f2⟩
  · rw [f4, ← hρ2]; simp [mm_st]
  · rw [f4, ← hρ2]; simp [mm_st]
/-! a new event in a log -/
def r_ev (ρ : mm_M) (p L : Nat) (k ab mk vl : Int32) : mm_M := mm_st (mm_st (mm_st (mm_st (mm_st ρ 3 0 (512 * p + L) k) 4 0 (512 * p + L) ab) 5 0 (512 * p + L) mk) 6 0 (512 * p + L) vl) 2 0 p (nI (L + 1))
theorem r_note (F n : Nat) (ρ : mm_M) (p L : Nat) (k ab mk vl : Int32) (hp : p < 5) (hL : L < 512) (h2 : ρ 2 0 p = nI L) : f_R_note F n ρ (nI p) k ab mk vl = some (0, r_ev ρ p L k ab mk vl) := by
  unfold f_R_note
  rw [if_pos (nn_in hp (by omega)), nn_c (by omega), h2, l_512, if_pos (nn_in (show 512 * p + L < 2560 by omega) (by omega)), nn_c (by omega), nI_1]
  rfl
theorem r_ev_k (ρ : mm_M) (p L : Nat) (k ab mk vl : Int32) {kk : Nat} (h : kk < 2 ∨ 6 < kk) : r_ev ρ p L k ab mk vl kk = ρ kk := by
  unfold r_ev
  rw [mm_sn _ _ _ _ (by omega), mm_sn _ _ _ _ (by omega), mm_sn _ _ _ _ (by omega), mm_sn _ _ _ _ (by omega), mm_sn _ _ _ _ (by omega)]
theorem r_ev_at (ρ : mm_M) (p L : Nat) (k ab mk vl : Int32) (j : Nat) (hj : j ≠ 512 * p + L) : r_ev ρ p L k ab mk vl 3 0 j = ρ 3 0 j ∧ r_ev ρ p L k ab mk vl 4 0 j = ρ 4 0 j ∧ r_ev ρ p L k ab mk vl 5 0 j = ρ 5 0 j ∧ r_ev ρ p L k ab mk vl 6 0 j = ρ 6 0 j := by
  simp [r_ev, mm_st, hj]
theorem r_ev_new (ρ : mm_M) (p L : Nat) (k ab mk vl : Int32) : r_ev ρ p L k ab mk vl 3 0 (512 * p + L) = k ∧ r_ev ρ p L k ab mk vl 4 0 (512 * p + L) = ab ∧ r_ev ρ p L k ab mk vl 5 0 (512 * p + L) = mk ∧ r_ev ρ p L k ab mk vl 6 0 (512 * p + L) = vl := by
  simp [r_ev, mm_st]
section EV
variable {ρ : mm_M} {p L : Nat} {k ab mk vl : Int32}
theorem ev_ne {a j m : Nat} (hL : L < 512) (hm : m ≤ 512) (hj : j < m) (h : a ≠ p ∨ m ≤ L) : 512 * a + j ≠ 512 * p + L := by
  rcases h with h | h
  · omega
  · by_cases hap : a = p
    · subst hap; omega
    · omega
theorem ev_v {a m : Nat} (hL : L < 512) (hm : m ≤ 512) (h : a ≠ p ∨ m ≤ L) : l_v (r_ev ρ p L k ab mk vl 3 0) (r_ev ρ p L k ab mk vl 4 0) (r_ev ρ p L k ab mk vl 6 0) a m = l_v (ρ 3 0) (ρ 4 0) (ρ 6 0) a m :=
  l_v_c m (fun j hj => by obtain ⟨z1, z2, z3, z4⟩ := r_ev_at ρ p L k ab mk vl _ (ev_ne hL hm hj h); exact ⟨z1, z2, z4⟩)
theorem ev_s {a m q : Nat} (hL : L < 512) (hm : m ≤ 512) (h : a ≠ p ∨ m ≤ L) : l_s (r_ev ρ p L k ab mk vl 3 0) (r_ev ρ p L k ab mk vl 4 0) a q m = l_s (ρ 3 0) (ρ 4 0) a q m :=
  l_s_c m (fun j hj => by obtain ⟨z1, z2, z3, z4⟩ := r_ev_at ρ p L k ab mk vl _ (ev_ne hL hm hj h); exact ⟨z1, z2⟩)
theorem ev_r {a m q : Nat} (hL : L < 512) (hm : m ≤ 512) (h : a ≠ p ∨ m ≤ L) : l_r (r_ev ρ p L k ab mk vl 3 0) (r_ev ρ p L k ab mk vl 4 0) (r_ev ρ p L k ab mk vl 5 0) a q m = l_r (ρ 3 0) (ρ 4 0) (ρ 5 0) a q m :=
  l_r_c m (fun j hj => by obtain ⟨z1, z2, z3, z4⟩ := r_ev_at ρ p L k ab mk vl _ (ev_ne hL hm hj h); exact ⟨z1, z2, z3⟩)
end EV
/-- an event is written: the process's own state goes on, all else stays -/
theorem rr_ev {n T : Nat} {g g' : sg} {ρ : mm_M} {p : Nat} {k ab mk vl : Int32} (h : rr n T 0 [] g ρ) (hn : n ≤ 5) (hp : p < n) (hT : T < 512) (h1 : g'.1 = g.1) (hns : g'.2.2.2 = g.2.2.2)
    (hv : ∀ kk j b, j ≠ 3 * p → g'.2.1 kk j b = g.2.1 kk j b)
    (hv0 : g'.2.1 0 (3 * p) 0 = if k = 0 then 31 * g.2.1 0 (3 * p) 0 + ab else if k = 2 then 17 * g.2.1 0 (3 * p) 0 + vl + 1 else g.2.1 0 (3 * p) 0)
    (hv1 : ∀ q, q < n → g'.2.1 1 (3 * p) q = if k = 1 ∧ ab = nI q then g.2.1 1 (3 * p) q + 1 else g.2.1 1 (3 * p) q)
    (hv2 : ∀ q, q < n → g'.2.1 2 (3 * p) q = if k = 2 ∧ ab = nI q then mk else g.2.1 2 (3 * p) q)
    (hc : ∀ a b, a < n → b < n → a ≠ b → g'.2.2.1 a b = if a = p ∧ k = 1 ∧ ab = nI b then g.2.2.1 a b ++ [(g.2.1 1 (3 * p) b + 1, g.2.1 0 (3 * p) 0)] else g.2.2.1 a b)
    (hl : ∀ b, b < n → p ≠ b → k = 1 → ab = nI b → (g.2.2.1 p b).length < 6) :
    ∃ L, ρ 2 0 p = nI L ∧ L ≤ T ∧ rr n (T + 1) 0 [] g' (r_ev ρ p L k ab mk vl) := by
  obtain ⟨⟨ln, kp, fx, gn, ⟨A1, A2, A3⟩, B, C, D, E, G⟩, hN⟩ := h
  obtain ⟨D1, D2, D3, D4, D5⟩ := D p hp
  refine ⟨ln p, D1, D4, ⟨pv_up ln p (ln p + 1), kp, fx, gn, ⟨?_, ?_, fun j hj => ?_⟩, fun a ha => ?_, fun a ha => ?_, fun a ha => ?_, fun a ha => ?_, fun a b ha hb hab => ?_⟩, ?_⟩
  · rw [r_ev_k _ _ _ _ _ _ _ (by omega)]; exact A1
  · rw [r_ev_k _ _ _ _ _ _ _ (by omega), A2]; simp [gInst, h1]
  · rw [r_ev_k _ _ _ _ _ _ _ (by omega), h1]; exact A3 j hj
  · rw [r_ev_k _ _ _ _ _ _ _ (by omega), r_ev_k _ _ _ _ _ _ _ (by omega), r_ev_k _ _ _ _ _ _ _ (by omega), r_ev_k _ _ _ _ _ _ _ (by omega), r_ev_k _ _ _ _ _ _ _ (by omega), r_ev_k _ _ _ _ _ _ _ (by omega), h1]
    exact B a ha
  · rw [r_ev_k _ _ _ _ _ _ _ (by omega), r_ev_k _ _ _ _ _ _ _ (by omega), r_ev_k _ _ _ _ _ _ _ (by omega)]
    have e1 : gC g' a = gC g a := by funext q; simp [gC, h1]
    have e2 : gU g' a = gU g a := by funext q; simp [gU, h1]
    rw [e1, e2, h1]
    exact C a ha
  · obtain ⟨z1, z2, z3, z4, z5⟩ := D a ha
    rw [r_ev_k _ _ _ _ _ _ _ (show 7 < 2 ∨ 6 < 7 by omega), r_ev_k _ _ _ _ _ _ _ (show 8 < 2 ∨ 6 < 8 by omega)]
    by_cases hap : a = p
    · subst hap
      rw [pv_up_s]
      refine ⟨by simp [r_ev, mm_st], z2, z3, by omega, by omega⟩
    · rw [pv_up_n _ _ hap]
      refine ⟨by simp [r_ev, mm_st, hap, z1], z2, z3, by omega, z5⟩
  · obtain ⟨z1, z2, z3⟩ := E a ha
    obtain ⟨y1, y2, y3, y4, y5⟩ := D a ha
    have hLp : ln p < 512 := by omega
    by_cases hap : a = p
    · subst hap
      rw [pv_up_s]
      obtain ⟨m1, m2, m3, m4⟩ := r_ev_new ρ a (ln a) k ab mk vl
      refine ⟨⟨?_, fun q hq => ⟨?_, ?_⟩⟩, ⟨?_, fun q hq => ⟨?_, ?_⟩⟩, fun hI hb => ?_⟩
      · rw [hv0, z1.1, l_v, m1, m2, m4, ev_v hLp (by omega) (Or.inr (Nat.le_refl _))]
      · rw [hv1 q hq, (z1.2 q hq).1, l_s, m1, m2, ev_s hLp (by omega) (Or.inr (Nat.le_refl _))]
        split
        · rw [nI_1]
        · rfl
      · rw [hv2 q hq, (z1.2 q hq).2, l_r, m1, m2, m3, ev_r hLp (by omega) (Or.inr (Nat.le_refl _))]
      · rw [hv 0 _ 0 (by omega), z2.1, ev_v hLp (by omega) (Or.inr y5)]
      · rw [hv 1 _ q (by omega), (z2.2 q hq).1, ev_s hLp (by omega) (Or.inr y5)]
      · rw [hv 2 _ q (by omega), (z2.2 q hq).2, ev_r hLp (by omega) (Or.inr y5)]
      · rw [h1] at hI hb
        obtain ⟨x1, x2⟩ := z3 hI hb
        refine ⟨by omega, ?_, fun q hq => ⟨?_, ?_⟩⟩
        · rw [hv 0 _ 0 (by omega), x2.1, ev_v hLp (by omega) (Or.inr x1)]
        · rw [hv 1 _ q (by omega), (x2.2 q hq).1, ev_s hLp (by omega) (Or.inr x1)]
        · rw [hv 2 _ q (by omega), (x2.2 q hq).2, ev_r hLp (by omega) (Or.inr x1)]
    · rw [pv_up_n _ _ hap]
      refine ⟨⟨?_, fun q hq => ⟨?_, ?_⟩⟩, ⟨?_, fun q hq => ⟨?_, ?_⟩⟩, fun hI hb => ?_⟩
      · rw [hv 0 _ 0 (by omega), z1.1, ev_v hLp (by omega) (Or.inl hap)]
      · rw [hv 1 _ q (by omega), (z1.2 q hq).1, ev_s hLp (by omega) (Or.inl hap)]
      · rw [hv 2 _ q (by omega), (z1.2 q hq).2, ev_r hLp (by omega) (Or.inl hap)]
      · rw [hv 0 _ 0 (by omega), z2.1, ev_v hLp (by omega) (Or.inl hap)]
      · rw [hv 1 _ q (by omega), (z2.2 q hq).1, ev_s hLp (by omega) (Or.inl hap)]
      · rw [hv 2 _ q (by omega), (z2.2 q hq).2, ev_r hLp (by omega) (Or.inl hap)]
      · rw [h1] at hI hb
        obtain ⟨x1, x2⟩ := z3 hI hb
        refine ⟨x1, ?_, fun q hq => ⟨?_, ?_⟩⟩
        · rw [hv 0 _ 0 (by omega), x2.1, ev_v hLp (by omega) (Or.inl hap)]
        · rw [hv 1 _ q (by omega), (x2.2 q hq).1, ev_s hLp (by omega) (Or.inl hap)]
        · rw [hv 2 _ q (by omega), (x2.2 q hq).2, ev_r hLp (by omega) (Or.inl hap)]
  · have hLp : ln p < 512 := by omega
    obtain ⟨y1, y2, y3, y4, y5⟩ := D a ha
    obtain ⟨x1, x2, x3, x4, x5⟩ := G a b ha hb hab
    have h9 : r_ev ρ p (ln p) k ab mk vl 9 = ρ 9 := r_ev_k _ _ _ _ _ _ _ (by omega)
    rw [hc a b ha hb hab]
    unfold chs
    rw [h9]
    by_cases hap : a = p
    · subst hap
      rw [pv_up_s]
      obtain ⟨m1, m2, m3, m4⟩ := r_ev_new ρ a (ln a) k ab mk vl
      have hs : l_s (r_ev ρ a (ln a) k ab mk vl 3 0) (r_ev ρ a (ln a) k ab mk vl 4 0) a b (ln a + 1) = l_s (ρ 3 0) (ρ 4 0) a b (ln a) + (if k = 1 ∧ ab = nI b then 1 else 0) := by
        rw [l_s, m1, m2, ev_s hLp (by omega) (Or.inr (Nat.le_refl _))]
      rw [hs]
      have old : ∀ j, j < (g.2.2.1 a b).length → ∃ k_1, k_1 < ln a + 1 ∧ r_ev ρ a (ln a) k ab mk vl 3 0 (512 * a + k_1) = 1 ∧ r_ev ρ a (ln a) k ab mk vl 4 0 (512 * a + k_1) = nI b ∧ l_s (r_ev ρ a (ln a) k ab mk vl 3 0) (r_ev ρ a (ln a) k ab mk vl 4 0) a b k_1 = gn a b + j ∧ (g.2.2.1 a b)[j]? = some (nI (gn a b + j + 1), l_v (r_ev ρ a (ln a) k ab mk vl 3 0) (r_ev ρ a (ln a) k ab mk vl 4 0) (r_ev ρ a (ln a) k ab mk vl 6 0) a k_1) := by
        intro j hj
        obtain ⟨k1, j1, j2, j3, j4, j5⟩ := x5 j hj
        obtain ⟨t1, t2, t3, t4⟩ := r_ev_at ρ a (ln a) k ab mk vl (512 * a + k1) (by omega)
        refine ⟨k1, by omega, by rw [t1]; exact j2, by rw [t2]; exact j3, by rw [ev_s hLp (by omega) (Or.inr (by omega))]; exact j4, by rw [ev_v hLp (by omega) (Or.inr (by omega))]; exact j5⟩
      by_cases hkb : k = 1 ∧ ab = nI b
      · have hll := hl b hb hab hkb.1 hkb.2
        rw [if_pos (show a = a ∧ k = 1 ∧ ab = nI b from ⟨rfl, hkb⟩), if_pos hkb]
        refine ⟨x1, by omega, by simp; omega, by simp; omega, fun j hj => ?_⟩
        simp only [List.length_append, List.length_cons, List.length_nil] at hj
        by_cases hj2 : j < (g.2.2.1 a b).length
        · obtain ⟨k1, j1, j2, j3, j4, j5⟩ := old j hj2
          exact ⟨k1, j1, j2, j3, j4, by rw [List.getElem?_append_left hj2]; exact j5⟩
        · have hje : j = (g.2.2.1 a b).length := by omega
          refine ⟨ln a, by omega, by rw [m1]; exact hkb.1, by rw [m2]; exact hkb.2, ?_, ?_⟩
          · rw [ev_s hLp (by omega) (Or.inr (Nat.le_refl _))]; omega
          · rw [List.getElem?_append_right (by omega), ev_v hLp (by omega) (Or.inr (Nat.le_refl _)), hje]
            simp only [Nat.sub_self, List.getElem?_cons_zero]
            rw [((E a ha).1.2 b hb).1, (E a ha).1.1, nI_1]
            congr 3
            omega
      · rw [if_neg (show ¬ (a = a ∧ k = 1 ∧ ab = nI b) from fun z => hkb z.2), if_neg hkb]
        exact ⟨x1, x2, x3, x4, old⟩
    · rw [pv_up_n _ _ hap, if_neg (fun z => hap z.1), ev_s hLp (by omega) (Or.inl hap)]
      refine ⟨x1, x2, x3, x4, fun j hj => ?_⟩
      obtain ⟨k1, j1, j2, j3, j4, j5⟩ := x5 j hj
      obtain ⟨t1, t2, t3, t4⟩ := r_ev_at ρ p (ln p) k ab mk vl (512 * a + k1) (by omega)
      exact ⟨k1, j1, by rw [t1]; exact j2, by rw [t2]; exact j3, by rw [ev_s hLp (by omega) (Or.inl hap)]; exact j4, by rw [ev_v hLp (by omega) (Or.inl hap)]; exact j5⟩
  · rw [h1, hns]
    exact rrN_k hN (by rw [r_ev_k _ _ _ _ _ _ _ (by omega)]) (fun kk z1 z2 => r_ev_k _ _ _ _ _ _ _ (by omega))
