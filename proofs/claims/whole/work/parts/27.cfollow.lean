theorem k_follow_l (F n p i f : Nat) (hn : n ≤ 5) (hp : p < n) (o : Int32) (ns : List pv_N) (τ : mm_M) (c : Nat → Bool)
    (h0 : τ 0 0 0 = nI n) (h10 : ∀ q, q < n → τ 10 p q = nI (c q).toNat)
    (hlen : (ns ++ pv_sends n 2 i p c (fun _ => o)).length ≤ 4 * n * (n - 1)) :
    ∀ (r k K : Nat) (σ : mm_M), k + r = n → r < K → (∀ kk, kk ≠ 3 → kk ≠ 15 → σ kk = τ kk) → k_ln n (σ 3) (σ 15) f (ns ++ pv_sends k 2 i p c (fun _ => o)) →
      ∃ σ', f_X_follow_l16 F n (nI p) o p (nI i) K σ (nI k) = some σ' ∧ (∀ kk, kk ≠ 3 → kk ≠ 15 → σ' kk = τ kk) ∧ k_ln n (σ' 3) (σ' 15) f (ns ++ pv_sends n 2 i p c (fun _ => o)) := by
  intro r
  induction r with
  | zero =>
    intro k K σ hk hK g1 g4
    obtain ⟨K, rfl⟩ : ∃ K', K = K' + 1 := ⟨K - 1, by omega⟩
    have hk : k = n := by omega
    subst hk
    have e0 : σ 0 0 0 = nI k := by rw [g1 0 (by decide) (by decide)]; exact h0
    rw [f_X_follow_l16, e0, if_pos ((nn_le (by omega) (by omega)).mpr (by omega))]
    exact ⟨σ, rfl, g1, g4⟩
  | succ r ih =>
    intro k K σ hk hK g1 g4
    obtain ⟨K, rfl⟩ : ∃ K', K = K' + 1 := ⟨K - 1, by omega⟩
    have hkn : k < n := by omega
    have e0 : σ 0 0 0 = nI n := by rw [g1 0 (by decide) (by decide)]; exact h0
    have e10 : σ 10 p k = nI (c k).toNat := by rw [g1 10 (by decide) (by decide)]; exact h10 k hkn
    rw [f_X_follow_l16, e0, if_neg (by rw [nn_le (by omega) (by omega)]; omega), if_pos (nn_in hkn (by omega)), nn_c (by omega), e10]
    cases hck : c k with
    | false =>
      rw [if_pos (by decide), Option.bind_some, nI_1]
      have hs : pv_sends (k + 1) 2 i p c (fun _ => o) = pv_sends k 2 i p c (fun _ => o) := by rw [pv_sends_succ]; simp [hck]
      exact ih (k + 1) K σ (by omega) (by omega) g1 (by rw [hs]; exact g4)
    | true =>
      rw [if_neg (by decide)]
      have hs : pv_sends (k + 1) 2 i p c (fun _ => o) = pv_sends k 2 i p c (fun _ => o) ++ [(2, i, p, k, o)] := by rw [pv_sends_succ]; simp [hck]
      have hle : (ns ++ pv_sends (k + 1) 2 i p c (fun _ => o)).length ≤ 4 * n * (n - 1) := by
        have := pv_sends_le (k := 2) (i := i) (p := p) (c := c) (x := fun _ => o) (show k + 1 ≤ n by omega)
        rw [List.length_append] at hlen ⊢
        omega
      have hlt : (ns ++ pv_sends k 2 i p c (fun _ => o)).length < 4 * n * (n - 1) := by
        rw [hs] at hle
        simp only [List.length_append, List.length_cons, List.length_nil] at hle ⊢
        omega
      obtain ⟨σ2, a1, a2, a3⟩ := k_add F n σ hn g4 hlt 2 i p k o
      have a1 : f_L_add F n σ (2 : Int32) (nI i) (nI p) (nI k) o = some σ2 := a1
      rw [a1, Option.bind_some, Option.bind_some, nI_1]
      exact ih (k + 1) K σ2 (by omega) (by omega) (fun kk z1 z2 => by rw [a3 kk z1 z2]; exact g1 kk z1 z2) (by rw [hs, ← List.append_assoc]; exact a2)
theorem k_roll_l (F n p : Nat) (hn : n ≤ 5) (hp : p < n) (hF : 100 ≤ F) (τ : mm_M) (ch : Nat → Nat → List (Int32 × Int32)) (x : Nat → Int32)
    (h0 : τ 0 0 0 = nI n) (h8 : ∀ q, q < n → τ 8 (3 * p) q = x q) :
    ∀ (r k K : Nat) (σ : mm_M), k + r = n → r < K → (∀ kk, kk ≠ 11 → kk ≠ 12 → kk ≠ 13 → σ kk = τ kk) → rcH n (σ 11) (σ 12) (σ 13) (fun a b => if a = p ∧ b < k then (ch a b).filter (fun m => decide (m.1 ≤ x b)) else ch a b) →
      ∃ σ', f_X_rollBack_l20 F n (nI p) p K σ (nI k) = some σ' ∧ (∀ kk, kk ≠ 11 → kk ≠ 12 → kk ≠ 13 → σ' kk = τ kk) ∧ rcH n (σ' 11) (σ' 12) (σ' 13) (fun a b => if a = p ∧ b < n then (ch a b).filter (fun m => decide (m.1 ≤ x b)) else ch a b) := by
  intro r
  induction r with
  | zero =>
    intro k K σ hk hK g1 g4
    obtain ⟨K, rfl⟩ : ∃ K', K = K' + 1 := ⟨K - 1, by omega⟩
    have hk : k = n := by omega
    subst hk
    have e0 : σ 0 0 0 = nI k := by rw [g1 0 (by decide) (by decide) (by decide)]; exact h0
    rw [f_X_rollBack_l20, e0, if_pos ((nn_le (by omega) (by omega)).mpr (by omega))]
    exact ⟨σ, rfl, g1, g4⟩
  | succ r ih =>
    intro k K σ hk hK g1 g4
    obtain ⟨K, rfl⟩ : ∃ K', K = K' + 1 := ⟨K - 1, by omega⟩
    have hkn : k < n := by omega
    have e0 : σ 0 0 0 = nI n := by rw [g1 0 (by decide) (by decide) (by decide)]; exact h0
    have e8 : σ 8 (3 * p) k = x k := by rw [g1 8 (by decide) (by decide) (by decide)]; exact h8 k hkn
    rw [f_X_rollBack_l20, e0, if_neg (by rw [nn_le (by omega) (by omega)]; omega), k_channelOf F n σ p k hn hp hkn e0, Option.bind_some, if_pos (nn_in hkn (by omega)), nn_c (by omega), e8]
    have hch : k_ch (σ 11) (σ 12) (σ 13) (p * n + k) (ch p k) := by
      have := g4 p k hp hkn
      simpa using this
    obtain ⟨σ2, a1, a2, a3, a4⟩ := k_takeAbove F n σ (p * n + k) (x k) (ch p k) hF hch
    rw [a1, Option.bind_some, nI_1]
    refine ih (k + 1) K σ2 (by omega) (by omega) (fun kk z1 z2 z3 => by rw [a3 kk z1 z2 z3]; exact g1 kk z1 z2 z3) (fun a b ha hb => ?_)
    by_cases hab : a = p ∧ b = k
    · obtain ⟨rfl, rfl⟩ := hab
      simp
      exact a2
    · have hne : a * n + b ≠ p * n + k := fun z => hab (ix_inj hb hkn z)
      have h3 := g4 a b ha hb
      unfold k_ch at h3 ⊢
      rw [a4 11 _ hne, a4 12 _ hne, a4 13 _ hne]
      have e : (if a = p ∧ b < k + 1 then List.filter (fun m => decide (m.1 ≤ x b)) (ch a b) else ch a b) = (if a = p ∧ b < k then List.filter (fun m => decide (m.1 ≤ x b)) (ch a b) else ch a b) := by
        by_cases hap : a = p
        · have : b ≠ k := fun z => hab ⟨hap, z⟩
          have : b < k + 1 ↔ b < k := by omega
          simp [this]
        · simp [hap]
      simp only [e]
      exact h3
theorem s_aw_c {n : Nat} {a a' : Nat → Nat → Nat → Nat} {p : Nat} (h : ∀ q, q < n → a' 2 p q = a 2 p q) : s_aw n a' p = s_aw n a p := by
  unfold s_aw
  apply List.countP_congr
  intro q hq
  rw [h q (List.mem_range.mp hq)]
/-- rollBack -/
theorem k_rollBack (F n p f : Nat) (hd : List pv_N) (g : sg) (σ : mm_M) (hF : 100 ≤ F) (hn : n ≤ 5) (h : rc n hd g f σ) (hp : p < n) :
    ∃ σ', f_X_rollBack F n σ (nI p) = some σ' ∧ rc n hd (s_roll n g p) f σ' := by
  obtain ⟨⟨A1, A2, A3, A4, A5⟩, hV, hH, hN⟩ := h
  unfold f_X_rollBack
  rw [if_pos (nn_in hp (by omega)), nn_c (by omega), k_copyFrom F n _ _ σ hn hF (by omega), Option.bind_some, show (0 : Int32) = nI 0 from rfl]
  have tk : ∀ k, k ≠ 7 → k ≠ 8 → k ≠ 9 → k_cp n σ (3 * p) (3 * p + 1) k = σ k := fun k z1 z2 z3 => k_cp_n n σ _ _ z1 z2 z3
  obtain ⟨σ1, d1, d2, d3⟩ := k_roll_l F n p hn hp hF (k_cp n σ (3 * p) (3 * p + 1)) g.2.2.1 (fun q => g.2.1 1 (3 * p + 1) q)
    (by rw [tk 0 (by decide) (by decide) (by decide)]; exact A1) (fun q hq => by
      simp [k_cp, hq]
      exact (hV.2 (3 * p + 1) q (by omega) hq).1) n 0 F (k_cp n σ (3 * p) (3 * p + 1)) (by omega) (by omega) (fun _ _ _ _ => rfl) (by
      rw [tk 11 (by decide) (by decide) (by decide), tk 12 (by decide) (by decide) (by decide), tk 13 (by decide) (by decide) (by decide)]
      intro a b ha hb
      simp
      exact hH a b ha hb)
  rw [d1, Option.bind_some]
  have s1 : ∀ k, k ≠ 11 → k ≠ 12 → k ≠ 13 → k ≠ 7 → k ≠ 8 → k ≠ 9 → σ1 k = σ k := fun k z1 z2 z3 z4 z5 z6 => by rw [d2 k z1 z2 z3, tk k z4 z5 z6]
  have s6 : σ1 6 = σ 6 := s1 6 (by decide) (by decide) (by decide) (by decide) (by decide) (by decide)
  refine ⟨_, rfl, ⟨?_, ?_, fun j hj => ?_, fun a ha => ?_, fun a q ha hq => ?_⟩, ?_, ?_, ?_⟩
  · rw [mm_sn _ _ _ _ (by decide), mm_sn _ _ _ _ (by decide), s1 0 (by decide) (by decide) (by decide) (by decide) (by decide) (by decide)]; exact A1
  · rw [mm_sn _ _ _ _ (by decide), mm_sn _ _ _ _ (by decide), s1 0 (by decide) (by decide) (by decide) (by decide) (by decide) (by decide)]; exact A2
  · rw [mm_sn _ _ _ _ (by decide), mm_sn _ _ _ _ (by decide), mm_sn _ _ _ _ (by decide), mm_sn _ _ _ _ (by decide), s1 4 (by decide) (by decide) (by decide) (by decide) (by decide) (by decide), s1 5 (by decide) (by decide) (by decide) (by decide) (by decide) (by decide)]
    exact A3 j hj
  · obtain ⟨B1, B2, B3, B4, B5, B6, B7, B8⟩ := A4 a ha
    have haw : s_aw n (s_roll n g p).1 a = s_aw n g.1 a := s_aw_c (fun q _ => by simp [s_roll])
    rw [haw]
    by_cases hap : a = p
    · subst hap
      simp [mm_st, s_roll, s6, B1, B2, B3, B4, B5, B6, B7, B8, nI_1]
    · simp [mm_st, s_roll, s6, hap, B1, B2, B3, B4, B5, B6, B7, B8]
  · rw [mm_sn _ _ _ _ (by decide), mm_sn _ _ _ _ (by decide), s1 10 (by decide) (by decide) (by decide) (by decide) (by decide) (by decide), A5 a q ha hq]
    simp [s_roll]
  · rw [mm_sn _ _ _ _ (by decide), mm_sn _ _ _ _ (by decide), mm_sn _ _ _ _ (by decide), mm_sn _ _ _ _ (by decide), mm_sn _ _ _ _ (by decide), mm_sn _ _ _ _ (by decide), d2 7 (by decide) (by decide) (by decide), d2 8 (by decide) (by decide) (by decide), d2 9 (by decide) (by decide) (by decide)]
    exact rcV_cp hV (by omega)
  · rw [mm_sn _ _ _ _ (by decide), mm_sn _ _ _ _ (by decide), mm_sn _ _ _ _ (by decide), mm_sn _ _ _ _ (by decide), mm_sn _ _ _ _ (by decide), mm_sn _ _ _ _ (by decide)]
    exact d3
  · rw [mm_sn _ _ _ _ (by decide), mm_sn _ _ _ _ (by decide), mm_sn _ _ _ _ (by decide), mm_sn _ _ _ _ (by decide), s1 3 (by decide) (by decide) (by decide) (by decide) (by decide) (by decide), s1 15 (by decide) (by decide) (by decide) (by decide) (by decide) (by decide)]
    exact hN
/-- makePermanent -/
theorem k_perm (F n p f : Nat) (hd : List pv_N) (g : sg) (σ : mm_M) (hF : 100 ≤ F) (hn : n ≤ 5) (h : rc n hd g f σ) (hp : p < n) :
    ∃ σ', f_M_makePermanent F n σ p = some σ' ∧ rc n hd (s_perm g p) f σ' := by
  obtain ⟨⟨A1, A2, A3, A4, A5⟩, hV, hH, hN⟩ := h
  unfold f_M_makePermanent
  rw [k_copyFrom F n _ _ σ hn hF (by omega), Option.bind_some]
  have tk : ∀ k, k ≠ 7 → k ≠ 8 → k ≠ 9 → k_cp n σ (3 * p + 1) (3 * p + 2) k = σ k := fun k z1 z2 z3 => k_cp_n n σ _ _ z1 z2 z3
  have s6 := tk 6 (by decide) (by decide) (by decide)
  refine ⟨_, rfl, ⟨?_, ?_, fun j hj => ?_, fun a ha => ?_, fun a q ha hq => ?_⟩, ?_, ?_, ?_⟩
  · rw [mm_sn _ _ _ _ (by decide), tk 0 (by decide) (by decide) (by decide)]; exact A1
  · rw [mm_sn _ _ _ _ (by decide), tk 0 (by decide) (by decide) (by decide)]; exact A2
  · rw [mm_sn _ _ _ _ (by decide), mm_sn _ _ _ _ (by decide), tk 4 (by decide) (by decide) (by decide), tk 5 (by decide) (by decide) (by decide)]
    exact A3 j hj
  · obtain ⟨B1, B2, B3, B4, B5, B6, B7, B8⟩ := A4 a ha
    have haw : s_aw n (s_perm g p).1 a = s_aw n g.1 a := s_aw_c (fun q _ => by simp [s_perm, s_num, sn_st, s_copy])
    rw [haw]
    by_cases hap : a = p
    · subst hap
      simp [mm_st, s_perm, s_num, sn_st, s_copy, s6, B1, B2, B3, B4, B5, B6, B7, B8, nI_1]
    · simp [mm_st, s_perm, s_num, sn_st, s_copy, s6, hap, B1, B2, B3, B4, B5, B6, B7, B8]
  · rw [mm_sn _ _ _ _ (by decide), tk 10 (by decide) (by decide) (by decide), A5 a q ha hq]
    simp [s_perm, s_num, sn_st, s_copy]
  · rw [mm_sn _ _ _ _ (by decide), mm_sn _ _ _ _ (by decide), mm_sn _ _ _ _ (by decide)]
    exact rcV_cp hV (by omega)
  · rw [mm_sn _ _ _ _ (by decide), mm_sn _ _ _ _ (by decide), mm_sn _ _ _ _ (by decide), tk 11 (by decide) (by decide) (by decide), tk 12 (by decide) (by decide) (by decide), tk 13 (by decide) (by decide) (by decide)]
    exact hH
  · rw [mm_sn _ _ _ _ (by decide), mm_sn _ _ _ _ (by decide), tk 3 (by decide) (by decide) (by decide), tk 15 (by decide) (by decide) (by decide)]
    exact hN
theorem s_follow_ns (n : Nat) (g : sg) (p : Nat) (o : Int32) : (s_follow n g p o).2.2.2 = g.2.2.2 ++ pv_sends n 2 (gI g p) p (gC g p) (fun _ => o) := by
  simp only [s_follow]
  split
  · split
    · rfl
    · rfl
  · rfl
/-- follow -/
theorem k_follow (F n p f : Nat) (hd : List pv_N) (g : sg) (σ : mm_M) (o : Int32) (hF : 100 ≤ F) (hw : gw n g) (h : rc n hd g f σ) (hp : p < n)
    (hlen : (hd ++ (s_follow n g p o).2.2.2).length ≤ 4 * n * (n - 1)) :
    ∃ σ', f_X_follow F n σ (nI p) o = some σ' ∧ rc n hd (s_follow n g p o) f σ' := by
  obtain ⟨⟨A1, A2, A3, A4, A5⟩, hV, hH, hN⟩ := h
  obtain ⟨w1, w2, w3, w4, w5, w6, w7, w8, w9, w10⟩ := hw
  have hI : g.1 0 p 0 ≤ 512 := w10 p hp
  unfold f_X_follow
  rw [if_pos (nn_in hp (by omega)), nn_c (by omega), (A4 p hp).2.2.2.1, show (0 : Int32) = nI 0 from rfl]
  rw [s_follow_ns, ← List.append_assoc] at hlen
  obtain ⟨σ1, d1, d2, d3⟩ := k_follow_l F n p (gI g p) f w2 hp o (hd ++ g.2.2.2) σ (gC g p) A1 (fun q hq => by
      rw [A5 p q hp hq]
      have := (w6 p q).1
      rcases (show g.1 1 p q = 0 ∨ g.1 1 p q = 1 by omega) with e | e <;> simp [gC, e]) hlen n 0 F σ (by omega) (by omega) (fun _ _ _ => rfl) (by
      have : pv_sends 0 2 (gI g p) p (gC g p) (fun _ => o) = [] := rfl
      rw [this, List.append_nil]; exact hN)
  have d1 : f_X_follow_l16 F n (nI p) o p (nI (g.1 0 p 0)) F σ (nI 0) = some σ1 := d1
  rw [d1, Option.bind_some]
  have h1 : rc n hd (s_num (s_notes g (pv_sends n 2 (gI g p) p (gC g p) (fun _ => o))) 0 p 0 0) f (mm_st σ1 6 p 6 (nI 0)) := by
    refine ⟨⟨?_, ?_, fun j hj => ?_, fun a ha => ?_, fun a q ha hq => ?_⟩, ?_, ?_, ?_⟩
    · rw [mm_sn _ _ _ _ (by decide), d2 0 (by decide) (by decide)]; exact A1
    · rw [mm_sn _ _ _ _ (by decide), d2 0 (by decide) (by decide)]; exact A2
    · rw [mm_sn _ _ _ _ (by decide), mm_sn _ _ _ _ (by decide), d2 4 (by decide) (by decide), d2 5 (by decide) (by decide)]
      exact A3 j hj
    · obtain ⟨B1, B2, B3, B4, B5, B6, B7, B8⟩ := A4 a ha
      have haw : s_aw n (s_num (s_notes g (pv_sends n 2 (gI g p) p (gC g p) (fun _ => o))) 0 p 0 0).1 a = s_aw n g.1 a := s_aw_c (fun q _ => by simp [s_num, s_notes, sn_st])
      rw [haw]
      have s6 := d2 6 (by decide) (by decide)
      by_cases hap : a = p
      · subst hap
        simp [mm_st, s_num, s_notes, sn_st, s6, B1, B2, B3, B4, B5, B6, B7, B8]
      · simp [mm_st, s_num, s_notes, sn_st, s6, hap, B1, B2, B3, B4, B5, B6, B7, B8]
    · rw [mm_sn _ _ _ _ (by decide), d2 10 (by decide) (by decide), A5 a q ha hq]
      simp [s_num, s_notes, sn_st]
    · rw [mm_sn _ _ _ _ (by decide), mm_sn _ _ _ _ (by decide), mm_sn _ _ _ _ (by decide), d2 7 (by decide) (by decide), d2 8 (by decide) (by decide), d2 9 (by decide) (by decide)]
      exact hV
    · rw [mm_sn _ _ _ _ (by decide), mm_sn _ _ _ _ (by decide), mm_sn _ _ _ _ (by decide), d2 11 (by decide) (by decide), d2 12 (by decide) (by decide), d2 13 (by decide) (by decide)]
      exact hH
    · rw [mm_sn _ _ _ _ (by decide), mm_sn _ _ _ _ (by decide)]
      have e : hd ++ (s_num (s_notes g (pv_sends n 2 (gI g p) p (gC g p) (fun _ => o))) 0 p 0 0).2.2.2 = hd ++ g.2.2.2 ++ pv_sends n 2 (gI g p) p (gC g p) (fun _ => o) := by
        rw [List.append_assoc]; rfl
      rw [e]
      exact d3
  simp only [s_follow]
  by_cases ho : o = 1
  · rw [if_pos ho, if_pos ho, if_pos (nn_in (show g.1 0 p 0 < 513 by omega) (by omega)), nn_c (by omega), d2 4 (by decide) (by decide), (A3 (g.1 0 p 0) hI).1]
    have h11 := (w5 (g.1 0 p 0)).1
    by_cases hk : g.1 11 (g.1 0 p 0) 0 = 1
    · rw [if_neg (by rw [nn_eq (by omega) (by omega)]; omega), if_pos hk]
      obtain ⟨σ2, e1, e2⟩ := k_rollBack F n p f hd _ _ hF w2 h1 hp
      rw [e1]
      exact ⟨σ2, rfl, e2⟩
    · rw [if_pos (by rw [nn_eq (by omega) (by omega)]; omega), if_neg hk]
      obtain ⟨σ2, e1, e2⟩ := k_perm F n p f hd _ _ hF w2 h1 hp
      rw [e1]
      exact ⟨σ2, rfl, e2⟩
  · rw [if_neg ho, if_neg ho]
    exact ⟨_, rfl, h1⟩
