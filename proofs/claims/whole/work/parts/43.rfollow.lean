theorem r_follow_l (F n p i z off : Nat) (c : Bool) (o : Int32) (hn : n ≤ 5) (hp : p < n) (ns : List pv_N) (τ : mm_M) (kd : Nat → Nat) (cc : Nat → Bool)
    (ho : s_wd (2, 0, 0, 0, o) = nI c.toNat) (t0 : τ 0 0 0 = nI n) (t11 : τ 11 0 p = nI i) (t12 : τ 12 0 p = nI z) (hz : z ≤ 1) (hkd : kd i = z) (t14 : τ 14 0 p = nI (bm n cc))
    (hlen : off + (ns ++ pv_sends n 2 i p cc (fun _ => o)).length ≤ 300) :
    ∀ (r k K : Nat) (ρ : mm_M), k + r = n → r < K → (∀ kk, nk kk → ρ kk = τ kk) → ρ 0 0 0 = τ 0 0 0 → ρ 0 0 16 = τ 0 0 16 → rrN off ρ kd (ns ++ pv_sends k 2 i p cc (fun _ => o)) →
      ∃ ρ', f_R_follow_l2 F n (nI p) (nI c.toNat) K ρ (nI k) = some ρ' ∧ (∀ kk, nk kk → ρ' kk = τ kk) ∧ ρ' 0 0 0 = τ 0 0 0 ∧ ρ' 0 0 16 = τ 0 0 16 ∧ rrN off ρ' kd (ns ++ pv_sends n 2 i p cc (fun _ => o)) := by
  intro r
  induction r with
  | zero =>
    intro k K ρ hk hK g1 g2 g3 g5
    obtain ⟨K, rfl⟩ : ∃ K', K = K' + 1 := ⟨K - 1, by omega⟩
    have hk : k = n := by omega
    subst hk
    have e0 : ρ 0 0 0 = nI k := by rw [g2]; exact t0
    rw [f_R_follow_l2, e0, if_pos ((nn_le (by omega) (by omega)).mpr (by omega))]
    exact ⟨ρ, rfl, g1, g2, g3, g5⟩
  | succ r ih =>
    intro k K ρ hk hK g1 g2 g3 g5
    obtain ⟨K, rfl⟩ : ∃ K', K = K' + 1 := ⟨K - 1, by omega⟩
    have hkn : k < n := by omega
    have e0 : ρ 0 0 0 = nI n := by rw [g2]; exact t0
    have e14 : ρ 14 0 p = nI (bm n cc) := by rw [g1 14 (by decide)]; exact t14
    have hbit : (((nI (bm n cc) >>> (nI k &&& 31)) &&& (1 : Int32)) = (1 : Int32)) ↔ cc k = true := by
      rw [i_bit _ (bm_32 hn cc) k (by omega), bm_bit]
      simp [hkn]
    rw [f_R_follow_l2, e0, if_neg (by rw [nn_le (by omega) (by omega)]; omega), if_pos (nn_in (show p < 5 by omega) (by omega)), nn_c (by omega), e14]
    cases hck : cc k with
    | false =>
      rw [if_neg (by rw [hbit, hck]; decide), Option.bind_some, nI_1]
      have hs : pv_sends (k + 1) 2 i p cc (fun _ => o) = pv_sends k 2 i p cc (fun _ => o) := by rw [pv_sends_succ]; simp [hck]
      exact ih (k + 1) K ρ (by omega) (by omega) g1 g2 g3 (by rw [hs]; exact g5)
    | true =>
      rw [if_pos (hbit.mpr hck)]
      have hs : pv_sends (k + 1) 2 i p cc (fun _ => o) = pv_sends k 2 i p cc (fun _ => o) ++ [(2, i, p, k, o)] := by rw [pv_sends_succ]; simp [hck]
      have hlt : off + (ns ++ pv_sends k 2 i p cc (fun _ => o)).length < 300 := by
        have h1 := pv_sends_le (k := 2) (i := i) (p := p) (c := cc) (x := fun _ => o) (show k + 1 ≤ n by omega)
        rw [hs] at h1
        simp only [List.length_append, List.length_cons, List.length_nil] at h1 hlen ⊢
        omega
      have hv : (if nI c.toNat = (0 : Int32) then some (0 : Int32) else some (1 : Int32)) = some (nI c.toNat) := by cases c <;> rfl
      have hwr := r_write F n ρ (off + (ns ++ pv_sends k 2 i p cc (fun _ => o)).length) 2 p k i z (nI c.toNat) g5.1 (by omega) (by omega) (by rw [g1 11 (by decide)]; exact t11) (by rw [g1 12 (by decide)]; exact t12) hz
      have hwr : f_R_write F n ρ (2 : Int32) (nI p) (nI k) (nI c.toNat) = _ := hwr
      rw [hv, Option.bind_some, hwr, Option.bind_some, Option.bind_some, nI_1]
      have hN := rrN_wr (m := (2, i, p, k, o)) (z := z) (x := nI c.toNat) g5 hlt hkd.symm ho.symm
      refine ih (k + 1) K _ (by omega) (by omega) (fun kk z1 => ?_) ?_ ?_ ?_
      · rw [r_wr_k _ _ _ _ _ _ _ _ z1]; exact g1 kk z1
      · rw [(r_wr_0 _ _ _ _ _ _ _ _).1]; exact g2
      · rw [(r_wr_0 _ _ _ _ _ _ _ _).2]; exact g3
      · rw [hs, ← List.append_assoc]; exact hN
theorem r_cut_l (F n p ln : Nat) (hF : 1000 ≤ F) (hn : n ≤ 5) (hp : p < n) (hl : ln ≤ 512) (τ : mm_M) (t0 : τ 0 0 0 = nI n) (t2 : τ 2 0 p = nI ln) :
    ∀ (r k K : Nat) (ρ : mm_M), k + r = n → r < K → (∀ kk, kk ≠ 9 → ρ kk = τ kk) → (∀ a j, ρ 9 a j = if a = 0 ∧ 5 * p ≤ j ∧ j < 5 * p + k then (if nI (l_s (τ 3 0) (τ 4 0) p (j - 5 * p) ln) ≤ τ 9 0 j then nI (l_s (τ 3 0) (τ 4 0) p (j - 5 * p) ln) else τ 9 0 j) else τ 9 a j) →
      ∃ ρ', f_R_cut_l31 F n (nI p) K ρ (nI k) = some ρ' ∧ (∀ kk, kk ≠ 9 → ρ' kk = τ kk) ∧ (∀ a j, ρ' 9 a j = if a = 0 ∧ 5 * p ≤ j ∧ j < 5 * p + n then (if nI (l_s (τ 3 0) (τ 4 0) p (j - 5 * p) ln) ≤ τ 9 0 j then nI (l_s (τ 3 0) (τ 4 0) p (j - 5 * p) ln) else τ 9 0 j) else τ 9 a j) := by
  intro r
  induction r with
  | zero =>
    intro k K ρ hk hK g1 g4
    obtain ⟨K, rfl⟩ : ∃ K', K = K' + 1 := ⟨K - 1, by omega⟩
    have hk : k = n := by omega
    subst hk
    have e0 : ρ 0 0 0 = nI k := by rw [g1 0 (by decide)]; exact t0
    rw [f_R_cut_l31, e0, if_pos ((nn_le (by omega) (by omega)).mpr (by omega))]
    exact ⟨ρ, rfl, g1, g4⟩
  | succ r ih =>
    intro k K ρ hk hK g1 g4
    obtain ⟨K, rfl⟩ : ∃ K', K = K' + 1 := ⟨K - 1, by omega⟩
    have hkn : k < n := by omega
    have e0 : ρ 0 0 0 = nI n := by rw [g1 0 (by decide)]; exact t0
    have e2 : ρ 2 0 p = nI ln := by rw [g1 2 (by decide)]; exact t2
    have hix : (5 : Int32) * nI p + nI k = nI (5 * p + k) := by rw [show (5 : Int32) = nI 5 from rfl, pk_mul, nI_add]
    have e9 : ρ 9 0 (5 * p + k) = τ 9 0 (5 * p + k) := by rw [g4]; simp
    rw [f_R_cut_l31, e0, if_neg (by rw [nn_le (by omega) (by omega)]; omega), if_pos (nn_in (show p < 5 by omega) (by omega)), nn_c (by omega), e2, r_sent F n p k ln ρ hF (by omega) hl, Option.bind_some, hix, if_pos (nn_in (show 5 * p + k < 25 by omega) (by omega)), nn_c (by omega), e9, g1 3 (by decide), g1 4 (by decide)]
    have hv : (if nI (l_s (τ 3 0) (τ 4 0) p k ln) ≤ τ 9 0 (5 * p + k) then some (nI (l_s (τ 3 0) (τ 4 0) p k ln)) else some (τ 9 0 (5 * p + k))) = some (if nI (l_s (τ 3 0) (τ 4 0) p k ln) ≤ τ 9 0 (5 * p + k) then nI (l_s (τ 3 0) (τ 4 0) p k ln) else τ 9 0 (5 * p + k)) := by split <;> rfl
    rw [hv, Option.bind_some, nI_1]
    refine ih (k + 1) K _ (by omega) (by omega) (fun kk z1 => ?_) (fun a j => ?_)
    · rw [mm_sn _ _ _ _ z1]; exact g1 kk z1
    · simp only [mm_st]
      rw [g4]
      by_cases haj : a = 0 ∧ j = 5 * p + k
      · obtain ⟨rfl, rfl⟩ := haj
        have e : 5 * p + k - 5 * p = k := by omega
        simp [e]
      · have h1 : ¬ (True ∧ a = 0 ∧ j = 5 * p + k) := fun z => haj z.2
        rw [if_neg h1]
        have e : (a = 0 ∧ 5 * p ≤ j ∧ j < 5 * p + (k + 1)) ↔ (a = 0 ∧ 5 * p ≤ j ∧ j < 5 * p + k) := by
          constructor
          · intro z; refine ⟨z.1, z.2.1, ?_⟩
            have : j ≠ 5 * p + k := fun w => haj ⟨z.1, w⟩
            omega
          · intro z; exact ⟨z.1, z.2.1, by omega⟩
        simp only [e]
theorem chs_cut {ρ ρ' : mm_M} {l : List (Int32 × Int32)} {p q ln kp gn : Nat} (h : chs ρ l p q ln gn) (hk : kp ≤ ln) (hl : ln ≤ 512) (e3 : ρ' 3 = ρ 3) (e4 : ρ' 4 = ρ 4) (e6 : ρ' 6 = ρ 6)
    (h9 : ρ' 9 0 (5 * p + q) = if nI (l_s (ρ 3 0) (ρ 4 0) p q kp) ≤ ρ 9 0 (5 * p + q) then nI (l_s (ρ 3 0) (ρ 4 0) p q kp) else ρ 9 0 (5 * p + q)) :
    chs ρ' (l.filter (fun m => decide (m.1 ≤ nI (l_s (ρ 3 0) (ρ 4 0) p q kp)))) p q kp (min gn (l_s (ρ 3 0) (ρ 4 0) p q kp)) := by
  obtain ⟨h1, h2, h3, h4, h5⟩ := h
  unfold chs
  rw [e3, e4, e6, h9, h1]
  have hs1 := l_s_le (ρ 3 0) (ρ 4 0) p q kp
  have hs2 := l_s_le (ρ 3 0) (ρ 4 0) p q ln
  have hm := l_s_mono (ρ 3 0) (ρ 4 0) p q hk
  generalize hS : l_s (ρ 3 0) (ρ 4 0) p q kp = S at *
  generalize hL : l_s (ρ 3 0) (ρ 4 0) p q ln = L at *
  have hlab : ∀ j, j < l.length → ∃ y, l[j]? = some (nI (gn + j + 1), y) := by
    intro j hj
    obtain ⟨k, -, -, -, -, e⟩ := h5 j hj
    exact ⟨_, e⟩
  have hfil : l.filter (fun m => decide (m.1 ≤ nI S)) = l.take (S - gn) := by
    clear h5 h1 h9
    have hlab' : ∀ j m, l[j]? = some m → m.1 = nI (gn + j + 1) := by
      intro j m hm
      obtain ⟨y, e⟩ := hlab j (List.getElem?_eq_some_iff.mp hm).1
      rw [e] at hm
      cases hm
      rfl
    have hb : gn + l.length ≤ 600 := by omega
    clear hlab h3 h4 h2 hm hs2
    induction l generalizing gn with
    | nil => simp
    | cons m l ih =>
      have hm0 : m.1 = nI (gn + 0 + 1) := hlab' 0 m rfl
      have hb' : gn + (l.length + 1) ≤ 600 := hb
      have ih := ih (gn := gn + 1) (fun j m' hm' => by
        have := hlab' (j + 1) m' hm'
        rw [this]
        congr 1
        omega) (by omega)
      by_cases hlt : gn < S
      · have e1 : decide (m.1 ≤ nI S) = true := by
          rw [hm0]
          simp only [decide_eq_true_eq]
          rw [nn_le (by omega) (by omega)]
          omega
        rw [List.filter_cons, if_pos e1, ih]
        obtain ⟨z, hz⟩ : ∃ z, S - gn = z + 1 := ⟨S - gn - 1, by omega⟩
        have hz2 : S - (gn + 1) = z := by omega
        rw [hz, hz2, List.take_succ_cons]
      · have e1 : ¬ (decide (m.1 ≤ nI S) = true) := by
          rw [hm0]
          simp only [decide_eq_true_eq]
          rw [nn_le (by omega) (by omega)]
          omega
        rw [List.filter_cons, if_neg e1, ih]
        have z1 : S - (gn + 1) = 0 := by omega
        have z2 : S - gn = 0 := by omega
        rw [z1, z2]
        simp
  rw [hfil]
  refine ⟨?_, by omega, ?_, ?_, fun j hj => ?_⟩
  · by_cases hle : S ≤ gn
    · rw [if_pos ((nn_le (by omega) (by omega)).mpr hle), Nat.min_eq_right hle]
    · rw [if_neg (by rw [nn_le (by omega) (by omega)]; exact hle), Nat.min_eq_left (by omega)]
  · rw [List.length_take]
    by_cases hle : S ≤ gn
    · rw [Nat.min_eq_right hle]; omega
    · rw [Nat.min_eq_left (show gn ≤ S by omega)]; omega
  · rw [List.length_take]; omega
  · rw [List.length_take] at hj
    obtain ⟨k, k1, k2, k3, k4, k5⟩ := h5 j (by omega)
    have hmin : min gn S = gn := Nat.min_eq_left (by omega)
    rw [hmin]
    refine ⟨k, ?_, k2, k3, k4, ?_⟩
    · rcases Nat.lt_or_ge k kp with z | z
      · exact z
      · have := l_s_mono (ρ 3 0) (ρ 4 0) p q z
        omega
    · rw [List.getElem?_take, if_pos (by omega)]
      exact k5
