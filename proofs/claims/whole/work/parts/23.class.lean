/-! small numbers -/
theorem nn_in {k m : Nat} (h : k < m) (hm : m ≤ 100000) : mm_in (nI k) m := by
  have e : (nI k).toInt = (k : Int) := nI_toInt (by omega)
  refine ⟨?_, ?_⟩
  · rw [e]; omega
  · rw [e]; omega
theorem nn_c {k : Nat} (h : k ≤ 100000) : Int32.toNatClampNeg (nI k) = k := nI_clamp (by omega)
theorem nn_z {k : Nat} (h : k ≤ 100000) : nI k = (0 : Int32) ↔ k = 0 := by
  rw [show (0 : Int32) = nI 0 from rfl]; exact nI_eq (by omega) (by omega)
theorem nn_1 {k : Nat} (h : k ≤ 100000) : nI k = (1 : Int32) ↔ k = 1 := by
  rw [show (1 : Int32) = nI 1 from rfl]; exact nI_eq (by omega) (by omega)
theorem nn_le {a b : Nat} (ha : a ≤ 100000) (hb : b ≤ 100000) : nI a ≤ nI b ↔ a ≤ b := nI_leI (by omega) (by omega)
theorem nn_lt {a b : Nat} (ha : a ≤ 100000) (hb : b ≤ 100000) : nI a < nI b ↔ a < b := nI_ltI (by omega) (by omega)
theorem nn_eq {a b : Nat} (ha : a ≤ 100000) (hb : b ≤ 100000) : nI a = nI b ↔ a = b := nI_eq (by omega) (by omega)
theorem mm_ss (σ : mm_M) (k i j : Nat) (v : Int32) : mm_st σ k i j v k = fun i' j' => if i' = i ∧ j' = j then v else σ k i' j' := by
  funext i' j'
  simp [mm_st]
theorem mm_sn (σ : mm_M) {k k' : Nat} (i j : Nat) (v : Int32) (h : k' ≠ k) : mm_st σ k i j v k' = σ k' := by
  funext i' j'
  simp [mm_st, h]
/-! State.copyFrom -/
theorem k_cp_l (F n d c : Nat) (hn : n ≤ 5) (hdc : c ≠ d) : ∀ (r k K : Nat) (σ : mm_M), k + r = n → r < K →
    f_S_copyFrom_l10 F n d c K σ (nI k) = some (fun k' i j => if i = d ∧ (k' = 8 ∨ k' = 9) ∧ k ≤ j ∧ j < n then σ k' c j else σ k' i j) := by
  intro r
  induction r with
  | zero =>
    intro k K σ hk hK
    obtain ⟨K, rfl⟩ : ∃ K', K = K' + 1 := ⟨K - 1, by omega⟩
    rw [f_S_copyFrom_l10, if_pos ((nn_le (by omega) (by omega)).mpr (by omega))]
    congr 1
    funext k' i j
    rw [if_neg (by omega)]
  | succ r ih =>
    intro k K σ hk hK
    obtain ⟨K, rfl⟩ : ∃ K', K = K' + 1 := ⟨K - 1, by omega⟩
    rw [f_S_copyFrom_l10, if_neg (by rw [nn_le (by omega) (by omega)]; omega), if_pos (nn_in (by omega) (by omega)), nI_1, nn_c (by omega), ih (k + 1) K _ (by omega) (by omega)]
    congr 1
    funext k' i j
    simp only [mm_st]
    grind
def k_cp (n : Nat) (σ : mm_M) (d c : Nat) : mm_M := fun k i j => if i = d ∧ ((k = 7 ∧ j = 0) ∨ ((k = 8 ∨ k = 9) ∧ j < n)) then σ k c j else σ k i j
theorem k_copyFrom (F n d c : Nat) (σ : mm_M) (hn : n ≤ 5) (hF : 100 ≤ F) (hdc : c ≠ d) : f_S_copyFrom F n σ d c = some (k_cp n σ d c) := by
  unfold f_S_copyFrom
  rw [show (0 : Int32) = nI 0 from rfl, k_cp_l F n d c hn hdc n 0 F _ (by omega) (by omega), Option.bind_some]
  congr 1
  funext k i j
  simp only [k_cp, mm_st]
  grind
/-! a channel -/
def k_ch (s11 s12 s13 : Nat → Nat → Int32) (c : Nat) (l : List (Int32 × Int32)) : Prop := s11 c 2 = nI l.length ∧ l.length ≤ 6 ∧ ∀ j, j < l.length → l[j]? = some (s12 c j, s13 c j)
def k_same (σ σ' : mm_M) (c : Nat) : Prop := (∀ k, k ≠ 11 → k ≠ 12 → k ≠ 13 → σ' k = σ k) ∧ ∀ k i, i ≠ c → σ' k i = σ k i
theorem k_put (F n : Nat) (σ : mm_M) (c : Nat) (a b : Int32) (l : List (Int32 × Int32)) (h : k_ch (σ 11) (σ 12) (σ 13) c l) (hl : l.length < 6) :
    ∃ σ', f_H_put F n σ c a b = some σ' ∧ k_ch (σ' 11) (σ' 12) (σ' 13) c (l ++ [(a, b)]) ∧ k_same σ σ' c := by
  obtain ⟨h1, h2, h3⟩ := h
  unfold f_H_put
  rw [h1, show (6 : Int32) = nI 6 from rfl, if_neg (by rw [nn_le (by omega) (by omega)]; omega), if_pos (nn_in hl (by omega)), Option.bind_some, nI_1, nn_c (by omega)]
  refine ⟨_, rfl, ⟨?_, ?_, fun j hj => ?_⟩, fun k g1 g2 g3 => ?_, fun k i hi => ?_⟩
  · simp [mm_st]
  · simp; omega
  · simp at hj
    simp only [mm_st]
    by_cases hjl : j = l.length
    · subst hjl
      simp
    · have : j < l.length := by omega
      rw [List.getElem?_append_left this, h3 j this]
      simp [hjl]
  · rw [mm_sn _ _ _ _ g1, mm_sn _ _ _ _ g3, mm_sn _ _ _ _ g2]
  · funext j
    simp [mm_st, hi]
theorem k_tf_l (F n c : Nat) : ∀ (r k m K : Nat) (σ : mm_M), k + r = m → 1 ≤ k → m ≤ 6 → r < K → σ 11 c 2 = nI m →
    f_H_takeFirst_l2 F n c K σ (nI k) = some (fun k' i j => if i = c ∧ (k' = 12 ∨ k' = 13) ∧ k ≤ j + 1 ∧ j + 1 < m then σ k' c (j + 1) else σ k' i j) := by
  intro r
  induction r with
  | zero =>
    intro k m K σ hk h1 hm hK hc
    obtain ⟨K, rfl⟩ : ∃ K', K = K' + 1 := ⟨K - 1, by omega⟩
    rw [f_H_takeFirst_l2, hc, if_pos ((nn_le (by omega) (by omega)).mpr (by omega))]
    congr 1
    funext k' i j
    rw [if_neg (by omega)]
  | succ r ih =>
    intro k m K σ hk h1 hm hK hc
    obtain ⟨K, rfl⟩ : ∃ K', K = K' + 1 := ⟨K - 1, by omega⟩
    obtain ⟨k0, rfl⟩ : ∃ k0, k = k0 + 1 := ⟨k - 1, by omega⟩
    rw [f_H_takeFirst_l2, hc, if_neg (by rw [nn_le (by omega) (by omega)]; omega), if_pos (nn_in (by omega) (by omega)), nI_pred, if_pos (nn_in (by omega) (by omega)), nI_1, nn_c (by omega), nn_c (by omega),
      ih (k0 + 1 + 1) m K _ (by omega) (by omega) hm (by omega) (by simp [mm_st, hc])]
    congr 1
    funext k' i j
    simp only [mm_st]
    grind
theorem k_takeFirst (F n : Nat) (σ : mm_M) (c : Nat) (x : Int32 × Int32) (l : List (Int32 × Int32)) (hF : 100 ≤ F) (h : k_ch (σ 11) (σ 12) (σ 13) c (x :: l)) :
    σ 12 c 0 = x.1 ∧ σ 13 c 0 = x.2 ∧ ∃ σ', f_H_takeFirst F n σ c = some σ' ∧ k_ch (σ' 11) (σ' 12) (σ' 13) c l ∧ k_same σ σ' c := by
  obtain ⟨h1, h2, h3⟩ := h
  have h0 := h3 0 (by simp)
  simp at h0
  have h1 : σ 11 c 2 = nI (l.length + 1) := h1
  have h2 : l.length + 1 ≤ 6 := h2
  refine ⟨by rw [h0], by rw [h0], ?_⟩
  unfold f_H_takeFirst
  rw [show (1 : Int32) = nI 1 from rfl, k_tf_l F n c l.length 1 (l.length + 1) F σ (by omega) (by omega) h2 (by omega) h1, Option.bind_some]
  refine ⟨_, rfl, ⟨?_, by omega, fun j hj => ?_⟩, fun k g1 g2 g3 => ?_, fun k i hi => ?_⟩
  · simp only [mm_st]
    simp [h1]
    rw [show nI (l.length + 1) - nI 1 = nI l.length from nI_pred _]
    by_cases hz : l.length = 0
    · rw [hz]
      simp [nI]
    · rw [if_pos]
      rw [show (0 : Int32) = nI 0 from rfl, nn_lt (by omega) (by omega)]
      omega
  · have h4 := h3 (j + 1) (by simp; omega)
    simp only [List.getElem?_cons_succ] at h4
    rw [h4]
    simp [mm_st, hj]
  · rw [mm_sn _ _ _ _ g1]
    funext i j
    simp [g2, g3]
  · funext j
    simp [mm_st, hi]
theorem k_ta_l (F n c : Nat) (x : Int32) (L : List (Int32 × Int32)) (hL : L.length ≤ 6) : ∀ (r i K : Nat) (σ : mm_M), i + r = L.length → r < K → σ 11 c 2 = nI L.length →
    (∀ j, i ≤ j → j < L.length → L[j]? = some (σ 12 c j, σ 13 c j)) →
    (∀ j, j < ((L.take i).filter (fun m => decide (m.1 ≤ x))).length → ((L.take i).filter (fun m => decide (m.1 ≤ x)))[j]? = some (σ 12 c j, σ 13 c j)) →
    ∃ σ', f_H_takeAbove_l4 F n c x K σ (nI ((L.take i).filter (fun m => decide (m.1 ≤ x))).length) (nI i) = some (σ', nI (L.filter (fun m => decide (m.1 ≤ x))).length) ∧
      (∀ j, j < (L.filter (fun m => decide (m.1 ≤ x))).length → (L.filter (fun m => decide (m.1 ≤ x)))[j]? = some (σ' 12 c j, σ' 13 c j)) ∧ (∀ k, k ≠ 12 → k ≠ 13 → σ' k = σ k) ∧ ∀ k i, i ≠ c → σ' k i = σ k i := by
  intro r
  induction r with
  | zero =>
    intro i K σ hi hK hc h1 h2
    obtain ⟨K, rfl⟩ : ∃ K', K = K' + 1 := ⟨K - 1, by omega⟩
    have hi : i = L.length := by omega
    subst hi
    rw [List.take_length] at h2 ⊢
    rw [f_H_takeAbove_l4, hc, if_pos ((nn_le (by omega) (by omega)).mpr (by omega))]
    exact ⟨σ, rfl, h2, fun _ _ _ => rfl, fun _ _ _ => rfl⟩
  | succ r ih =>
    intro i K σ hi hK hc h1 h2
    obtain ⟨K, rfl⟩ : ∃ K', K = K' + 1 := ⟨K - 1, by omega⟩
    have hlt : i < L.length := by omega
    have hLi : L[i]? = some (σ 12 c i, σ 13 c i) := h1 i (Nat.le_refl _) hlt
    have htake : L.take (i + 1) = L.take i ++ [(σ 12 c i, σ 13 c i)] := by
      rw [List.take_add_one, hLi]; rfl
    have hfl : ((L.take i).filter (fun m => decide (m.1 ≤ x))).length ≤ i := Nat.le_trans (List.length_filter_le _ _) (by simp; omega)
    rw [f_H_takeAbove_l4, hc, if_neg (by rw [nn_le (by omega) (by omega)]; omega), if_pos (nn_in (by omega) (by omega)), nn_c (by omega)]
    by_cases hx : x < σ 12 c i
    · have hnx : ¬ σ 12 c i ≤ x := Int32.not_le.mpr hx
      have hf : (L.take (i + 1)).filter (fun m => decide (m.1 ≤ x)) = (L.take i).filter (fun m => decide (m.1 ≤ x)) := by
        rw [htake, List.filter_append]; simp [hnx]
      rw [if_pos hx, Option.bind_some, nI_1]
      have := ih (i + 1) K σ (by omega) (by omega) hc (fun j g1 g2 => h1 j (by omega) g2) (by rw [hf]; exact h2)
      rw [hf] at this
      exact this
    · have hnx : σ 12 c i ≤ x := Int32.not_lt.mp hx
      have hf : (L.take (i + 1)).filter (fun m => decide (m.1 ≤ x)) = (L.take i).filter (fun m => decide (m.1 ≤ x)) ++ [(σ 12 c i, σ 13 c i)] := by
        rw [htake, List.filter_append]; simp [hnx]
      rw [if_neg hx, if_pos (nn_in (by omega) (by omega)), Option.bind_some, nI_1, nI_1, nn_c (by omega)]
      generalize hq : ((L.take i).filter (fun m => decide (m.1 ≤ x))).length = q at *
      obtain ⟨σ', g1, g2, g3, g4⟩ := ih (i + 1) K (mm_st (mm_st σ 12 c q (σ 12 c i)) 13 c q (σ 13 c i)) (by omega) (by omega) (by simp [mm_st, hc]) (fun j z1 z2 => by
          rw [h1 j (by omega) z2]
          have : j ≠ q := by omega
          simp [mm_st, this]) (fun j hj => by
          rw [hf] at hj ⊢
          simp only [List.length_append, List.length_cons, List.length_nil, hq] at hj
          by_cases hjq : j = q
          · subst hjq
            rw [List.getElem?_append_right (by omega), hq]
            simp [mm_st]
          · rw [List.getElem?_append_left (by omega), h2 j (by omega)]
            simp [mm_st, hjq])
      rw [hf] at g1
      simp only [List.length_append, List.length_cons, List.length_nil, hq] at g1
      refine ⟨σ', g1, g2, fun k z1 z2 => ?_, fun k i' hi' => ?_⟩
      · rw [g3 k z1 z2, mm_sn _ _ _ _ z2, mm_sn _ _ _ _ z1]
      · rw [g4 k i' hi']
        funext j
        simp [mm_st, hi']
theorem k_takeAbove (F n : Nat) (σ : mm_M) (c : Nat) (x : Int32) (l : List (Int32 × Int32)) (hF : 100 ≤ F) (h : k_ch (σ 11) (σ 12) (σ 13) c l) :
    ∃ σ', f_H_takeAbove F n σ c x = some σ' ∧ k_ch (σ' 11) (σ' 12) (σ' 13) c (l.filter (fun m => decide (m.1 ≤ x))) ∧ k_same σ σ' c := by
  obtain ⟨h1, h2, h3⟩ := h
  obtain ⟨σ', g1, g2, g3, g4⟩ := k_ta_l F n c x l h2 l.length 0 F σ (by omega) (by omega) h1 (fun j _ hj => h3 j hj) (fun j hj => by simp at hj)
  unfold f_H_takeAbove
  have g1 : f_H_takeAbove_l4 F n c x F σ (0 : Int32) (0 : Int32) = _ := g1
  rw [g1, Option.bind_some]
  refine ⟨_, rfl, ⟨?_, Nat.le_trans (List.length_filter_le _ _) h2, fun j hj => ?_⟩, fun k z1 z2 z3 => ?_, fun k i hi => ?_⟩
  · simp [mm_st]
  · rw [g2 j hj]
    simp [mm_st]
  · rw [mm_sn _ _ _ _ z1]; exact g3 k z2 z3
  · rw [← g4 k i hi]
    funext j
    simp [mm_st, hi]
