/-! the line of notes -/
def k_ix (cap f j : Nat) : Nat := if f + j < cap then f + j else f + j - cap
def k_nt (s15 : Nat → Nat → Int32) (k : Nat) (m : pv_N) : Prop := s15 k 0 = nI m.1 ∧ s15 k 1 = nI m.2.1 ∧ s15 k 2 = nI m.2.2.1 ∧ s15 k 3 = nI m.2.2.2.1 ∧ s15 k 4 = m.2.2.2.2
def k_ln (n : Nat) (s3 s15 : Nat → Nat → Int32) (f : Nat) (ns : List pv_N) : Prop := f < 4 * n * (n - 1) ∧ s3 0 1 = nI f ∧ s3 0 2 = nI ns.length ∧ ns.length ≤ 4 * n * (n - 1) ∧ ∀ j m, ns[j]? = some m → k_nt s15 (k_ix (4 * n * (n - 1)) f j) m
theorem k_cap {n : Nat} (hn : n ≤ 5) : 4 * n * (n - 1) ≤ 80 := by
  rcases (show n = 0 ∨ n = 1 ∨ n = 2 ∨ n = 3 ∨ n = 4 ∨ n = 5 by omega) with rfl | rfl | rfl | rfl | rfl | rfl <;> decide
theorem k_wrapped (F n : Nat) (σ : mm_M) (hn : n ≤ 5) {a : Nat} (ha : a ≤ 1000) : f_L_wrapped F n σ (nI a) = some (nI (if a < 4 * n * (n - 1) then a else a - 4 * n * (n - 1))) := by
  have hc := k_cap hn
  unfold f_L_wrapped
  generalize 4 * n * (n - 1) = cap at *
  by_cases h : a < cap
  · rw [if_neg (by rw [nn_le (by omega) (by omega)]; omega), if_pos h]; rfl
  · rw [if_pos ((nn_le (by omega) (by omega)).mpr (by omega)), if_neg h, pk_sub (by omega)]; rfl
theorem k_add (F n : Nat) (σ : mm_M) (hn : n ≤ 5) {f : Nat} {ns : List pv_N} (h : k_ln n (σ 3) (σ 15) f ns) (hl : ns.length < 4 * n * (n - 1)) (k i a b : Nat) (x : Int32) :
    ∃ σ', f_L_add F n σ (nI k) (nI i) (nI a) (nI b) x = some σ' ∧ k_ln n (σ' 3) (σ' 15) f (ns ++ [(k, i, a, b, x)]) ∧ ∀ kk, kk ≠ 3 → kk ≠ 15 → σ' kk = σ kk := by
  obtain ⟨h1, h2, h3, h4, h5⟩ := h
  have hc := k_cap hn
  unfold f_L_add
  rw [h3, if_pos ((nn_lt (by omega) (by omega)).mpr hl), h2, nI_add, k_wrapped F n σ hn (by omega), Option.bind_some]
  have hix : (if f + ns.length < 4 * n * (n - 1) then f + ns.length else f + ns.length - 4 * n * (n - 1)) = k_ix (4 * n * (n - 1)) f ns.length := rfl
  rw [hix]
  generalize hcap : 4 * n * (n - 1) = cap at *
  have hk : k_ix cap f ns.length < cap := by unfold k_ix; split <;> omega
  have hk2 : ∀ j, j < ns.length → k_ix cap f j ≠ k_ix cap f ns.length := by
    intro j hj
    unfold k_ix
    split <;> split <;> omega
  generalize k_ix cap f ns.length = q at *
  rw [if_pos (nn_in hk (by omega)), nn_c (by omega)]
  refine ⟨_, rfl, ?_, fun kk g1 g2 => ?_⟩
  · unfold k_ln
    rw [hcap]
    refine ⟨h1, by simp [mm_st, h2], ?_, by simp; omega, fun j m hm => ?_⟩
    · simp only [mm_st]
      simp [nI_1]
    · by_cases hj : j < ns.length
      · rw [List.getElem?_append_left hj] at hm
        have := hk2 j hj
        have h6 := h5 j m hm
        unfold k_nt at h6 ⊢
        simp [mm_st, this, h6]
      · have hj2 : j = ns.length := by
          have := (List.getElem?_eq_some_iff.mp hm).1
          simp at this
          omega
        subst hj2
        rw [List.getElem?_append_right (Nat.le_refl _)] at hm
        simp at hm
        subst hm
        have : k_ix cap f ns.length = q := by assumption
        rw [this]
        unfold k_nt
        simp [mm_st]
  · rw [mm_sn _ _ _ _ g1, mm_sn _ _ _ _ g2, mm_sn _ _ _ _ g2, mm_sn _ _ _ _ g2, mm_sn _ _ _ _ g2, mm_sn _ _ _ _ g2]
theorem k_first (F n : Nat) (σ : mm_M) (hn : n ≤ 5) {f : Nat} {ns : List pv_N} (h : k_ln n (σ 3) (σ 15) f ns) : f_L_first F n σ = some f := by
  have hc := k_cap hn
  unfold f_L_first
  rw [h.2.1, if_pos (nn_in h.1 (by omega)), nn_c (by have := h.1; omega)]
theorem k_lineTake (F n : Nat) (σ : mm_M) (hn : n ≤ 5) {f : Nat} {m : pv_N} {ns : List pv_N} (h : k_ln n (σ 3) (σ 15) f (m :: ns)) :
    ∃ σ' f', f_L_takeFirst F n σ = some σ' ∧ k_ln n (σ' 3) (σ' 15) f' ns ∧ ∀ kk, kk ≠ 3 → σ' kk = σ kk := by
  obtain ⟨h1, h2, h3, h4, h5⟩ := h
  have hc := k_cap hn
  have h3 : σ 3 0 2 = nI (ns.length + 1) := h3
  have h4 : ns.length + 1 ≤ 4 * n * (n - 1) := h4
  unfold f_L_takeFirst
  rw [h3, show (0 : Int32) = nI 0 from rfl, if_neg (by rw [nn_le (by omega) (by omega)]; omega), h2, show (1 : Int32) = nI 1 from rfl, nI_add, k_wrapped F n σ hn (by omega), Option.bind_some, Option.bind_some]
  generalize hcap : 4 * n * (n - 1) = cap at *
  refine ⟨_, (if f + 1 < cap then f + 1 else f + 1 - cap), rfl, ?_, fun kk g1 => ?_⟩
  · unfold k_ln
    rw [hcap]
    refine ⟨by split <;> omega, by simp [mm_st], ?_, by omega, fun j x hx => ?_⟩
    · simp only [mm_st]
      simp
      exact nI_pred _
    · have h6 := h5 (j + 1) x (by simpa using hx)
      have hj : j < ns.length := (List.getElem?_eq_some_iff.mp hx).1
      have e : k_ix cap f (j + 1) = k_ix cap (if f + 1 < cap then f + 1 else f + 1 - cap) j := by
        unfold k_ix
        split <;> split <;> split <;> omega
      rw [← e]
      unfold k_nt at h6 ⊢
      rw [mm_sn _ _ _ _ (by decide), mm_sn _ _ _ _ (by decide)]
      exact h6
  · rw [mm_sn _ _ _ _ g1, mm_sn _ _ _ _ g1]
