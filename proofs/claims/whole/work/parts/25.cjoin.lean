theorem pv_sends_succ (n k i p : Nat) (c : Nat → Bool) (x : Nat → Int32) : pv_sends (n + 1) k i p c x = pv_sends n k i p c x ++ (if c n = true then [(k, i, p, n, x n)] else []) := by
  unfold pv_sends
  rw [List.range_succ, List.filter_append, List.map_append]
  by_cases hc : c n = true
  · simp [hc]
  · simp [hc]
theorem pv_sends_le {n k i p : Nat} {c : Nat → Bool} {x : Nat → Int32} {m : Nat} (h : m ≤ n) : (pv_sends m k i p c x).length ≤ (pv_sends n k i p c x).length := by
  induction n with
  | zero => have : m = 0 := by omega
            subst this; exact Nat.le_refl _
  | succ n ih =>
    by_cases hm : m = n + 1
    · subst hm; exact Nat.le_refl _
    · rw [pv_sends_succ, List.length_append]
      have := ih (by omega)
      omega
theorem k_newReceipt (F n : Nat) (σ : mm_M) (p q : Nat) (hn : n ≤ 5) (hq : q < n) : f_M_hasNewReceiptFrom F n σ p (nI q) = some (if σ 9 (3 * p + 1) q < σ 9 (3 * p) q then 1 else 0) := by
  unfold f_M_hasNewReceiptFrom
  rw [if_pos (nn_in hq (by omega)), nn_c (by omega)]
  by_cases h : σ 9 (3 * p + 1) q < σ 9 (3 * p) q
  · rw [if_neg (Int32.not_le.mpr h), Option.bind_some, if_pos (Or.inr rfl), if_pos h]
  · rw [if_pos (Int32.not_lt.mp h), Option.bind_some, if_pos (Or.inl rfl), if_neg h]
/-- the loop of join: the cohort, the answers awaited, the requests -/
theorem k_join_l (F n p i f : Nat) (rb : Bool) (hn : n ≤ 5) (hp : p < n) (r0 r1 s1 : Nat → Int32) (ns : List pv_N) (τ : mm_M)
    (h0 : τ 0 0 0 = nI n) (h9 : ∀ q, q < n → τ 9 (3 * p) q = r0 q ∧ τ 9 (3 * p + 1) q = r1 q ∧ τ 8 (3 * p + 1) q = s1 q)
    (asks : Nat → Bool) (hasks : asks = fun q => decide (q ≠ p) && (rb || decide (r1 q < r0 q))) (x : Nat → Int32) (hx : x = fun q => if rb then s1 q else r0 q)
    (hlen : (ns ++ pv_sends n 0 i p asks x).length ≤ 4 * n * (n - 1)) :
    ∀ (r k K : Nat) (σ : mm_M), k + r = n → r < K →
      (∀ kk, kk ≠ 3 → kk ≠ 15 → kk ≠ 10 → kk ≠ 6 → σ kk = τ kk) → (∀ a q, σ 10 a q = if a = p ∧ q < k then nI (asks q).toNat else τ 10 a q) → (∀ a j, σ 6 a j = if a = p ∧ j = 10 then nI ((List.range k).countP asks) else τ 6 a j) → k_ln n (σ 3) (σ 15) f (ns ++ pv_sends k 0 i p asks x) →
      ∃ σ', f_X_join_l46 F n (nI p) (nI i) p (nI rb.toNat) K σ (nI k) = some σ' ∧
        (∀ kk, kk ≠ 3 → kk ≠ 15 → kk ≠ 10 → kk ≠ 6 → σ' kk = τ kk) ∧ (∀ a q, σ' 10 a q = if a = p ∧ q < n then nI (asks q).toNat else τ 10 a q) ∧ (∀ a j, σ' 6 a j = if a = p ∧ j = 10 then nI ((List.range n).countP asks) else τ 6 a j) ∧ k_ln n (σ' 3) (σ' 15) f (ns ++ pv_sends n 0 i p asks x) := by
  intro r
  induction r with
  | zero =>
    intro k K σ hk hK g1 g2 g3 g4
    obtain ⟨K, rfl⟩ : ∃ K', K = K' + 1 := ⟨K - 1, by omega⟩
    have hk : k = n := by omega
    subst hk
    have e0 : σ 0 0 0 = nI k := by rw [g1 0 (by decide) (by decide) (by decide) (by decide)]; exact h0
    rw [f_X_join_l46, e0, if_pos ((nn_le (by omega) (by omega)).mpr (by omega))]
    exact ⟨σ, rfl, g1, g2, g3, g4⟩
  | succ r ih =>
    intro k K σ hk hK g1 g2 g3 g4
    obtain ⟨K, rfl⟩ : ∃ K', K = K' + 1 := ⟨K - 1, by omega⟩
    have hkn : k < n := by omega
    have e0 : σ 0 0 0 = nI n := by rw [g1 0 (by decide) (by decide) (by decide) (by decide)]; exact h0
    have e9 : σ 9 = τ 9 := g1 9 (by decide) (by decide) (by decide) (by decide)
    have e8 : σ 8 = τ 8 := g1 8 (by decide) (by decide) (by decide) (by decide)
    obtain ⟨q0, q1, q2⟩ := h9 k hkn
    rw [f_X_join_l46, e0, if_neg (by rw [nn_le (by omega) (by omega)]; omega)]
    have hu : (if nI k = nI p then some (0 : Int32) else if nI rb.toNat = (0 : Int32) then Option.bind (f_M_hasNewReceiptFrom F n σ p (nI k)) fun u5 => if u5 = (0 : Int32) then some (0 : Int32) else some (1 : Int32) else some (1 : Int32)) = some (nI (asks k).toNat) := by
      rw [hasks]
      by_cases hkp : k = p
      · subst hkp
        simp [nI_0]
      · rw [if_neg (by rw [nn_eq (by omega) (by omega)]; exact hkp)]
        cases rb with
        | true =>
          rw [if_neg (by decide)]
          simp [hkp]
          rfl
        | false =>
          rw [if_pos (by decide), k_newReceipt F n σ p k hn hkn, Option.bind_some, e9, q0, q1]
          by_cases hr : r1 k < r0 k
          · simp [hr, hkp]
            rfl
          · simp [hr, hkp]
            rfl
    rw [hu, Option.bind_some, if_pos (nn_in hkn (by omega)), nn_c (by omega)]
    have hz : mm_z (nI (asks k).toNat) := by cases asks k <;> first | exact Or.inl rfl | exact Or.inr rfl
    rw [if_pos hz]
    have hread : mm_st σ 10 p k (nI (asks k).toNat) 10 p k = nI (asks k).toNat := by simp [mm_st]
    rw [hread]
    cases hak : asks k with
    | false =>
      rw [if_pos (by decide), Option.bind_some, nI_1]
      have hs : pv_sends (k + 1) 0 i p asks x = pv_sends k 0 i p asks x := by rw [pv_sends_succ]; simp [hak]
      have hcn : (List.range (k + 1)).countP asks = (List.range k).countP asks := by rw [List.range_succ, List.countP_append]; simp [hak]
      refine ih (k + 1) K _ (by omega) (by omega) (fun kk z1 z2 z3 z4 => ?_) (fun a q => ?_) (fun a j => ?_) ?_
      · rw [mm_sn _ _ _ _ z3]; exact g1 kk z1 z2 z3 z4
      · simp only [mm_st]
        rw [g2 a q]
        by_cases haq : a = p ∧ q = k
        · obtain ⟨rfl, rfl⟩ := haq
          simp [hak]
        · have e1 : ¬ (True ∧ a = p ∧ q = k) := fun z => haq z.2
          rw [if_neg e1]
          by_cases hap : a = p
          · have : q ≠ k := fun z => haq ⟨hap, z⟩
            have : q < k + 1 ↔ q < k := by omega
            simp [this]
          · simp [hap]
      · rw [mm_sn _ _ _ _ (by decide), hcn]; exact g3 a j
      · rw [mm_sn _ _ _ _ (by decide), mm_sn _ _ _ _ (by decide), hs]; exact g4
    | true =>
      rw [if_neg (by decide)]
      have hs : pv_sends (k + 1) 0 i p asks x = pv_sends k 0 i p asks x ++ [(0, i, p, k, x k)] := by rw [pv_sends_succ]; simp [hak]
      have hcn : (List.range (k + 1)).countP asks = (List.range k).countP asks + 1 := by rw [List.range_succ, List.countP_append]; simp [hak]
      have hv : (if nI rb.toNat = (0 : Int32) then some (σ 9 (3 * p) k) else some (σ 8 (3 * p + 1) k)) = some (x k) := by
        rw [hx, e9, e8, q0, q2]
        cases rb with
        | true => rw [if_neg (by decide)]; rfl
        | false => rw [if_pos (by decide)]; rfl
      rw [hv, Option.bind_some]
      have hle : (ns ++ pv_sends (k + 1) 0 i p asks x).length ≤ 4 * n * (n - 1) := by
        have := pv_sends_le (k := 0) (i := i) (p := p) (c := asks) (x := x) (show k + 1 ≤ n by omega)
        rw [List.length_append] at hlen ⊢
        omega
      have hlt : (ns ++ pv_sends k 0 i p asks x).length < 4 * n * (n - 1) := by
        rw [hs] at hle
        simp only [List.length_append, List.length_cons, List.length_nil] at hle ⊢
        omega
      obtain ⟨σ2, a1, a2, a3⟩ := k_add F n (mm_st (mm_st σ 10 p k (nI true.toNat)) 6 p 10 (σ 6 p 10 + 1)) hn (f := f) (ns := ns ++ pv_sends k 0 i p asks x) (by rw [mm_sn _ _ _ _ (by decide), mm_sn _ _ _ _ (by decide), mm_sn _ _ _ _ (by decide), mm_sn _ _ _ _ (by decide)]; exact g4) hlt 0 i p k (x k)
      have a1 : f_L_add F n (mm_st (mm_st σ 10 p k (nI true.toNat)) 6 p 10 (σ 6 p 10 + 1)) (0 : Int32) (nI i) (nI p) (nI k) (x k) = some σ2 := a1
      rw [a1, Option.bind_some, Option.bind_some, nI_1]
      refine ih (k + 1) K σ2 (by omega) (by omega) (fun kk z1 z2 z3 z4 => ?_) (fun a q => ?_) (fun a j => ?_) ?_
      · rw [a3 kk z1 z2, mm_sn _ _ _ _ z4, mm_sn _ _ _ _ z3]; exact g1 kk z1 z2 z3 z4
      · rw [a3 10 (by decide) (by decide), mm_sn _ _ _ _ (by decide)]
        simp only [mm_st]
        rw [g2 a q]
        by_cases haq : a = p ∧ q = k
        · obtain ⟨rfl, rfl⟩ := haq
          simp [hak]
        · have e1 : ¬ (True ∧ a = p ∧ q = k) := fun z => haq z.2
          rw [if_neg e1]
          by_cases hap : a = p
          · have : q ≠ k := fun z => haq ⟨hap, z⟩
            have : q < k + 1 ↔ q < k := by omega
            simp [this]
          · simp [hap]
      · rw [a3 6 (by decide) (by decide)]
        simp only [mm_st]
        rw [g3 a j, hcn, g3 p 10]
        by_cases haj : a = p ∧ j = 10
        · obtain ⟨rfl, rfl⟩ := haj
          simp [nI_1]
        · have e1 : ¬ (True ∧ a = p ∧ j = 10) := fun z => haj z.2
          have e2 : ¬ (6 = 10 ∧ a = p ∧ j = k) := fun z => (by cases z.1)
          rw [if_neg e1, if_neg e2, if_neg haj, if_neg haj]
      · rw [hs, ← List.append_assoc]; exact a2
