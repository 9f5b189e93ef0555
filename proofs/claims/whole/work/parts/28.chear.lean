theorem gw_enter {n : Nat} {g : sg} (hw : gw n g) {p i pa : Nat} (hi : i ≤ 512) (hpa : pa ≤ n) : gw n (s_enter n g p i (g.1 11 i 0 == 1) pa) := by
  obtain ⟨w1, w2, w3, w4, w5, w6, w7, w8, w9, w10⟩ := hw
  have hk := (w5 i).1
  refine ⟨w1, w2, by simpa [gInst, s_enter] using w3, fun a => ?_, fun j => by simpa [s_enter] using w5 j, fun a q => ?_, fun a => ?_, fun a ha hIa => ?_, fun a ha => ?_, fun a ha => ?_⟩
  · obtain ⟨b1, b2, b3⟩ := w4 a
    by_cases hap : a = p
    · subst hap
      simp only [s_enter]
      simp [b1]
      cases (g.1 11 i 0 == 1) <;> decide
    · simp [s_enter, hap, b1, b2, b3]
  · by_cases hap : a = p
    · simp only [s_enter]
      simp [hap]
      cases (decide (q < n) && s_asks g p (g.1 11 i 0 == 1) q) <;> decide
    · simpa [s_enter, hap] using w6 a q
  · by_cases hap : a = p
    · simp [s_enter, hap, s_asks]
    · simpa [s_enter, hap] using w7 a
  · by_cases hap : a = p
    · subst hap
      simp [gI, s_enter]
      rcases (show g.1 11 i 0 = 0 ∨ g.1 11 i 0 = 1 by omega) with e | e <;> simp [e]
    · have := w8 a ha
      simp [gI, s_enter, hap] at hIa this ⊢
      exact this hIa
  · by_cases hap : a = p
    · simpa [s_enter, hap] using hpa
    · simpa [s_enter, hap] using w9 a ha
  · by_cases hap : a = p
    · simpa [gI, s_enter, hap] using hi
    · simpa [gI, s_enter, hap] using w10 a ha
theorem gw_note {n : Nat} {g : sg} (hw : gw n g) (l : List pv_N) : gw n (s_notes g l) := hw
theorem gw_num {n : Nat} {g : sg} (hw : gw n g) {k i j v : Nat} (h : (k = 2 ∧ v = 0) ∨ (k = 10 ∧ v ≤ 1) ∨ (k = 4 ∧ v ≤ 2) ∨ (k = 0 ∧ v = 0) ∨ (k = 6 ∧ v ≤ 1) ∨ (k = 8) ∨ (k = 9)) : gw n (s_num g k i j v) := by
  obtain ⟨w1, w2, w3, w4, w5, w6, w7, w8, w9, w10⟩ := hw
  refine ⟨w1, w2, ?_, fun a => ?_, fun a => ?_, fun a q => ?_, fun a => ?_, fun a ha => ?_, fun a ha => ?_, fun a ha => ?_⟩
  · have := w3
    simp only [gInst, s_num, sn_st] at *
    split <;> omega
  · have := w4 a
    simp only [s_num, sn_st] at *
    refine ⟨?_, ?_, ?_⟩ <;> split <;> omega
  · have := w5 a
    simp only [s_num, sn_st] at *
    refine ⟨?_, ?_⟩ <;> split <;> omega
  · have := w6 a q
    simp only [s_num, sn_st] at *
    refine ⟨?_, ?_⟩ <;> split <;> omega
  · have := w7 a
    simp only [s_num, sn_st] at *
    split <;> omega
  · have := w8 a ha
    simp only [gI, s_num, sn_st] at *
    intro hz
    by_cases hc : 0 = k ∧ a = i ∧ 0 = j
    · rw [if_pos hc] at hz ⊢
      rcases h with h | h | h | h | h | h | h <;> omega
    · rw [if_neg hc] at hz ⊢
      have e1 : ¬ (7 = k ∧ a = i ∧ 0 = j) := by omega
      have e2 : ¬ (11 = k ∧ g.1 0 a 0 = i ∧ 0 = j) := by omega
      rw [if_neg e1, if_neg e2]
      exact this hz
  · have := w9 a ha
    simp only [s_num, sn_st] at *
    split <;> omega
  · have := w10 a ha
    simp only [gI, s_num, sn_st] at *
    split <;> omega
theorem gw_v {n : Nat} {g g' : sg} (hw : gw n g) (h : g'.1 = g.1) : gw n g' := by
  unfold gw at *
  simp only [gI, gInst, h] at *
  exact hw
theorem gw_roll {n : Nat} {g : sg} (hw : gw n g) (p : Nat) : gw n (s_roll n g p) := by
  have h1 : gw n (s_num (s_num g 9 p 0 (g.1 9 p 0 + 1)) 6 p 0 0) := gw_num (gw_num hw (by omega)) (by omega)
  refine gw_v h1 ?_
  funext k a b
  simp [s_roll, s_num, sn_st]
theorem gw_perm {n : Nat} {g : sg} (hw : gw n g) (p : Nat) : gw n (s_perm g p) := by
  have h1 : gw n (s_num g 8 p 0 (g.1 8 p 0 + 1)) := gw_num hw (by omega)
  exact gw_v h1 rfl
theorem gw_follow {n : Nat} {g : sg} (hw : gw n g) (p : Nat) (o : Int32) : gw n (s_follow n g p o) := by
  have h1 : gw n (s_num (s_notes g (pv_sends n 2 (gI g p) p (gC g p) (fun _ => o))) 0 p 0 0) := gw_num (gw_note hw _) (by omega)
  simp only [s_follow]
  split
  · split
    · exact gw_roll h1 p
    · exact gw_perm h1 p
  · exact h1
theorem gw_concl {n : Nat} {g : sg} (hw : gw n g) (p : Nat) : gw n (s_concl n g p) := by
  unfold s_concl
  split
  · exact hw
  · split
    · exact gw_note hw _
    · refine gw_follow (gw_num hw ?_) p _
      split <;> omega
theorem gw_hear {n : Nat} {g : sg} (hw : gw n g) {m : pv_N} (hi : m.2.1 ≤ 512) (ha : m.2.2.1 < n) : gw n (s_hear n g m) := by
  unfold s_hear
  split
  · split
    · exact gw_note hw _
    · split
      · exact gw_note hw _
      · split
        · exact gw_note hw _
        · split
          · exact gw_note hw _
          · exact gw_concl (gw_enter hw hi (by omega)) _
  · split
    · refine gw_concl ?_ _
      split
      · exact gw_num (gw_num hw (by omega)) (by omega)
      · exact gw_num hw (by omega)
    · split
      · exact gw_follow hw _ _
      · exact hw
theorem s_concl_ns (n : Nat) (g : sg) (p : Nat) : ∃ l, (s_concl n g p).2.2.2 = g.2.2.2 ++ l := by
  unfold s_concl
  split
  · exact ⟨[], by simp⟩
  · split
    · exact ⟨_, rfl⟩
    · exact ⟨_, s_follow_ns n _ p _⟩
theorem s_aw_0 {n : Nat} {g : sg} {p : Nat} : s_aw n g.1 p = 0 ↔ pv_op n (gU g) p = false := by
  unfold s_aw pv_op
  rw [List.countP_eq_zero, List.any_eq_false]
theorem s_aw_n (n : Nat) (a : Nat → Nat → Nat → Nat) (p : Nat) : s_aw n a p ≤ n := by
  unfold s_aw
  exact Nat.le_trans List.countP_le_length (by simp)
theorem nI_m1 {r : Nat} (h : r ≤ 100000) : nI r ≠ (-1 : Int32) := by
  intro e
  have h1 : (nI r).toInt = (r : Int) := nI_toInt (by omega)
  rw [e] at h1
  have : (-1 : Int32).toInt = -1 := by decide
  omega
theorem k_reply0 (F n f k i a b : Nat) (x : Int32) (hd : List pv_N) (g : sg) (σ : mm_M) (hn : n ≤ 5) (h : rc n hd g f σ) (hlen : (hd ++ (s_note g (k, i, a, b, x)).2.2.2).length ≤ 4 * n * (n - 1)) :
    ∃ σ', f_L_add F n σ (nI k) (nI i) (nI a) (nI b) x = some σ' ∧ rc n hd (s_note g (k, i, a, b, x)) f σ' := by
  obtain ⟨⟨A1, A2, A3, A4, A5⟩, hV, hH, hN⟩ := h
  have e : hd ++ (s_note g (k, i, a, b, x)).2.2.2 = hd ++ g.2.2.2 ++ [(k, i, a, b, x)] := by rw [List.append_assoc]; rfl
  rw [e] at hlen
  obtain ⟨σ', d1, d2, d3⟩ := k_add F n σ hn hN (by simp only [List.length_append, List.length_cons, List.length_nil] at hlen ⊢; omega) k i a b x
  refine ⟨σ', d1, ⟨?_, ?_, ?_, ?_, ?_⟩, ?_, ?_, ?_⟩
  · rw [d3 0 (by decide) (by decide)]; exact A1
  · rw [d3 0 (by decide) (by decide)]; exact A2
  · rw [d3 4 (by decide) (by decide), d3 5 (by decide) (by decide)]; exact A3
  · rw [d3 6 (by decide) (by decide)]; exact A4
  · rw [d3 10 (by decide) (by decide)]; exact A5
  · rw [d3 7 (by decide) (by decide), d3 8 (by decide) (by decide), d3 9 (by decide) (by decide)]; exact hV
  · rw [d3 11 (by decide) (by decide), d3 12 (by decide) (by decide), d3 13 (by decide) (by decide)]; exact hH
  · rw [e]; exact d2
/-- concludeWhenAnswered -/
theorem k_concl (F n p f : Nat) (hd : List pv_N) (g : sg) (σ : mm_M) (hF : 100 ≤ F) (hw : gw n g) (h : rc n hd g f σ) (hp : p < n)
    (hlen : (hd ++ (s_concl n g p).2.2.2).length ≤ 4 * n * (n - 1)) :
    ∃ σ', f_X_concludeWhenAnswered F n σ (nI p) = some σ' ∧ rc n hd (s_concl n g p) f σ' := by
  have hR := h
  obtain ⟨⟨A1, A2, A3, A4, A5⟩, hV, hH, hN⟩ := h
  obtain ⟨B1, B2, B3, B4, B5, B6, B7, B8⟩ := A4 p hp
  have hww := hw
  obtain ⟨w1, w2, w3, w4, w5, w6, w7, w8, w9, w10⟩ := hw
  have hI : g.1 0 p 0 ≤ 512 := w10 p hp
  have haw := s_aw_n n g.1 p
  have hyes := (w4 p).2.2
  unfold f_X_concludeWhenAnswered
  rw [if_pos (nn_in hp (by omega)), nn_c (by omega), B7, B6, B8, B4]
  unfold s_concl at hlen ⊢
  cases hop : pv_op n (gU g) p with
  | true =>
    have : s_aw n g.1 p ≠ 0 := fun z => by rw [s_aw_0.mp z] at hop; cases hop
    rw [if_neg (by rw [show (0 : Int32) = nI 0 from rfl, nn_le (by omega) (by omega)]; omega)]
    exact ⟨σ, rfl, hR⟩
  | false =>
    have h0 : s_aw n g.1 p = 0 := s_aw_0.mpr hop
    rw [hop] at hlen
    rw [if_pos (by rw [h0]; decide)]
    have hyv : (if nI (g.1 10 p 0) = (0 : Int32) then some (0 : Int32) else some (1 : Int32)) = some (nI (g.1 10 p 0)) := by
      rcases (show g.1 10 p 0 = 0 ∨ g.1 10 p 0 = 1 by omega) with e | e <;> rw [e] <;> rfl
    have hyo : (if nI (g.1 10 p 0) = (0 : Int32) then some (2 : Int32) else some (1 : Int32)) = some (if g.1 10 p 0 = 1 then (1 : Int32) else 2) := by
      rcases (show g.1 10 p 0 = 0 ∨ g.1 10 p 0 = 1 by omega) with e | e <;> rw [e] <;> rfl
    rcases hpa : g.1 3 p 0 with _ | r
    · rw [hpa] at hlen
      rw [if_pos (show s_pn 0 = (-1 : Int32) from rfl), hyo, Option.bind_some, if_pos (nn_in (show g.1 0 p 0 < 513 by omega) (by omega)), nn_c (by omega)]
      have hR2 : rc n hd (s_num g 4 (gI g p) 0 (if g.1 10 p 0 = 1 then 1 else 2)) f (mm_st σ 5 0 (g.1 0 p 0) (if g.1 10 p 0 = 1 then (1 : Int32) else 2)) := by
        have hv : (if g.1 10 p 0 = 1 then (1 : Int32) else 2) = nI (if g.1 10 p 0 = 1 then 1 else 2) := by split <;> rfl
        rw [hv]
        refine ⟨⟨?_, ?_, fun j hj => ?_, fun a ha => ?_, fun a q ha hq => ?_⟩, ?_, ?_, ?_⟩
        · rw [mm_sn _ _ _ _ (by decide)]; exact A1
        · rw [mm_sn _ _ _ _ (by decide)]; exact A2
        · rw [mm_sn _ _ _ _ (by decide)]
          obtain ⟨z1, z2⟩ := A3 j hj
          by_cases hji : j = g.1 0 p 0
          · subst hji
            simp [mm_st, s_num, sn_st, gI, z1]
          · simp [mm_st, s_num, sn_st, gI, z1, z2, hji]
        · rw [mm_sn _ _ _ _ (by decide)]
          have haw : s_aw n (s_num g 4 (gI g p) 0 (if g.1 10 p 0 = 1 then 1 else 2)).1 a = s_aw n g.1 a := s_aw_c (fun q _ => by simp [s_num, sn_st])
          rw [haw]
          simpa [s_num, sn_st] using A4 a ha
        · rw [mm_sn _ _ _ _ (by decide)]
          simpa [s_num, sn_st] using A5 a q ha hq
        · rw [mm_sn _ _ _ _ (by decide), mm_sn _ _ _ _ (by decide), mm_sn _ _ _ _ (by decide)]; exact hV
        · rw [mm_sn _ _ _ _ (by decide), mm_sn _ _ _ _ (by decide), mm_sn _ _ _ _ (by decide)]; exact hH
        · rw [mm_sn _ _ _ _ (by decide), mm_sn _ _ _ _ (by decide)]; exact hN
      obtain ⟨σ2, e1, e2⟩ := k_follow F n p f hd _ _ (if g.1 10 p 0 = 1 then (1 : Int32) else 2) hF (gw_num hww (by split <;> omega)) hR2 hp hlen
      rw [e1]
      exact ⟨σ2, rfl, e2⟩
    · rw [hpa] at hlen
      have hr9 := w9 p hp
      have hne : ¬ s_pn (r + 1) = (-1 : Int32) := nI_m1 (by omega)
      rw [if_neg hne, hyv, Option.bind_some]
      obtain ⟨σ2, e1, e2⟩ := k_reply0 F n f 1 (g.1 0 p 0) p r (nI (g.1 10 p 0)) hd g σ w2 hR hlen
      have e1 : f_L_add F n σ (1 : Int32) (nI (g.1 0 p 0)) (nI p) (s_pn (r + 1)) (nI (g.1 10 p 0)) = some σ2 := e1
      rw [e1]
      exact ⟨σ2, rfl, e2⟩
