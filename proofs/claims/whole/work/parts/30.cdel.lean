theorem k_isInv (F n : Nat) (σ : mm_M) (p x : Nat) (hx : x ≤ 100000) (h : σ 6 p 6 = nI x) : f_M_isInvolved F n σ p = some (if x = 0 then 0 else 1) := by
  unfold f_M_isInvolved
  rw [h]
  by_cases hz : x = 0
  · rw [if_pos ((nn_z hx).mpr hz), if_pos hz]; rfl
  · rw [if_neg (fun z => hz ((nn_z hx).mp z)), if_neg hz]; rfl
theorem k_concerned (F n : Nat) (σ : mm_M) (g : sg) (b a : Nat) (rb : Bool) (x : Int32) (hn : n ≤ 5) (ha : a < n) (hb : b < n) (hV : rcV n (σ 7) (σ 8) (σ 9) g.2.1) :
    f_M_isConcerned F n σ b (nI rb.toNat) (nI a) x = some (if s_concerned g b a rb x = true then 1 else 0) := by
  have hin := nn_in ha (show n ≤ 100000 by omega)
  have e1 := (hV.2 (3 * b + 1) a (by omega) ha).1
  have e2 := (hV.2 (3 * b) a (by omega) ha).2
  unfold f_M_isConcerned s_concerned
  cases rb with
  | true =>
    rw [if_neg (by decide), if_pos hin, nn_c (by omega), e2]
    by_cases h : x < g.2.1 2 (3 * b) a
    · rw [if_neg (Int32.not_le.mpr h)]; simp [h]
    · rw [if_pos (Int32.not_lt.mp h)]; simp [h]
  | false =>
    rw [if_pos (by decide), if_pos hin, nn_c (by omega), e1]
    by_cases h : g.2.1 1 (3 * b + 1) a < x
    · rw [if_neg (Int32.not_le.mpr h)]; simp [h]
    · rw [if_pos (Int32.not_lt.mp h)]; simp [h]
theorem s_hear1 (n : Nat) (g : sg) (i a b : Nat) (x : Int32) : s_hear n g (1, i, a, b, x) = s_concl n (if x = 0 then s_num (s_num g 2 b a 0) 10 b 0 0 else s_num g 2 b a 0) b := rfl
theorem s_hear2 (n : Nat) (g : sg) (i a b : Nat) (x : Int32) : s_hear n g (2, i, a, b, x) = if gI g b = i then s_follow n g b x else g := rfl
theorem s_hear0 (n : Nat) (g : sg) (i a b : Nat) (x : Int32) : s_hear n g (0, i, a, b, x) = (if gI g b = i then s_note g (1, i, b, a, 1)
     else if gI g b ≠ 0 then s_note g (1, i, b, a, 0)
     else if g.1 6 b 0 = 1 then s_note g (1, i, b, a, if g.1 11 i 0 = 1 then 1 else 0)
     else if s_concerned g b a (g.1 11 i 0 == 1) x = false then s_note g (1, i, b, a, 1)
     else s_concl n (s_enter n g b i (g.1 11 i 0 == 1) (a + 1)) b) := rfl
theorem k_head {n f : Nat} {m : pv_N} {g : sg} {σ : mm_M} (h : rc n [m] g f σ) : k_nt (σ 15) f m := by
  obtain ⟨h1, h2, h3, h4, h5⟩ := h.2.2.2
  have := h5 0 m rfl
  have e : k_ix (4 * n * (n - 1)) f 0 = f := by unfold k_ix; rw [if_pos (by omega)]; rfl
  rw [e] at this
  exact this
theorem cnt_dec (P : Nat → Bool) (a : Nat) : ∀ n, a < n → P a = true → (List.range n).countP P = (List.range n).countP (fun q => !(q == a) && P q) + 1 := by
  intro n
  induction n with
  | zero => intro h; omega
  | succ n ih =>
    intro h hP
    rw [List.range_succ, List.countP_append, List.countP_append]
    by_cases hn : a = n
    · subst hn
      have e : (List.range a).countP (fun q => !(q == a) && P q) = (List.range a).countP P := by
        apply List.countP_congr
        intro q hq
        have : q ≠ a := by have := List.mem_range.mp hq; omega
        simp [this]
      rw [e]
      simp [hP]
    · rw [ih (by omega) hP]
      have : n ≠ a := fun z => hn z.symm
      simp [this]
      omega
theorem k_cap3 {n : Nat} (hn : 2 ≤ n) {x : Nat} (h : x ≤ 3 * (n * (n - 1))) : 1 + x ≤ 4 * n * (n - 1) := by
  have h1 : 1 ≤ n * (n - 1) := Nat.mul_pos (by omega) (by omega)
  rw [Nat.mul_assoc]
  omega
theorem gv_cap {n : Nat} {g : sg} {D N : List pv_N} (h : gv n g D N) (m : pv_N) : ([m] ++ g.2.2.2).length ≤ 4 * n * (n - 1) := by
  obtain ⟨hw, hns, hJ, -⟩ := h
  have := hJ.cap
  rw [hns]
  simp only [List.length_append, List.length_cons, List.length_nil]
  have := k_cap3 hw.1 this
  omega
/-- deliver -/
theorem k_deliver (F n f : Nat) (g : sg) (m : pv_N) (D N : List pv_N) (σ : mm_M) (hF : 100 ≤ F) (hw : gw n g) (hns : g.2.2.2 = D ++ N) (hJ : gJ n n g (m :: D) N) (hk : gk ((m :: D) ++ N)) (h : rc n [m] g f σ) :
    ∃ σ', f_X_deliver F n σ f = some σ' ∧ rc n [m] (s_hear n g m) f σ' := by
  obtain ⟨N', hv⟩ := gv_hear hw hns hJ hk
  have hlen := gv_cap hv m
  have hm : m ∈ (m :: D) ++ N := by simp
  have hkm := hk m hm
  have hop := hJ.open_ hm
  obtain ⟨q1, q2, q3, q4, q5, q6⟩ := hJ.1 m hm
  have hnt := k_head h
  obtain ⟨k, i, a, b, x⟩ := m
  have q2 : a < n := q2
  have q3 : b < n := q3
  have q5 : 1 ≤ i := q5
  have q1 : k ≤ 2 := q1
  have hR := h
  have hww := hw
  obtain ⟨⟨A1, A2, A3, A4, A5⟩, hV, hH, hN⟩ := h
  obtain ⟨w1, w2, w3, w4, w5, w6, w7, w8, w9, w10⟩ := hw
  have hi512 : i ≤ 512 := Nat.le_trans q6 w3
  obtain ⟨n0, n1, n2, n3, n4⟩ := hnt
  have n0 : σ 15 f 0 = nI k := n0
  have n1 : σ 15 f 1 = nI i := n1
  have n2 : σ 15 f 2 = nI a := n2
  have n3 : σ 15 f 3 = nI b := n3
  have n4 : σ 15 f 4 = x := n4
  obtain ⟨B1, B2, B3, B4, B5, B6, B7, B8⟩ := A4 b q3
  have hI : g.1 0 b 0 ≤ 512 := w10 b q3
  have hkd := (w5 i).1
  have hdn := (w4 b).1
  unfold f_X_deliver
  rw [n0]
  rcases (show k = 0 ∨ k = 1 ∨ k = 2 by omega) with rfl | rfl | rfl
  · rw [if_pos (by decide)]
    have key : ∃ σ', f_X_hearRequest F n σ f = some σ' ∧ rc n [(0, i, a, b, x)] (s_hear n g (0, i, a, b, x)) f σ' := by
      unfold f_X_hearRequest
      rw [n3, n1, if_pos (nn_in q3 (by omega)), if_pos (nn_in (show i < 513 by omega) (by omega)), nn_c (by omega), nn_c (by omega), B4, B1, (A3 i hi512).1]
      have hrep : ∀ y : Int32, ([((0, i, a, b, x) : pv_N)] ++ (s_note g (1, i, b, a, y)).2.2.2).length ≤ 4 * n * (n - 1) → ∃ σ', f_X_reply F n σ f y = some σ' ∧ rc n [(0, i, a, b, x)] (s_note g (1, i, b, a, y)) f σ' := by
        intro y hl
        unfold f_X_reply
        rw [n1, n3, n2]
        obtain ⟨σ', e1, e2⟩ := k_reply0 F n f 1 i b a y [(0, i, a, b, x)] g σ w2 hR hl
        have e1 : f_L_add F n σ (1 : Int32) (nI i) (nI b) (nI a) y = some σ' := e1
        rw [e1]
        exact ⟨σ', rfl, e2⟩
      rw [s_hear0] at hlen ⊢
      by_cases h1 : gI g b = i
      · rw [if_pos h1] at hlen ⊢
        have h1' : g.1 0 b 0 = i := h1
        obtain ⟨σ', e1, e2⟩ := hrep 1 hlen
        rw [if_pos (by rw [h1']), e1]
        exact ⟨σ', rfl, e2⟩
      · rw [if_neg h1] at hlen ⊢
        have h1' : ¬ g.1 0 b 0 = i := h1
        rw [if_neg (by rw [nn_eq (by omega) (by omega)]; exact h1'), k_isInv F n σ b (g.1 0 b 0) (by omega) B4, Option.bind_some]
        by_cases h2 : gI g b ≠ 0
        · rw [if_pos h2] at hlen ⊢
          have h2' : ¬ g.1 0 b 0 = 0 := h2
          obtain ⟨σ', e1, e2⟩ := hrep 0 hlen
          rw [if_neg h2', if_neg (by decide), e1]
          exact ⟨σ', rfl, e2⟩
        · rw [if_neg h2] at hlen ⊢
          have h2' : g.1 0 b 0 = 0 := Nat.eq_zero_of_not_pos (fun z => h2 (Nat.pos_iff_ne_zero.mp z))
          rw [if_pos h2', if_pos rfl]
          by_cases h3 : g.1 6 b 0 = 1
          · rw [if_pos h3] at hlen ⊢
            rw [if_neg (by rw [nn_z (by omega)]; omega)]
            have hy : (if nI (g.1 11 i 0) = (0 : Int32) then some (0 : Int32) else some (1 : Int32)) = some (if g.1 11 i 0 = 1 then (1 : Int32) else 0) := by
              rcases (show g.1 11 i 0 = 0 ∨ g.1 11 i 0 = 1 by omega) with e | e <;> rw [e] <;> rfl
            rw [hy, Option.bind_some]
            obtain ⟨σ', e1, e2⟩ := hrep _ hlen
            rw [e1]
            exact ⟨σ', rfl, e2⟩
          · rw [if_neg h3] at hlen ⊢
            have hrb : nI (g.1 11 i 0) = nI (g.1 11 i 0 == 1).toNat := by
              rcases (show g.1 11 i 0 = 0 ∨ g.1 11 i 0 = 1 by omega) with e | e <;> rw [e] <;> rfl
            rw [if_pos (by rw [nn_z (by omega)]; omega), n2, n4, hrb, k_concerned F n σ g b a _ x w2 q2 q3 hV, Option.bind_some]
            by_cases h4 : s_concerned g b a (g.1 11 i 0 == 1) x = false
            · rw [if_pos h4] at hlen ⊢
              obtain ⟨σ', e1, e2⟩ := hrep 1 hlen
              rw [if_pos (by rw [h4]; rfl), e1]
              exact ⟨σ', rfl, e2⟩
            · rw [if_neg h4] at hlen ⊢
              have h4' : s_concerned g b a (g.1 11 i 0 == 1) x = true := by
                cases hh : s_concerned g b a (g.1 11 i 0 == 1) x with
                | true => rfl
                | false => exact absurd hh h4
              rw [if_pos h4', if_neg (by decide)]
              obtain ⟨l, hl⟩ := s_concl_ns n (s_enter n g b i (g.1 11 i 0 == 1) (a + 1)) b
              obtain ⟨σ1, e1, e2⟩ := k_join F n b i (a + 1) f [(0, i, a, b, x)] g σ hF hww hR q3 hi512 (by
                rw [hl] at hlen
                simp only [List.length_append] at hlen ⊢
                omega)
              have e1 : f_X_join F n σ (nI b) (nI i) (nI a) = some σ1 := e1
              have n3' : σ1 15 f 3 = nI b := (k_head e2).2.2.2.1
              rw [e1, Option.bind_some, n3']
              obtain ⟨σ2, e3, e4⟩ := k_concl F n b f [(0, i, a, b, x)] _ σ1 hF (gw_enter hww hi512 (by omega)) e2 q3 hlen
              rw [e3]
              exact ⟨σ2, rfl, e4⟩
    obtain ⟨σ', e1, e2⟩ := key
    rw [e1]
    exact ⟨σ', rfl, e2⟩
  · rw [if_neg (by decide), if_pos (by decide)]
    have hU : gU g b a = true := hop.2 rfl
    have hU' : g.1 2 b a = 1 := by simpa [gU] using hU
    have hx : x = 0 ∨ x = 1 := hkm.1 rfl
    have key : ∃ σ', f_X_hearAnswer F n σ f = some σ' ∧ rc n [(1, i, a, b, x)] (s_hear n g (1, i, a, b, x)) f σ' := by
      unfold f_X_hearAnswer
      rw [n3, if_pos (nn_in q3 (by omega)), nn_c (by omega), n4, B7]
      rw [s_hear1] at hlen ⊢
      have haw : s_aw n g.1 b = s_aw n (s_num g 2 b a 0).1 b + 1 := by
        unfold s_aw
        rw [cnt_dec (fun q => g.1 2 b q == 1) a n q2 (by simp [hU'])]
        congr 1
        apply List.countP_congr
        intro q _
        by_cases hq : q = a
        · simp [s_num, sn_st, hq]
        · simp [s_num, sn_st, hq]
      rw [haw, nI_pred]
      have hR1 : rc n [(1, i, a, b, x)] (s_num g 2 b a 0) f (mm_st σ 6 b 10 (nI (s_aw n (s_num g 2 b a 0).1 b))) := by
        refine ⟨⟨?_, ?_, fun j hj => ?_, fun c hc => ?_, fun c q hc hq => ?_⟩, ?_, ?_, ?_⟩
        · rw [mm_sn _ _ _ _ (by decide)]; exact A1
        · rw [mm_sn _ _ _ _ (by decide)]; exact A2
        · rw [mm_sn _ _ _ _ (by decide), mm_sn _ _ _ _ (by decide)]; exact A3 j hj
        · obtain ⟨C1, C2, C3, C4, C5, C6, C7, C8⟩ := A4 c hc
          by_cases hcb : c = b
          · subst hcb
            generalize s_aw n (s_num g 2 c a 0).1 c = z
            simp [mm_st, s_num, sn_st, C1, C2, C3, C4, C5, C6, C8]
          · have e : s_aw n (s_num g 2 b a 0).1 c = s_aw n g.1 c := s_aw_c (fun q _ => by simp [s_num, sn_st, hcb])
            rw [e]
            simp [mm_st, s_num, sn_st, hcb, C1, C2, C3, C4, C5, C6, C7, C8]
        · rw [mm_sn _ _ _ _ (by decide), A5 c q hc hq]; simp [s_num, sn_st]
        · rw [mm_sn _ _ _ _ (by decide), mm_sn _ _ _ _ (by decide), mm_sn _ _ _ _ (by decide)]; exact hV
        · rw [mm_sn _ _ _ _ (by decide), mm_sn _ _ _ _ (by decide), mm_sn _ _ _ _ (by decide)]; exact hH
        · rw [mm_sn _ _ _ _ (by decide), mm_sn _ _ _ _ (by decide)]; exact hN
      have hR2 : rc n [(1, i, a, b, x)] (s_num (s_num g 2 b a 0) 10 b 0 0) f (mm_st (mm_st σ 6 b 10 (nI (s_aw n (s_num g 2 b a 0).1 b))) 6 b 11 0) := by
        obtain ⟨⟨R1, R2, R3, R4, R5⟩, R6, R7, R8⟩ := hR1
        refine ⟨⟨?_, ?_, fun j hj => ?_, fun c hc => ?_, fun c q hc hq => ?_⟩, ?_, ?_, ?_⟩
        · rw [mm_sn _ _ _ _ (by decide)]; exact R1
        · rw [mm_sn _ _ _ _ (by decide)]; exact R2
        · rw [mm_sn _ _ _ _ (by decide), mm_sn _ _ _ _ (by decide)]; exact R3 j hj
        · obtain ⟨C1, C2, C3, C4, C5, C6, C7, C8⟩ := R4 c hc
          have e : s_aw n (s_num (s_num g 2 b a 0) 10 b 0 0).1 c = s_aw n (s_num g 2 b a 0).1 c := s_aw_c (fun q _ => by simp [s_num, sn_st])
          rw [e]
          generalize mm_st σ 6 b 10 (nI (s_aw n (s_num g 2 b a 0).1 b)) = σ1 at *
          generalize s_num g 2 b a 0 = g1 at *
          by_cases hcb : c = b
          · subst hcb
            simp [mm_st, s_num, sn_st, C1, C2, C3, C4, C5, C6, C7]
            rfl
          · simp [mm_st, s_num, sn_st, hcb, C1, C2, C3, C4, C5, C6, C7, C8]
        · rw [mm_sn _ _ _ _ (by decide), R5 c q hc hq]; simp [s_num, sn_st]
        · rw [mm_sn _ _ _ _ (by decide), mm_sn _ _ _ _ (by decide), mm_sn _ _ _ _ (by decide)]; exact R6
        · rw [mm_sn _ _ _ _ (by decide), mm_sn _ _ _ _ (by decide), mm_sn _ _ _ _ (by decide)]; exact R7
        · rw [mm_sn _ _ _ _ (by decide), mm_sn _ _ _ _ (by decide)]; exact R8
      by_cases hx0 : x = 0
      · rw [if_pos hx0] at hlen ⊢
        rw [if_pos hx0, Option.bind_some]
        have n3' := (k_head hR2).2.2.2.1
        have n3' : mm_st (mm_st σ 6 b 10 (nI (s_aw n (s_num g 2 b a 0).1 b))) 6 b 11 0 15 f 3 = nI b := n3'
        rw [n3']
        obtain ⟨σ2, e3, e4⟩ := k_concl F n b f [(1, i, a, b, x)] _ _ hF (gw_num (gw_num hww (by omega)) (by omega)) hR2 q3 hlen
        rw [e3]
        exact ⟨σ2, rfl, e4⟩
      · rw [if_neg hx0] at hlen ⊢
        rw [if_neg hx0, Option.bind_some]
        have n3' := (k_head hR1).2.2.2.1
        have n3' : mm_st σ 6 b 10 (nI (s_aw n (s_num g 2 b a 0).1 b)) 15 f 3 = nI b := n3'
        rw [n3']
        obtain ⟨σ2, e3, e4⟩ := k_concl F n b f [(1, i, a, b, x)] _ _ hF (gw_num hww (by omega)) hR1 q3 hlen
        rw [e3]
        exact ⟨σ2, rfl, e4⟩
    obtain ⟨σ', e1, e2⟩ := key
    rw [e1]
    exact ⟨σ', rfl, e2⟩
  · rw [if_neg (by decide), if_neg (by decide)]
    have key : ∃ σ', f_X_hearDecision F n σ f = some σ' ∧ rc n [(2, i, a, b, x)] (s_hear n g (2, i, a, b, x)) f σ' := by
      unfold f_X_hearDecision
      rw [n3, if_pos (nn_in q3 (by omega)), nn_c (by omega), n4, n1, B4]
      rw [s_hear2] at hlen ⊢
      by_cases h1 : gI g b = i
      · rw [if_pos h1] at hlen ⊢
        have h1' : g.1 0 b 0 = i := h1
        obtain ⟨σ', e1, e2⟩ := k_follow F n b f [(2, i, a, b, x)] g σ x hF hww hR q3 hlen
        rw [if_pos (by rw [h1']), e1]
        exact ⟨σ', rfl, e2⟩
      · rw [if_neg h1]
        have h1' : ¬ g.1 0 b 0 = i := h1
        rw [if_neg (by rw [nn_eq (by omega) (by omega)]; exact h1')]
        exact ⟨σ, rfl, hR⟩
    obtain ⟨σ', e1, e2⟩ := key
    rw [e1]
    exact ⟨σ', rfl, e2⟩
