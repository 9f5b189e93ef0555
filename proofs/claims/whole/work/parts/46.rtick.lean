theorem i_or0 : ∀ m, m < 32 → nI m ||| (0 : Int32) = nI m := by decide +kernel
theorem or_32 {r a : Nat} (hr : r < 32) (ha : a < 5) : r ||| 2 ^ a < 32 := Nat.or_lt_two_pow (n := 5) hr (Nat.lt_of_lt_of_le (Nat.pow_lt_pow_right (by decide) ha) (by decide))
theorem or_ne {r a : Nat} : r ||| 2 ^ a ≠ 0 := by
  intro h
  have : (r ||| 2 ^ a).testBit a = true := by rw [Nat.testBit_or, Nat.testBit_two_pow]; simp
  rw [h] at this
  simp at this
/-- deliver -/
theorem r_deliver (F n T off : Nat) (g : sg) (m : pv_N) (D N : List pv_N) (ρ : mm_M) (hF : 1000 ≤ F) (hT : T ≤ 512) (hoff : off ≤ 100) (hw : gw n g) (hns : g.2.2.2 = D ++ N) (hJ : gJ n n g (m :: D) N) (hk : gk ((m :: D) ++ N)) (h : rr n T off [m] g ρ) :
    ∃ ρ', f_R_deliver F n ρ (nI off) = some ρ' ∧ rr n T off [m] (s_hear n g m) ρ' := by
  obtain ⟨N', hv⟩ := gv_hear hw hns hJ hk
  have hcap := gv_cap hv m
  have hcap5 := k_cap hw.2.1
  have hlen : off + ([m] ++ (s_hear n g m).2.2.2).length ≤ 300 := by omega
  have hm : m ∈ (m :: D) ++ N := by simp
  have hkm := hk m hm
  have hop := hJ.open_ hm
  have hJ3 := hJ.2.2.1
  obtain ⟨q1, q2, q3, q4, q5, q6⟩ := hJ.1 m hm
  have hnt := h.2.2.2 0 m rfl
  have hUC : ∀ p, p < n → ∀ q, q < n → gU g p q = true → gC g p q = true := fun p hp q hq hu => (hJ3 p q hp hq hu).1
  have hIm := hJ.2.2.2.1 m hm
  have hR := h
  obtain ⟨k, i, a, b, x⟩ := m
  have q2 : a < n := q2
  have q3 : b < n := q3
  have q5 : 1 ≤ i := q5
  have q1 : k ≤ 2 := q1
  have hww := hw
  obtain ⟨⟨ln, kp, fx, gn, ⟨A1, A2, A3⟩, B, C, Dd, E, G⟩, hN⟩ := h
  obtain ⟨w1, w2, w3, w4, w5, w6, w7, w8, w9, w10⟩ := hw
  have hi512 : i ≤ 512 := Nat.le_trans q6 w3
  obtain ⟨o0, o1, o2, o3, o4, o5⟩ := hnt
  have n0 : ρ 20 0 off = nI k := o0
  have n1 : ρ 21 0 off = nI a := o1
  have n2 : ρ 22 0 off = nI b := o2
  have n3 : ρ 23 0 off = nI i := o3
  have n4 : ρ 24 0 off = nI (g.1 11 i 0) := o4
  obtain ⟨b1, b2, b3, b4, b5, b6⟩ := B b q3
  obtain ⟨c1, c2, r, c3, c4, c5⟩ := C b q3
  obtain ⟨d1, d2, d3, d4, d5⟩ := Dd b q3
  obtain ⟨e1, e2, e3⟩ := E b q3
  have hI : g.1 0 b 0 ≤ 512 := w10 b q3
  have hkd := (w5 i).1
  have hdn := (w4 b).1
  have hb7 := (w4 b).2.1
  have hc400 : off + ([(k, i, a, b, x)] ++ g.2.2.2).length < 400 := by have := hN.2.1; omega
  unfold f_R_deliver
  rw [if_pos (nn_in (show off < 400 by omega) (by omega)), nn_c (by omega), n0]
  rcases (show k = 0 ∨ k = 1 ∨ k = 2 by omega) with rfl | rfl | rfl
  · rw [if_pos (by decide)]
    have n5 : ρ 25 0 off = x := o5
    have key : ∃ ρ', f_R_request F n ρ (nI off) = some ρ' ∧ rr n T off [(0, i, a, b, x)] (s_hear n g (0, i, a, b, x)) ρ' := by
      unfold f_R_request
      rw [if_pos (nn_in (show off < 400 by omega) (by omega)), nn_c (by omega), n2, if_pos (nn_in (show b < 5 by omega) (by omega)), nn_c (by omega), b2, b1, n3, n4]
      have hrep : ∀ y : Int32, y = 0 ∨ y = 1 → off + ([((0, i, a, b, x) : pv_N)] ++ (s_note g (1, i, b, a, y)).2.2.2).length ≤ 300 →
          ∃ ρ', (Option.bind (if y = (0 : Int32) then some (0 : Int32) else some (1 : Int32)) fun u3 => Option.bind (f_R_write F n ρ (1 : Int32) (nI b) (ρ 21 0 off) u3) fun u4 => if mm_in ((u4 0 0 18) - (1 : Int32)) 400 then if mm_z (u4 24 0 off) then some (mm_st (mm_st u4 23 0 (Int32.toNatClampNeg ((u4 0 0 18) - (1 : Int32))) (u4 23 0 off)) 24 0 (Int32.toNatClampNeg ((u4 0 0 18) - (1 : Int32))) (u4 24 0 off)) else none else none) = some ρ' ∧ rr n T off [(0, i, a, b, x)] (s_note g (1, i, b, a, y)) ρ' := by
        intro y hy hl
        have hyv : (if y = (0 : Int32) then some (0 : Int32) else some (1 : Int32)) = some y := by rcases hy with rfl | rfl <;> rfl
        have hwr := r_write F n ρ (off + ([((0, i, a, b, x) : pv_N)] ++ g.2.2.2).length) 1 b a (g.1 0 b 0) (g.1 7 b 0) y hN.1 hc400 (by omega) b2 b3 hb7
        have hwr : f_R_write F n ρ (1 : Int32) (nI b) (nI a) y = _ := hwr
        rw [hyv, Option.bind_some, n1, hwr, Option.bind_some]
        generalize hcc : off + ([((0, i, a, b, x) : pv_N)] ++ g.2.2.2).length = c at *
        have hne : ¬ off = c := by simp at hcc; omega
        have u18 : r_wr ρ c 1 b a (g.1 0 b 0) (g.1 7 b 0) y 0 0 18 = nI (c + 1) := by simp [r_wr, mm_st]
        have u23 : r_wr ρ c 1 b a (g.1 0 b 0) (g.1 7 b 0) y 23 0 off = nI i := by simp [r_wr, mm_st, hne, n3]
        have u24 : r_wr ρ c 1 b a (g.1 0 b 0) (g.1 7 b 0) y 24 0 off = nI (g.1 11 i 0) := by simp [r_wr, mm_st, hne, n4]
        rw [u18, u23, u24, nI_pred, if_pos (nn_in hc400 (by omega)), if_pos (nn_b hkd), nn_c (by omega), r_over]
        have := rr_note hR (m := (1, i, b, a, y)) (x := y) rfl hl
        rw [hcc] at this
        exact ⟨_, rfl, this⟩
      rw [s_hear0] at hlen ⊢
      by_cases h1 : gI g b = i
      · rw [if_pos h1] at hlen ⊢
        have h1' : g.1 0 b 0 = i := h1
        rw [if_neg (by rw [nn_z (by omega)]; omega), Option.bind_some, if_pos rfl, if_pos (by rw [h1']), Option.bind_some]
        exact hrep 1 (Or.inr rfl) hlen
      · rw [if_neg h1] at hlen ⊢
        have h1' : ¬ g.1 0 b 0 = i := h1
        have hne1 : ¬ nI (g.1 0 b 0) = nI i := by rw [nn_eq (by omega) (by omega)]; exact h1'
        by_cases h2 : gI g b ≠ 0
        · rw [if_pos h2] at hlen ⊢
          have h2' : ¬ nI (g.1 0 b 0) = (0 : Int32) := by rw [nn_z (by omega)]; exact h2
          rw [if_neg h2', Option.bind_some, if_pos rfl, if_neg hne1, if_neg h2', Option.bind_some]
          exact hrep 0 (Or.inl rfl) hlen
        · rw [if_neg h2] at hlen ⊢
          have h20 : g.1 0 b 0 = 0 := Nat.eq_zero_of_not_pos (fun z => h2 (Nat.pos_iff_ne_zero.mp z))
          have h2' : nI (g.1 0 b 0) = (0 : Int32) := by rw [h20]; rfl
          by_cases h3 : g.1 6 b 0 = 1
          · rw [if_pos h3] at hlen ⊢
            have h3' : ¬ nI (g.1 6 b 0) = (0 : Int32) := by rw [nn_z (by omega)]; omega
            rw [if_pos h2', if_neg h3', Option.bind_some, if_pos rfl, if_neg hne1, if_pos h2', if_neg h3']
            have hy : (if nI (g.1 11 i 0) = (0 : Int32) then some (0 : Int32) else some (1 : Int32)) = some (if g.1 11 i 0 = 1 then (1 : Int32) else 0) := by
              rcases (show g.1 11 i 0 = 0 ∨ g.1 11 i 0 = 1 by omega) with e | e <;> rw [e] <;> rfl
            rw [hy, Option.bind_some]
            refine hrep _ ?_ hlen
            split
            · exact Or.inr rfl
            · exact Or.inl rfl
          · rw [if_neg h3] at hlen ⊢
            have h3' : nI (g.1 6 b 0) = (0 : Int32) := by rw [nn_z (by omega)]; omega
            rw [if_pos h2', if_pos h3', r_concerned F n ρ g b a off (ln b) (kp b) (g.1 11 i 0) x hF (by omega) q2 q3 w2 (by omega) (by omega) hkd n4 n1 n5 d1 d2 e1 e2, Option.bind_some]
            by_cases h4 : s_concerned g b a (g.1 11 i 0 == 1) x = false
            · rw [if_pos h4] at hlen ⊢
              rw [if_pos (by rw [h4]; rfl), Option.bind_some, if_pos rfl, if_neg hne1, if_pos h2', if_pos h3', Option.bind_some]
              exact hrep 1 (Or.inr rfl) hlen
            · rw [if_neg h4] at hlen ⊢
              have h4' : s_concerned g b a (g.1 11 i 0 == 1) x = true := by
                cases hh : s_concerned g b a (g.1 11 i 0 == 1) x with
                | true => rfl
                | false => exact absurd hh h4
              rw [if_neg (by rw [h4']; decide), Option.bind_some, if_neg (by decide), n1]
              obtain ⟨l, hl⟩ := s_concl_ns n (s_enter n g b i (g.1 11 i 0 == 1) (a + 1)) b
              obtain ⟨ρ1, f1, f2⟩ := r_enter F n T b i (a + 1) off [(0, i, a, b, x)] g ρ hF hT hww hR q3 (by
                rw [hl] at hlen
                simp only [List.length_append] at hlen ⊢
                omega)
              have f1 : f_R_join F n ρ (nI b) (nI i) (nI (g.1 11 i 0)) (nI a) = f_R_complete F n ρ1 (nI b) := f1
              obtain ⟨ρ2, f3, f4⟩ := r_complete F n T b off [(0, i, a, b, x)] _ ρ1 hF hT (gw_enter hww hi512 (by omega)) f2 q3 (by simp [gI, s_enter]; omega) (fun q hq hu => by
                simp only [gU, gC, s_enter] at hu ⊢
                simpa using hu) hlen
              rw [f1, f3]
              exact ⟨ρ2, rfl, f4⟩
    obtain ⟨ρ', f1, f2⟩ := key
    rw [f1]
    exact ⟨ρ', rfl, f2⟩
  · rw [if_neg (by decide), if_pos (by decide), n2, if_pos (nn_in (show b < 5 by omega) (by omega)), nn_c (by omega), n1]
    have n5 : ρ 25 0 off = x := o5
    have hU : gU g b a = true := hop.2 rfl
    have hU' : g.1 2 b a = 1 := by simpa [gU] using hU
    have hx : x = 0 ∨ x = 1 := hkm.1 rfl
    have hIb : g.1 0 b 0 = i := hIm.2.1 rfl
    have hC : gC g b a = true := hUC b q3 a q2 hU
    rw [n5, c2, i_or _ (bm_32 w2 _) a (by omega), bm_or _ q2, c4]
    rw [s_hear1] at hlen ⊢
    have hbm : ∀ g' : sg, (∀ q, gC g' b q = gC g b q) → (∀ q, gU g' b q = (gU g b q && !(q == a))) → bm n (fun r => (gC g b r && !gU g b r) || r == a) = bm n (fun q => gC g' b q && !gU g' b q) := by
      intro g' h1 h2
      apply bm_c
      intro q hq
      rw [h1, h2]
      by_cases hqa : q = a
      · subst hqa; simp [hC]
      · simp [pv_bf hqa]
    have hrel : ∀ (g' : sg) (r' : Nat), r' < 32 → (∀ k a' b', k ≠ 10 → g'.1 k a' b' = (s_num g 2 b a 0).1 k a' b') → (∀ p, p ≠ b → g'.1 10 p 0 = g.1 10 p 0) → (r' = 0 ↔ g'.1 10 b 0 = 1) → g'.2 = g.2 →
        rr n T off [(1, i, a, b, x)] g' (mm_st (mm_st ρ 15 0 b (nI (bm n (fun r => (gC g b r && !gU g b r) || r == a)))) 16 0 b (nI r')) := by
      intro g' r' hr' hg hg10 hr10 hg2
      have z0 : ∀ k a' b', k ≠ 10 → k ≠ 2 → g'.1 k a' b' = g.1 k a' b' := fun k a' b' h10 h2 => by rw [hg k a' b' h10]; simp [s_num, sn_st, h2]
      have zC : ∀ p q, gC g' p q = gC g p q := fun p q => by simp [gC, z0 1 p q (by decide) (by decide)]
      have zU : ∀ q, gU g' b q = (gU g b q && !(q == a)) := fun q => by
        simp only [gU]
        rw [hg 2 b q (by decide)]
        by_cases hqa : q = a
        · simp [s_num, sn_st, hqa]
        · simp [s_num, sn_st, hqa]
      refine ⟨⟨ln, kp, fx, gn, ⟨?_, ?_, fun j hj => ?_⟩, fun p hp => ?_, fun p hp => ?_, fun p hp => ?_, fun p hp => ?_, fun p q hp hq hpq => ?_⟩, ?_⟩
      · simp only [mm_sn _ _ _ _ (show 0 ≠ 16 by decide), mm_sn _ _ _ _ (show 0 ≠ 15 by decide)]; exact A1
      · simp only [mm_sn _ _ _ _ (show 0 ≠ 16 by decide), mm_sn _ _ _ _ (show 0 ≠ 15 by decide)]
        rw [A2]; simp [gInst, z0 5 0 0 (by decide) (by decide)]
      · simp only [mm_sn _ _ _ _ (show 18 ≠ 16 by decide), mm_sn _ _ _ _ (show 18 ≠ 15 by decide)]
        rw [A3 j hj, z0 4 j 0 (by decide) (by decide)]
      · simp only [mm_sn _ _ _ _ (show 10 ≠ 16 by decide), mm_sn _ _ _ _ (show 10 ≠ 15 by decide), mm_sn _ _ _ _ (show 11 ≠ 16 by decide), mm_sn _ _ _ _ (show 11 ≠ 15 by decide), mm_sn _ _ _ _ (show 12 ≠ 16 by decide), mm_sn _ _ _ _ (show 12 ≠ 15 by decide), mm_sn _ _ _ _ (show 13 ≠ 16 by decide), mm_sn _ _ _ _ (show 13 ≠ 15 by decide), mm_sn _ _ _ _ (show 26 ≠ 16 by decide), mm_sn _ _ _ _ (show 26 ≠ 15 by decide), mm_sn _ _ _ _ (show 27 ≠ 16 by decide), mm_sn _ _ _ _ (show 27 ≠ 15 by decide)]
        rw [z0 6 p 0 (by decide) (by decide), z0 0 p 0 (by decide) (by decide), z0 7 p 0 (by decide) (by decide), z0 3 p 0 (by decide) (by decide), z0 8 p 0 (by decide) (by decide), z0 9 p 0 (by decide) (by decide)]
        exact B p hp
      · obtain ⟨y1, y2, r0, y3, y4, y5⟩ := C p hp
        have eC : gC g' p = gC g p := funext (zC p)
        rw [eC]
        by_cases hpb : p = b
        · subst hpb
          refine ⟨?_, ?_, r', hr', ?_, fun _ => hr10⟩
          · simp only [mm_sn _ _ _ _ (show 14 ≠ 16 by decide), mm_sn _ _ _ _ (show 14 ≠ 15 by decide)]; exact y1
          · rw [hbm g' (zC p) zU]
            simp [mm_st]
            rw [eC]
          · simp [mm_st]
        · have eU : gU g' p = gU g p := by
            funext q
            simp only [gU]
            rw [hg 2 p q (by decide)]
            simp [s_num, sn_st, hpb]
          rw [eU]
          refine ⟨?_, ?_, r0, y3, ?_, ?_⟩
          · simp only [mm_sn _ _ _ _ (show 14 ≠ 16 by decide), mm_sn _ _ _ _ (show 14 ≠ 15 by decide)]; exact y1
          · simp [mm_st, hpb, y2]
          · simp [mm_st, hpb, y4]
          · rw [z0 0 p 0 (by decide) (by decide), hg10 p hpb]; exact y5
      · simp only [mm_sn _ _ _ _ (show 2 ≠ 16 by decide), mm_sn _ _ _ _ (show 2 ≠ 15 by decide), mm_sn _ _ _ _ (show 7 ≠ 16 by decide), mm_sn _ _ _ _ (show 7 ≠ 15 by decide), mm_sn _ _ _ _ (show 8 ≠ 16 by decide), mm_sn _ _ _ _ (show 8 ≠ 15 by decide)]
        exact Dd p hp
      · have := E p hp
        unfold lgs at this ⊢
        simp only [mm_sn _ _ _ _ (show 3 ≠ 16 by decide), mm_sn _ _ _ _ (show 3 ≠ 15 by decide), mm_sn _ _ _ _ (show 4 ≠ 16 by decide), mm_sn _ _ _ _ (show 4 ≠ 15 by decide), mm_sn _ _ _ _ (show 5 ≠ 16 by decide), mm_sn _ _ _ _ (show 5 ≠ 15 by decide), mm_sn _ _ _ _ (show 6 ≠ 16 by decide), mm_sn _ _ _ _ (show 6 ≠ 15 by decide)]
        rw [hg2, z0 0 p 0 (by decide) (by decide), z0 7 p 0 (by decide) (by decide)]
        exact this
      · have := G p q hp hq hpq
        unfold chs at this ⊢
        simp only [mm_sn _ _ _ _ (show 3 ≠ 16 by decide), mm_sn _ _ _ _ (show 3 ≠ 15 by decide), mm_sn _ _ _ _ (show 4 ≠ 16 by decide), mm_sn _ _ _ _ (show 4 ≠ 15 by decide), mm_sn _ _ _ _ (show 9 ≠ 16 by decide), mm_sn _ _ _ _ (show 9 ≠ 15 by decide), mm_sn _ _ _ _ (show 6 ≠ 16 by decide), mm_sn _ _ _ _ (show 6 ≠ 15 by decide)]
        rw [hg2]
        exact this
      · have e : (fun i => g'.1 11 i 0) = fun i => g.1 11 i 0 := by funext j; exact z0 11 j 0 (by decide) (by decide)
        rw [e, hg2]
        exact rrN_k hN (by simp only [mm_sn _ _ _ _ (show 0 ≠ 16 by decide), mm_sn _ _ _ _ (show 0 ≠ 15 by decide)]) (fun k z1 z2 => by rw [mm_sn _ _ _ _ (by omega), mm_sn _ _ _ _ (by omega)])
    have hUC' : ∀ g' : sg, (∀ k a' b', k ≠ 10 → g'.1 k a' b' = (s_num g 2 b a 0).1 k a' b') → ∀ q, q < n → gU g' b q = true → gC g' b q = true := by
      intro g' hg q hq hu
      simp only [gU, gC] at hu ⊢
      rw [hg 2 b q (by decide)] at hu
      rw [hg 1 b q (by decide)]
      by_cases hqa : q = a
      · simp [s_num, sn_st, hqa] at hu
      · have := hUC b q3 q hq (by simpa [gU, s_num, sn_st, hqa] using hu)
        simpa [gC, s_num, sn_st] using this
    have hc5 := c5 (by omega)
    rcases hx with rfl | rfl
    · rw [if_neg (show ¬ (0 : Int32) = 1 by decide), Option.bind_some, i_or _ c3 a (by omega)]
      rw [if_pos rfl] at hlen ⊢
      have hg' : ∀ k a' b', k ≠ 10 → (s_num (s_num g 2 b a 0) 10 b 0 0).1 k a' b' = (s_num g 2 b a 0).1 k a' b' := fun k a' b' hk => by simp [s_num, sn_st, hk]
      have hR2 := hrel (s_num (s_num g 2 b a 0) 10 b 0 0) (r ||| 2 ^ a) (or_32 c3 (by omega)) hg' (fun p hp => by simp [s_num, sn_st, hp]) ⟨fun z => absurd z or_ne, fun z => by simp [s_num, sn_st] at z⟩ rfl
      obtain ⟨ρ2, f3, f4⟩ := r_complete F n T b off [(1, i, a, b, 0)] _ _ hF hT (gw_num (gw_num hww (by omega)) (by omega)) hR2 q3 (by simp [gI, s_num, sn_st]; omega) (hUC' _ hg') hlen
      rw [f3]
      exact ⟨ρ2, rfl, f4⟩
    · rw [if_pos rfl, Option.bind_some, i_or0 _ c3]
      rw [if_neg (show ¬ (1 : Int32) = 0 by decide)] at hlen ⊢
      have hR2 := hrel (s_num g 2 b a 0) r c3 (fun _ _ _ _ => rfl) (fun p hp => by simp [s_num, sn_st]) (by simpa [s_num, sn_st] using hc5) rfl
      obtain ⟨ρ2, f3, f4⟩ := r_complete F n T b off [(1, i, a, b, 1)] _ _ hF hT (gw_num hww (by omega)) hR2 q3 (by simp [gI, s_num, sn_st]; omega) (hUC' _ (fun _ _ _ _ => rfl)) hlen
      rw [f3]
      exact ⟨ρ2, rfl, f4⟩
  · rw [if_neg (by decide), if_neg (by decide), n2, if_pos (nn_in (show b < 5 by omega) (by omega)), nn_c (by omega), b2, n3]
    have n5 : ρ 25 0 off = (if x = 1 then (1 : Int32) else 0) := o5
    rw [s_hear2] at hlen ⊢
    by_cases h1 : gI g b = i
    · rw [if_pos h1] at hlen ⊢
      have h1' : g.1 0 b 0 = i := h1
      have hv : (if ρ 25 0 off = (1 : Int32) then some (1 : Int32) else some (0 : Int32)) = some (nI (decide (x = 1)).toNat) := by
        rw [n5]
        by_cases hx : x = 1
        · simp [hx]; rfl
        · simp [hx]; rfl
      obtain ⟨ρ', f1, f2⟩ := r_follow F n T b off [(2, i, a, b, x)] g ρ x hF hT hww hR q3 (by show g.1 0 b 0 ≠ 0; omega) hlen
      rw [if_pos (by rw [h1']), hv, Option.bind_some, f1]
      exact ⟨ρ', rfl, f2⟩
    · rw [if_neg h1]
      have h1' : ¬ g.1 0 b 0 = i := h1
      rw [if_neg (by rw [nn_eq (by omega) (by omega)]; exact h1')]
      exact ⟨ρ, rfl, hR⟩
