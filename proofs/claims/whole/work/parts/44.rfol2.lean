/-- cut -/
theorem r_cut (F n T p off : Nat) (hd : List pv_N) (g : sg) (ρ : mm_M) (hF : 1000 ≤ F) (hT : T ≤ 512) (hn : n ≤ 5) (h : rr n T off hd g ρ) (hp : p < n) (hI : g.1 0 p 0 = 0) :
    ∃ ρ', f_R_cut F n ρ (nI p) = some ρ' ∧ rr n T off hd (s_roll n g p) ρ' := by
  obtain ⟨⟨ln, kp, fx, gn, ⟨A1, A2, A3⟩, B, C, D, E, G⟩, hN⟩ := h
  obtain ⟨D1, D2, D3, D4, D5⟩ := D p hp
  unfold f_R_cut
  rw [if_pos (nn_in (show p < 5 by omega) (by omega)), nn_c (by omega), D2, (B p hp).2.2.2.2.2, nI_1]
  generalize hτ : mm_st (mm_st (mm_st ρ 2 0 p (nI (kp p))) 10 0 p 0) 27 0 p (nI (g.1 9 p 0 + 1)) = τ
  have tk : ∀ k, k ≠ 2 → k ≠ 10 → k ≠ 27 → τ k = ρ k := fun k h2 h10 h27 => by rw [← hτ, mm_sn _ _ _ _ h27, mm_sn _ _ _ _ h10, mm_sn _ _ _ _ h2]
  obtain ⟨ρ', d1, d2, d3⟩ := r_cut_l F n p (kp p) hF hn hp (by omega) τ (by rw [tk 0 (by decide) (by decide) (by decide)]; exact A1) (by rw [← hτ]; simp [mm_st]) n 0 F τ (by omega) (by omega) (fun _ _ => rfl) (fun a j => by
    rw [if_neg (by omega)])
  have d1 : f_R_cut_l31 F n (nI p) F τ (0 : Int32) = some ρ' := d1
  rw [d1, Option.bind_some]
  have s' : ∀ k, k ≠ 2 → k ≠ 9 → k ≠ 10 → k ≠ 27 → ρ' k = ρ k := fun k h2 h9 h10 h27 => by rw [d2 k h9, tk k h2 h10 h27]
  have s3 := s' 3 (by decide) (by decide) (by decide) (by decide)
  have s4 := s' 4 (by decide) (by decide) (by decide) (by decide)
  have s5 := s' 5 (by decide) (by decide) (by decide) (by decide)
  have s6 := s' 6 (by decide) (by decide) (by decide) (by decide)
  have t9 : τ 9 = ρ 9 := tk 9 (by decide) (by decide) (by decide)
  have t3 : τ 3 = ρ 3 := tk 3 (by decide) (by decide) (by decide)
  have t4 : τ 4 = ρ 4 := tk 4 (by decide) (by decide) (by decide)
  refine ⟨ρ', rfl, ⟨pv_up ln p (kp p), kp, fx, fun a b => if a = p then min (gn a b) (l_s (ρ 3 0) (ρ 4 0) p b (kp p)) else gn a b, ⟨?_, ?_, fun j hj => ?_⟩, fun a ha => ?_, fun a ha => ?_, fun a ha => ?_, fun a ha => ?_, fun a b ha hb hab => ?_⟩, ?_⟩
  · rw [s' 0 (by decide) (by decide) (by decide) (by decide)]; exact A1
  · rw [s' 0 (by decide) (by decide) (by decide) (by decide), A2]; simp [gInst, s_roll]
  · rw [s' 18 (by decide) (by decide) (by decide) (by decide), A3 j hj]; simp [s_roll]
  · obtain ⟨b1, b2, b3, b4, b5, b6⟩ := B a ha
    rw [s' 11 (by decide) (by decide) (by decide) (by decide), s' 12 (by decide) (by decide) (by decide) (by decide), s' 13 (by decide) (by decide) (by decide) (by decide), s' 26 (by decide) (by decide) (by decide) (by decide), d2 10 (by decide), d2 27 (by decide), ← hτ]
    by_cases hap : a = p
    · subst hap
      simp [mm_st, s_roll, b2, b3, b4, b5]
      rfl
    · simp [mm_st, s_roll, hap, b1, b2, b3, b4, b5, b6]
  · obtain ⟨c1, c2, r, c3, c4, c5⟩ := C a ha
    rw [s' 14 (by decide) (by decide) (by decide) (by decide), s' 15 (by decide) (by decide) (by decide) (by decide), s' 16 (by decide) (by decide) (by decide) (by decide)]
    have e1 : gC (s_roll n g p) a = gC g a := by funext q; simp [gC, s_roll]
    have e2 : gU (s_roll n g p) a = gU g a := by funext q; simp [gU, s_roll]
    rw [e1, e2]
    refine ⟨c1, c2, r, c3, c4, ?_⟩
    simpa [s_roll] using c5
  · obtain ⟨z1, z2, z3, z4, z5⟩ := D a ha
    rw [d2 2 (by decide), s' 7 (by decide) (by decide) (by decide) (by decide), s' 8 (by decide) (by decide) (by decide) (by decide), ← hτ]
    by_cases hap : a = p
    · subst hap
      rw [pv_up_s]
      refine ⟨by simp [mm_st], z2, z3, by omega, Nat.le_refl _⟩
    · rw [pv_up_n _ _ hap]
      refine ⟨by simp [mm_st, hap, z1], z2, z3, z4, z5⟩
  · obtain ⟨z1, z2, z3⟩ := E a ha
    unfold lgs at z1 z2 z3 ⊢
    rw [s3, s4, s5, s6]
    have v0 : ∀ k j b, j ≠ 3 * p → (s_roll n g p).2.1 k j b = g.2.1 k j b := fun k j b hj => by simp [s_roll, s_copy, hj]
    have v1 : ∀ k b, (s_roll n g p).2.1 k (3 * p) b = g.2.1 k (3 * p + 1) b := fun k b => by simp [s_roll, s_copy]
    by_cases hap : a = p
    · subst hap
      rw [pv_up_s, v1, v0 0 _ 0 (by omega)]
      refine ⟨⟨z2.1, fun q hq => by rw [v1, v1]; exact z2.2 q hq⟩, ⟨z2.1, fun q hq => by rw [v0 1 _ q (by omega), v0 2 _ q (by omega)]; exact z2.2 q hq⟩, fun hz => ?_⟩
      exact absurd hI (by simpa [s_roll] using hz)
    · rw [pv_up_n _ _ hap, v0 0 _ 0 (by omega), v0 0 _ 0 (by omega), v0 0 _ 0 (by omega)]
      refine ⟨⟨z1.1, fun q hq => by rw [v0 1 _ q (by omega), v0 2 _ q (by omega)]; exact z1.2 q hq⟩, ⟨z2.1, fun q hq => by rw [v0 1 _ q (by omega), v0 2 _ q (by omega)]; exact z2.2 q hq⟩, fun hz hz2 => ?_⟩
      have := z3 (by simpa [s_roll] using hz) (by simpa [s_roll] using hz2)
      exact ⟨this.1, this.2.1, fun q hq => by rw [v0 1 _ q (by omega), v0 2 _ q (by omega)]; exact this.2.2 q hq⟩
  · have hG := G a b ha hb hab
    by_cases hap : a = p
    · subst hap
      rw [pv_up_s]
      have hch : (s_roll n g a).2.2.1 a b = (g.2.2.1 a b).filter (fun m => decide (m.1 ≤ nI (l_s (ρ 3 0) (ρ 4 0) a b (kp a)))) := by
        simp only [s_roll]
        simp only [hb, and_self, if_true]
        rw [((E a ha).2.1.2 b hb).1]
      rw [hch]
      simp only [if_true]
      refine chs_cut hG D5 (by omega) s3 s4 s6 ?_
      rw [d3, if_pos ⟨rfl, by omega, by omega⟩, t3, t4, t9]
      have e : 5 * a + b - 5 * a = b := by omega
      rw [e]
    · rw [pv_up_n _ _ hap]
      simp only [hap, if_false]
      have hch : (s_roll n g p).2.2.1 a b = g.2.2.1 a b := by simp [s_roll, hap]
      rw [hch]
      unfold chs at hG ⊢
      rw [s3, s4, s6, d3, if_neg (by omega), t9]
      exact hG
  · have e : (fun i => (s_roll n g p).1 11 i 0) = fun i => g.1 11 i 0 := by funext j; simp [s_roll]
    rw [e]
    exact rrN_k hN (by rw [s' 0 (by decide) (by decide) (by decide) (by decide)]) (fun k z1 z2 => s' k (by omega) (by omega) (by omega) (by omega))
/-- follow -/
theorem r_follow (F n T p off : Nat) (hd : List pv_N) (g : sg) (ρ : mm_M) (o : Int32) (hF : 1000 ≤ F) (hT : T ≤ 512) (hw : gw n g) (h : rr n T off hd g ρ) (hp : p < n) (hI : gI g p ≠ 0)
    (hlen : off + (hd ++ (s_follow n g p o).2.2.2).length ≤ 300) :
    ∃ ρ', f_R_follow F n ρ (nI p) (nI (decide (o = 1)).toNat) = some ρ' ∧ rr n T off hd (s_follow n g p o) ρ' := by
  obtain ⟨⟨ln, kp, fx, gn, ⟨A1, A2, A3⟩, B, C, D, E, G⟩, hN⟩ := h
  obtain ⟨w1, w2, w3, w4, w5, w6, w7, w8, w9, w10⟩ := hw
  obtain ⟨D1, D2, D3, D4, D5⟩ := D p hp
  obtain ⟨b1, b2, b3, b4, b5, b6⟩ := B p hp
  have hbk := w8 p hp hI
  have hb1 := (w4 p).2.1
  rw [s_follow_ns, ← List.append_assoc] at hlen
  have hwd : s_wd (2, 0, 0, 0, o) = nI (decide (o = 1)).toNat := by
    unfold s_wd
    by_cases ho : o = 1
    · simp [ho]; rfl
    · simp [ho]; rfl
  obtain ⟨ρ1, d1, d2, d3, d4, d5⟩ := r_follow_l F n p (gI g p) (g.1 7 p 0) off (decide (o = 1)) o w2 hp (hd ++ g.2.2.2) ρ (fun i => g.1 11 i 0) (gC g p) hwd A1 b2 b3 hb1 hbk.symm (C p hp).1 hlen n 0 F ρ (by omega) (by omega) (fun _ _ => rfl) rfl rfl (by
    have : pv_sends 0 2 (gI g p) p (gC g p) (fun _ => o) = [] := rfl
    rw [this, List.append_nil]; exact hN)
  unfold f_R_follow
  have d1 : f_R_follow_l2 F n (nI p) (nI (decide (o = 1)).toNat) F ρ (0 : Int32) = some ρ1 := d1
  rw [d1, Option.bind_some, if_pos (nn_in (show p < 5 by omega) (by omega)), nn_c (by omega)]
  have hB1 : rrB n T g ln kp fx gn ρ1 := rrB_k ⟨⟨A1, A2, A3⟩, B, C, D, E, G⟩ d2 d3 d4
  have hR1 : rr n T off hd (s_num (s_notes g (pv_sends n 2 (gI g p) p (gC g p) (fun _ => o))) 0 p 0 0) (mm_st ρ1 11 0 p 0) := by
    obtain ⟨⟨A1, A2, A3⟩, B, C, D, E, G⟩ := hB1
    refine ⟨⟨ln, kp, fx, gn, ⟨?_, ?_, fun j hj => ?_⟩, fun a ha => ?_, fun a ha => ?_, fun a ha => ?_, fun a ha => ?_, fun a b ha hb hab => ?_⟩, ?_⟩
    · rw [mm_sn _ _ _ _ (by decide)]; exact A1
    · rw [mm_sn _ _ _ _ (by decide), A2]; simp [gInst, s_num, s_notes, sn_st]
    · rw [mm_sn _ _ _ _ (by decide), A3 j hj]; simp [s_num, s_notes, sn_st]
    · obtain ⟨y1, y2, y3, y4, y5, y6⟩ := B a ha
      by_cases hap : a = p
      · subst hap
        simp [mm_st, s_num, s_notes, sn_st, y1, y3, y4, y5, y6]
        rfl
      · simp [mm_st, s_num, s_notes, sn_st, hap, y1, y2, y3, y4, y5, y6]
    · obtain ⟨c1, c2, r, c3, c4, c5⟩ := C a ha
      rw [mm_sn _ _ _ _ (by decide), mm_sn _ _ _ _ (by decide), mm_sn _ _ _ _ (by decide)]
      have e1 : gC (s_num (s_notes g (pv_sends n 2 (gI g p) p (gC g p) (fun _ => o))) 0 p 0 0) a = gC g a := by funext q; simp [gC, s_num, s_notes, sn_st]
      have e2 : gU (s_num (s_notes g (pv_sends n 2 (gI g p) p (gC g p) (fun _ => o))) 0 p 0 0) a = gU g a := by funext q; simp [gU, s_num, s_notes, sn_st]
      rw [e1, e2]
      refine ⟨c1, c2, r, c3, c4, ?_⟩
      by_cases hap : a = p
      · subst hap
        intro hz
        simp [s_num, s_notes, sn_st] at hz
      · simpa [s_num, s_notes, sn_st, hap] using c5
    · rw [mm_sn _ _ _ _ (by decide), mm_sn _ _ _ _ (by decide), mm_sn _ _ _ _ (by decide)]; exact D a ha
    · obtain ⟨z1, z2, z3⟩ := E a ha
      unfold lgs at z1 z2 z3 ⊢
      rw [mm_sn _ _ _ _ (by decide), mm_sn _ _ _ _ (by decide), mm_sn _ _ _ _ (by decide), mm_sn _ _ _ _ (by decide)]
      refine ⟨z1, z2, ?_⟩
      by_cases hap : a = p
      · subst hap
        intro hz
        simp [s_num, s_notes, sn_st] at hz
      · simpa [s_num, s_notes, sn_st, hap] using z3
    · have := G a b ha hb hab
      unfold chs at this ⊢
      rw [mm_sn _ _ _ _ (by decide), mm_sn _ _ _ _ (by decide), mm_sn _ _ _ _ (by decide), mm_sn _ _ _ _ (by decide)]
      exact this
    · have e : (fun i => (s_num (s_notes g (pv_sends n 2 (gI g p) p (gC g p) (fun _ => o))) 0 p 0 0).1 11 i 0) = fun i => g.1 11 i 0 := by funext j; simp [s_num, s_notes, sn_st]
      have e2 : hd ++ (s_num (s_notes g (pv_sends n 2 (gI g p) p (gC g p) (fun _ => o))) 0 p 0 0).2.2.2 = hd ++ g.2.2.2 ++ pv_sends n 2 (gI g p) p (gC g p) (fun _ => o) := by
        rw [List.append_assoc]; rfl
      rw [e, e2]
      exact rrN_k d5 (by rw [mm_sn _ _ _ _ (by decide)]) (fun k z1 z2 => by rw [mm_sn _ _ _ _ (by omega)])
  simp only [s_follow]
  by_cases ho : o = 1
  · have hc : nI (decide (o = 1)).toNat ≠ (0 : Int32) := by simp [ho]; decide
    rw [if_neg hc, if_pos ho, d2 12 (by decide), b3]
    have hkk : g.1 11 (gI g p) 0 = g.1 7 p 0 := hbk.symm
    by_cases hk : g.1 11 (gI g p) 0 = 1
    · rw [if_neg (by rw [nn_z (by omega)]; omega), if_pos hk]
      obtain ⟨ρ2, e1, e2⟩ := r_cut F n T p off hd _ _ hF hT w2 hR1 hp (by simp [s_num, sn_st])
      rw [e1]
      exact ⟨ρ2, rfl, e2⟩
    · have h70 : g.1 7 p 0 = 0 := by omega
      rw [if_pos (by rw [nn_z (by omega)]; omega), if_neg hk, if_neg hc, Option.bind_some]
      have u8 : ρ1 8 0 p = nI (fx p) := by rw [d2 8 (by decide)]; exact D3
      have u26 : ρ1 26 0 p = nI (g.1 8 p 0) := by rw [d2 26 (by decide)]; exact b5
      rw [u8, u26, nI_1]
      obtain ⟨q1, q2⟩ := (E p hp).2.2 hI h70
      obtain ⟨⟨A1, A2, A3⟩, B, C, D, E, G⟩ := hB1
      refine ⟨_, rfl, ⟨ln, pv_up kp p (fx p), fx, gn, ⟨?_, ?_, fun j hj => ?_⟩, fun a ha => ?_, fun a ha => ?_, fun a ha => ?_, fun a ha => ?_, fun a b ha hb hab => ?_⟩, ?_⟩
      · rw [mm_sn _ _ _ _ (by decide), mm_sn _ _ _ _ (by decide), mm_sn _ _ _ _ (by decide)]; exact A1
      · rw [mm_sn _ _ _ _ (by decide), mm_sn _ _ _ _ (by decide), mm_sn _ _ _ _ (by decide), A2]; simp [gInst, s_perm, s_copy, s_num, s_notes, sn_st]
      · rw [mm_sn _ _ _ _ (by decide), mm_sn _ _ _ _ (by decide), mm_sn _ _ _ _ (by decide), A3 j hj]; simp [s_perm, s_copy, s_num, s_notes, sn_st]
      · obtain ⟨y1, y2, y3, y4, y5, y6⟩ := B a ha
        by_cases hap : a = p
        · subst hap
          simp [mm_st, s_perm, s_copy, s_num, s_notes, sn_st, y1, y3, y4, y6]
          rfl
        · simp [mm_st, s_perm, s_copy, s_num, s_notes, sn_st, hap, y1, y2, y3, y4, y5, y6]
      · obtain ⟨c1, c2, r, c3, c4, c5⟩ := C a ha
        simp only [mm_sn _ _ _ _ (show 14 ≠ 26 by decide), mm_sn _ _ _ _ (show 14 ≠ 7 by decide), mm_sn _ _ _ _ (show 14 ≠ 11 by decide), mm_sn _ _ _ _ (show 15 ≠ 26 by decide), mm_sn _ _ _ _ (show 15 ≠ 7 by decide), mm_sn _ _ _ _ (show 15 ≠ 11 by decide), mm_sn _ _ _ _ (show 16 ≠ 26 by decide), mm_sn _ _ _ _ (show 16 ≠ 7 by decide), mm_sn _ _ _ _ (show 16 ≠ 11 by decide)]
        have e1 : gC (s_perm (s_num (s_notes g (pv_sends n 2 (gI g p) p (gC g p) (fun _ => o))) 0 p 0 0) p) a = gC g a := by funext q; simp [gC, s_perm, s_copy, s_num, s_notes, sn_st]
        have e2 : gU (s_perm (s_num (s_notes g (pv_sends n 2 (gI g p) p (gC g p) (fun _ => o))) 0 p 0 0) p) a = gU g a := by funext q; simp [gU, s_perm, s_copy, s_num, s_notes, sn_st]
        rw [e1, e2]
        refine ⟨c1, c2, r, c3, c4, ?_⟩
        by_cases hap : a = p
        · subst hap
          intro hz
          simp [s_perm, s_copy, s_num, s_notes, sn_st] at hz
        · simpa [s_perm, s_copy, s_num, s_notes, sn_st, hap] using c5
      · obtain ⟨z1, z2, z3, z4, z5⟩ := D a ha
        by_cases hap : a = p
        · subst hap
          rw [pv_up_s]
          refine ⟨by simp [mm_st, z1], by simp [mm_st], by simp [mm_st, z3], z4, q1⟩
        · rw [pv_up_n _ _ hap]
          refine ⟨by simp [mm_st, z1], by simp [mm_st, hap, z2], by simp [mm_st, z3], z4, z5⟩
      · obtain ⟨z1, z2, z3⟩ := E a ha
        unfold lgs at z1 z2 z3 q2 ⊢
        simp only [mm_sn _ _ _ _ (show 3 ≠ 26 by decide), mm_sn _ _ _ _ (show 3 ≠ 7 by decide), mm_sn _ _ _ _ (show 3 ≠ 11 by decide), mm_sn _ _ _ _ (show 4 ≠ 26 by decide), mm_sn _ _ _ _ (show 4 ≠ 7 by decide), mm_sn _ _ _ _ (show 4 ≠ 11 by decide), mm_sn _ _ _ _ (show 5 ≠ 26 by decide), mm_sn _ _ _ _ (show 5 ≠ 7 by decide), mm_sn _ _ _ _ (show 5 ≠ 11 by decide), mm_sn _ _ _ _ (show 6 ≠ 26 by decide), mm_sn _ _ _ _ (show 6 ≠ 7 by decide), mm_sn _ _ _ _ (show 6 ≠ 11 by decide)]
        have v0 : ∀ k j b, j ≠ 3 * p + 1 → (s_perm (s_num (s_notes g (pv_sends n 2 (gI g p) p (gC g p) (fun _ => o))) 0 p 0 0) p).2.1 k j b = g.2.1 k j b := fun k j b hj => by simp [s_perm, s_num, s_notes, s_copy, hj]
        have v1 : ∀ k b, (s_perm (s_num (s_notes g (pv_sends n 2 (gI g p) p (gC g p) (fun _ => o))) 0 p 0 0) p).2.1 k (3 * p + 1) b = g.2.1 k (3 * p + 2) b := fun k b => by simp [s_perm, s_num, s_notes, s_copy]
        have m3 := d2 3 (by decide)
        have m4 := d2 4 (by decide)
        have m5 := d2 5 (by decide)
        have m6 := d2 6 (by decide)
        rw [m3, m4, m5, m6] at z1 z2 z3 ⊢
        by_cases hap : a = p
        · subst hap
          rw [pv_up_s, v0 0 _ 0 (by omega), v1]
          refine ⟨⟨z1.1, fun q hq => by rw [v0 1 _ q (by omega), v0 2 _ q (by omega)]; exact z1.2 q hq⟩, ⟨q2.1, fun q hq => by rw [v1, v1]; exact q2.2 q hq⟩, fun hz => ?_⟩
          simp [s_perm, s_copy, s_num, s_notes, sn_st] at hz
        · rw [pv_up_n _ _ hap, v0 0 _ 0 (by omega), v0 0 _ 0 (by omega), v0 0 _ 0 (by omega)]
          refine ⟨⟨z1.1, fun q hq => by rw [v0 1 _ q (by omega), v0 2 _ q (by omega)]; exact z1.2 q hq⟩, ⟨z2.1, fun q hq => by rw [v0 1 _ q (by omega), v0 2 _ q (by omega)]; exact z2.2 q hq⟩, fun hz hz2 => ?_⟩
          have := z3 (by simpa [s_perm, s_copy, s_num, s_notes, sn_st, hap] using hz) (by simpa [s_perm, s_copy, s_num, s_notes, sn_st, hap] using hz2)
          exact ⟨this.1, this.2.1, fun q hq => by rw [v0 1 _ q (by omega), v0 2 _ q (by omega)]; exact this.2.2 q hq⟩
      · have := G a b ha hb hab
        unfold chs at this ⊢
        simp only [mm_sn _ _ _ _ (show 3 ≠ 26 by decide), mm_sn _ _ _ _ (show 3 ≠ 7 by decide), mm_sn _ _ _ _ (show 3 ≠ 11 by decide), mm_sn _ _ _ _ (show 4 ≠ 26 by decide), mm_sn _ _ _ _ (show 4 ≠ 7 by decide), mm_sn _ _ _ _ (show 4 ≠ 11 by decide), mm_sn _ _ _ _ (show 9 ≠ 26 by decide), mm_sn _ _ _ _ (show 9 ≠ 7 by decide), mm_sn _ _ _ _ (show 9 ≠ 11 by decide), mm_sn _ _ _ _ (show 6 ≠ 26 by decide), mm_sn _ _ _ _ (show 6 ≠ 7 by decide), mm_sn _ _ _ _ (show 6 ≠ 11 by decide)]
        exact this
      · have e : (fun i => (s_perm (s_num (s_notes g (pv_sends n 2 (gI g p) p (gC g p) (fun _ => o))) 0 p 0 0) p).1 11 i 0) = fun i => g.1 11 i 0 := by funext j; simp [s_perm, s_copy, s_num, s_notes, sn_st]
        have e2 : hd ++ (s_perm (s_num (s_notes g (pv_sends n 2 (gI g p) p (gC g p) (fun _ => o))) 0 p 0 0) p).2.2.2 = hd ++ g.2.2.2 ++ pv_sends n 2 (gI g p) p (gC g p) (fun _ => o) := by
          rw [List.append_assoc]; rfl
        rw [e, e2]
        exact rrN_k d5 (by rw [mm_sn _ _ _ _ (by decide), mm_sn _ _ _ _ (by decide), mm_sn _ _ _ _ (by decide)]) (fun k z1 z2 => by rw [mm_sn _ _ _ _ (by omega), mm_sn _ _ _ _ (by omega), mm_sn _ _ _ _ (by omega)])
  · have hc : nI (decide (o = 1)).toNat = (0 : Int32) := by simp [ho]; rfl
    rw [if_pos hc, if_pos hc, if_neg ho]
    exact ⟨_, rfl, hR1⟩
