theorem k_receive (F n f p q : Nat) (g : sg) (σ : mm_M) (hF : 100 ≤ F) (hw : gw n g) (h : rc n [] g f σ) (hp : p < n) (hq : q < n) (hpq : p ≠ q) : ∃ σ', f_X_receive F n σ (nI p) (nI q) = some ((s_receive g p q).1, σ') ∧ rc n [] (s_receive g p q).2 f σ' := by
  have hR := h
  obtain ⟨⟨A1, A2, A3, A4, A5⟩, hV, hH, hN⟩ := h
  obtain ⟨B1, B2, B3, B4, B5, B6, B7, B8⟩ := A4 p hp
  obtain ⟨C1, C2, C3, C4, C5, C6, C7, C8⟩ := A4 q hq
  have hn := hw.2.1
  have hdp := (hw.2.2.2.1 p).1
  have hdq := (hw.2.2.2.1 q).1
  have hch := hH p q hp hq
  unfold f_X_receive s_receive
  rw [k_chan F n σ p q hn hp hq hpq A1, Option.bind_some, if_neg (by decide), if_pos (nn_in hp (by omega)), if_pos (nn_in hq (by omega)), nn_c (by omega), nn_c (by omega), C1]
  by_cases h1 : g.1 6 q 0 = 1
  · rw [if_neg (by rw [nn_z (by omega)]; omega), if_pos h1]
    exact ⟨σ, rfl, hR⟩
  · rw [if_pos (by rw [nn_z (by omega)]; omega), if_neg h1, k_inr F n σ g q hw hq C4 C5, Option.bind_some]
    by_cases h2 : s_inr g q = true
    · rw [if_pos h2, if_neg (by decide), if_pos h2]
      exact ⟨σ, rfl, hR⟩
    · rw [if_neg h2, if_pos rfl, if_neg h2, B1]
      by_cases h3 : g.1 6 p 0 = 1
      · rw [if_neg (by rw [nn_z (by omega)]; omega), if_pos h3]
        exact ⟨σ, rfl, hR⟩
      · rw [if_pos (by rw [nn_z (by omega)]; omega), if_neg h3, k_inr F n σ g p hw hp B4 B5, Option.bind_some]
        by_cases h4 : s_inr g p = true
        · rw [if_pos h4, if_neg (by decide), if_pos h4]
          exact ⟨σ, rfl, hR⟩
        · rw [if_neg h4, if_pos rfl, if_neg h4, k_channelOf F n σ p q hn hp hq A1, Option.bind_some, hch.1]
          have hl6 := hch.2.1
          rcases hl : g.2.2.1 p q with _ | ⟨m, l⟩
          · rw [if_pos (by decide)]
            exact ⟨σ, rfl, hR⟩
          · rw [hl] at hch hl6
            have hl6 : l.length + 1 ≤ 6 := hl6
            rw [if_neg (by rw [nn_z (by simp; omega)]; simp), if_pos (by decide)]
            obtain ⟨t1, t2, -⟩ := k_takeFirst F n σ (p * n + q) m l hF hch
            have c0 : Int32.toNatClampNeg (0 : Int32) = 0 := rfl
            rw [c0, t1, t2, hV.1 (3 * q) (by omega)]
            obtain ⟨-, -, σ2, e1, e2, e3⟩ := k_takeFirst F n (mm_st (mm_st σ 9 (3 * q) p m.1) 7 (3 * q) 0 (17 * g.2.1 0 (3 * q) 0 + m.2 + 1)) (p * n + q) m l hF (by
              rw [mm_sn _ _ _ _ (by decide), mm_sn _ _ _ _ (by decide), mm_sn _ _ _ _ (by decide), mm_sn _ _ _ _ (by decide), mm_sn _ _ _ _ (by decide), mm_sn _ _ _ _ (by decide)]; exact hch)
            rw [e1, Option.bind_some]
            have s2 : ∀ k, k ≠ 11 → k ≠ 12 → k ≠ 13 → k ≠ 9 → k ≠ 7 → σ2 k = σ k := fun k z1 z2 z3 z4 z5 => by rw [e3.1 k z1 z2 z3, mm_sn _ _ _ _ z5, mm_sn _ _ _ _ z4]
            have s7 := e3.1 7 (by decide) (by decide) (by decide)
            have s9 := e3.1 9 (by decide) (by decide) (by decide)
            refine ⟨σ2, rfl, ⟨?_, ?_, ?_, ?_, ?_⟩, ⟨fun j hj => ?_, fun j r hj hr => ?_⟩, ?_, ?_⟩
            · rw [s2 0 (by decide) (by decide) (by decide) (by decide) (by decide)]; exact A1
            · rw [s2 0 (by decide) (by decide) (by decide) (by decide) (by decide)]; exact A2
            · rw [s2 4 (by decide) (by decide) (by decide) (by decide) (by decide), s2 5 (by decide) (by decide) (by decide) (by decide) (by decide)]; exact A3
            · rw [s2 6 (by decide) (by decide) (by decide) (by decide) (by decide)]; exact A4
            · rw [s2 10 (by decide) (by decide) (by decide) (by decide) (by decide)]; exact A5
            · rw [s7]
              have v1 := hV.1 j hj
              by_cases hj3 : j = 3 * q
              · simp [mm_st, s_setc, s_setv, hj3]
              · simp [mm_st, s_setc, s_setv, hj3, v1]
            · rw [s9, s2 8 (by decide) (by decide) (by decide) (by decide) (by decide)]
              obtain ⟨v1, v2⟩ := hV.2 j r hj hr
              by_cases hjr : j = 3 * q ∧ r = p
              · simp [mm_st, s_setc, s_setv, hjr]
                exact (hV.2 (3 * q) p (by omega) hp).1
              · simp [mm_st, s_setc, s_setv, hjr, v1, v2]
            · exact rcH_set (σ := mm_st (mm_st σ 9 (3 * q) p m.1) 7 (3 * q) 0 (17 * g.2.1 0 (3 * q) 0 + m.2 + 1)) (by rw [mm_sn _ _ _ _ (by decide), mm_sn _ _ _ _ (by decide), mm_sn _ _ _ _ (by decide), mm_sn _ _ _ _ (by decide), mm_sn _ _ _ _ (by decide), mm_sn _ _ _ _ (by decide)]; exact hH) hq e2 e3
            · rw [s2 3 (by decide) (by decide) (by decide) (by decide) (by decide), s2 15 (by decide) (by decide) (by decide) (by decide) (by decide)]; exact hN
theorem k_lose (F n f p q : Nat) (g : sg) (σ : mm_M) (hF : 100 ≤ F) (hw : gw n g) (h : rc n [] g f σ) (hp : p < n) (hq : q < n) (hpq : p ≠ q) : ∃ σ', f_X_lose F n σ (nI p) (nI q) = some ((s_lose g p q).1, σ') ∧ rc n [] (s_lose g p q).2 f σ' := by
  have hR := h
  obtain ⟨⟨A1, A2, A3, A4, A5⟩, hV, hH, hN⟩ := h
  have hn := hw.2.1
  have hch := hH p q hp hq
  unfold f_X_lose s_lose
  rw [k_chan F n σ p q hn hp hq hpq A1, Option.bind_some, if_neg (by decide), k_channelOf F n σ p q hn hp hq A1, Option.bind_some, hch.1]
  have hl6 := hch.2.1
  rcases hl : g.2.2.1 p q with _ | ⟨m, l⟩
  · rw [if_pos (by decide)]
    exact ⟨σ, rfl, hR⟩
  · rw [hl] at hch hl6
    have hl6 : l.length + 1 ≤ 6 := hl6
    rw [if_neg (by rw [nn_z (by simp; omega)]; simp), if_pos (by decide)]
    obtain ⟨t1, t2, σ2, e1, e2, e3⟩ := k_takeFirst F n σ (p * n + q) m l hF hch
    have c0 : Int32.toNatClampNeg (0 : Int32) = 0 := rfl
    rw [c0, t1, e1, Option.bind_some]
    have s2 : ∀ k, k ≠ 11 → k ≠ 12 → k ≠ 13 → σ2 k = σ k := e3.1
    refine ⟨σ2, rfl, ⟨?_, ?_, ?_, ?_, ?_⟩, ?_, rcH_set hH hq e2 e3, ?_⟩
    · rw [s2 0 (by decide) (by decide) (by decide)]; exact A1
    · rw [s2 0 (by decide) (by decide) (by decide)]; exact A2
    · rw [s2 4 (by decide) (by decide) (by decide), s2 5 (by decide) (by decide) (by decide)]; exact A3
    · rw [s2 6 (by decide) (by decide) (by decide)]; exact A4
    · rw [s2 10 (by decide) (by decide) (by decide)]; exact A5
    · rw [s2 7 (by decide) (by decide) (by decide), s2 8 (by decide) (by decide) (by decide), s2 9 (by decide) (by decide) (by decide)]; exact hV
    · rw [s2 3 (by decide) (by decide) (by decide), s2 15 (by decide) (by decide) (by decide)]; exact hN
/-- what a beginning is made of -/
def s_b0 (g : sg) (rb : Bool) : sg := s_num (s_num g 5 0 0 (gInst g + 1)) 11 (gInst g + 1) 0 rb.toNat
theorem s_b0_11 (g : sg) (rb : Bool) : (s_b0 g rb).1 11 (gInst g + 1) 0 = rb.toNat := by simp [s_b0, s_num, sn_st]
theorem s_b0_rb (g : sg) (rb : Bool) : ((s_b0 g rb).1 11 (gInst g + 1) 0 == 1) = rb := by rw [s_b0_11]; cases rb <;> rfl
theorem s_b0_o (g : sg) (rb : Bool) {k a b : Nat} (h5 : k ≠ 5) (h11 : k ≠ 11) : (s_b0 g rb).1 k a b = g.1 k a b := by simp [s_b0, s_num, sn_st, h5, h11]
theorem gw_b0 {n : Nat} {g : sg} (hw : gw n g) (rb : Bool) (hi : gInst g < 512) (hI : ∀ p, p < n → gI g p ≤ gInst g) : gw n (s_b0 g rb) := by
  obtain ⟨w1, w2, w3, w4, w5, w6, w7, w8, w9, w10⟩ := hw
  refine ⟨w1, w2, ?_, fun a => ?_, fun a => ?_, fun a q => ?_, fun a => ?_, fun a ha hz => ?_, fun a ha => ?_, fun a ha => ?_⟩
  · simp [gInst, s_b0, s_num, sn_st]; simp [gInst] at hi; omega
  · simpa [s_b0, s_num, sn_st] using w4 a
  · have := w5 a
    refine ⟨?_, by simpa [s_b0, s_num, sn_st] using this.2⟩
    simp only [s_b0, s_num, sn_st]
    split
    · cases rb <;> decide
    · simp; exact this.1
  · simpa [s_b0, s_num, sn_st] using w6 a q
  · simpa [s_b0, s_num, sn_st] using w7 a
  · have e0 : gI (s_b0 g rb) a = gI g a := by unfold gI; rw [s_b0_o g rb (by decide) (by decide)]
    rw [e0] at hz ⊢
    rw [s_b0_o g rb (by decide) (by decide), w8 a ha hz]
    have := hI a ha
    have : ¬ gI g a = gInst g + 1 := by omega
    simp [s_b0, s_num, sn_st, this]
  · rw [s_b0_o g rb (by decide) (by decide)]; exact w9 a ha
  · have e0 : gI (s_b0 g rb) a = gI g a := by unfold gI; rw [s_b0_o g rb (by decide) (by decide)]
    rw [e0]; exact w10 a ha
/-- a beginning keeps the invariant -/
theorem gv_begin {n p : Nat} {g : sg} {N : List pv_N} (rb : Bool) (hv : gv n g [] N) (hp : p < n) (hI : gI g p = 0) (hi : gInst g < 512) : ∃ N', gv n (s_begin n g p rb) [] N' := by
  obtain ⟨hw, hns, hJ, hk⟩ := hv
  have hI9 := hJ.2.2.2.2.2.2.2.2.1.1
  have hwb := gw_b0 hw rb hi hI9
  have hJ0 : gJ n n g [] N := hJ
  have hb := pv_begin (xs := fun q => if rb then g.2.1 1 (3 * p + 1) q else g.2.1 2 (3 * p) q) (cq := fun r => decide (r < n) && s_asks g p rb r) hJ0 hp hI (by simp [s_asks])
  rw [pv_sends_cut] at hb
  have hasks : s_asks (s_b0 g rb) p rb = s_asks g p rb := rfl
  have e : s_begin n g p rb = s_concl n (s_enter n (s_b0 g rb) p (gInst g + 1) rb 0) p := rfl
  rw [e]
  have hwe : gw n (s_enter n (s_b0 g rb) p (gInst g + 1) rb 0) := by
    have := gw_enter (p := p) (i := gInst g + 1) (pa := 0) hwb (by omega) (by omega)
    rw [s_b0_rb] at this
    exact this
  refine gv_concl (D := []) (N := N ++ pv_sends n 0 (gInst g + 1) p (s_asks g p rb) (fun q => if rb then g.2.1 1 (3 * p + 1) q else g.2.1 2 (3 * p) q)) hwe ?_ (gJ_enter ?_) ?_ hp ?_
  · show g.2.2.2 ++ _ = _
    rw [hns]; simp; rfl
  · have e1 : gI (s_b0 g rb) = gI g := by funext a; unfold gI; rw [s_b0_o g rb (by decide) (by decide)]
    have e2 : gC (s_b0 g rb) = gC g := by funext a q; unfold gC; rw [s_b0_o g rb (by decide) (by decide)]
    have e3 : gU (s_b0 g rb) = gU g := by funext a q; unfold gU; rw [s_b0_o g rb (by decide) (by decide)]
    have e4 : gPa (s_b0 g rb) = gPa g := by funext a; unfold gPa; rw [s_b0_o g rb (by decide) (by decide)]
    have e5 : gDec (s_b0 g rb) = gDec g := by funext a; unfold gDec; rw [s_b0_o g rb (by decide) (by decide)]
    have e6 : gInst (s_b0 g rb) = gInst g + 1 := by simp [gInst, s_b0, s_num, sn_st]
    rw [e1, e2, e3, e4, e5, e6, hasks]
    exact hb
  · rw [← List.append_assoc]; exact gk_app hk (gk_sends (Or.inl rfl))
  · simp [gI, s_enter]
theorem k_begin (F n f p : Nat) (rb : Bool) (g : sg) (N : List pv_N) (σ : mm_M) (hF : 100 ≤ F) (hv : gv n g [] N) (h : rc n [] g f σ) (hp : p < n) (hI : gI g p = 0) (hi : gInst g < 512) :
    ∃ σ', f_X_begin F n σ (nI p) (nI rb.toNat) = some (nI (gInst g + 1), σ') ∧ rc n [] (s_begin n g p rb) f σ' := by
  obtain ⟨N', hv'⟩ := gv_begin rb hv hp hI hi
  have hlen := gv_cap hv' (0, 0, 0, 0, 0)
  have hlen : ([] ++ (s_begin n g p rb).2.2.2).length ≤ 4 * n * (n - 1) := by
    simp only [List.length_append, List.length_cons, List.length_nil] at hlen ⊢
    omega
  obtain ⟨hw, hns, hJ, hk⟩ := hv
  have hI9 := hJ.2.2.2.2.2.2.2.2.1.1
  have hwb := gw_b0 hw rb hi hI9
  have hn := hw.2.1
  have hR := h
  obtain ⟨⟨A1, A2, A3, A4, A5⟩, hV, hH, hN⟩ := h
  unfold f_X_begin
  have hz : mm_z (nI rb.toNat) := by cases rb <;> first | exact Or.inl rfl | exact Or.inr rfl
  have hinst : g.1 5 0 0 < 512 := hi
  have A2' : σ 0 0 6 = nI (gInst g) := A2
  rw [A2', show (512 : Int32) = nI 512 from rfl, if_pos ((nn_lt (by omega) (by omega)).mpr hi), nI_1, if_pos (nn_in (show gInst g + 1 < 513 by omega) (by omega)), if_pos hz, nn_c (by omega)]
  have hRb : rc n [] (s_b0 g rb) f (mm_st (mm_st σ 0 0 6 (nI (gInst g + 1))) 4 0 (gInst g + 1) (nI rb.toNat)) := by
    refine ⟨⟨?_, ?_, fun j hj => ?_, fun c hc => ?_, fun c q hc hq => ?_⟩, ?_, ?_, ?_⟩
    · simp [mm_st]; exact A1
    · simp [mm_st, s_b0, s_num, sn_st]
    · obtain ⟨z1, z2⟩ := A3 j hj
      by_cases hji : j = gInst g + 1
      · subst hji
        simp [mm_st, s_b0, s_num, sn_st, z2]
      · simp [mm_st, s_b0, s_num, sn_st, hji, z1, z2]
    · rw [mm_sn _ _ _ _ (by decide), mm_sn _ _ _ _ (by decide)]
      have e : s_aw n (s_b0 g rb).1 c = s_aw n g.1 c := s_aw_c (fun q _ => s_b0_o g rb (by decide) (by decide))
      rw [e]
      simp only [s_b0_o g rb (show 6 ≠ 5 by decide) (by decide), s_b0_o g rb (show 8 ≠ 5 by decide) (by decide), s_b0_o g rb (show 9 ≠ 5 by decide) (by decide), s_b0_o g rb (show 0 ≠ 5 by decide) (by decide), s_b0_o g rb (show 7 ≠ 5 by decide) (by decide), s_b0_o g rb (show 3 ≠ 5 by decide) (by decide), s_b0_o g rb (show 10 ≠ 5 by decide) (by decide)]
      exact A4 c hc
    · rw [mm_sn _ _ _ _ (by decide), mm_sn _ _ _ _ (by decide), s_b0_o g rb (by decide) (by decide)]
      exact A5 c q hc hq
    · rw [mm_sn _ _ _ _ (by decide), mm_sn _ _ _ _ (by decide), mm_sn _ _ _ _ (by decide), mm_sn _ _ _ _ (by decide), mm_sn _ _ _ _ (by decide), mm_sn _ _ _ _ (by decide)]; exact hV
    · rw [mm_sn _ _ _ _ (by decide), mm_sn _ _ _ _ (by decide), mm_sn _ _ _ _ (by decide), mm_sn _ _ _ _ (by decide), mm_sn _ _ _ _ (by decide), mm_sn _ _ _ _ (by decide)]; exact hH
    · rw [mm_sn _ _ _ _ (by decide), mm_sn _ _ _ _ (by decide), mm_sn _ _ _ _ (by decide), mm_sn _ _ _ _ (by decide)]; exact hN
  have e : s_begin n g p rb = s_concl n (s_enter n (s_b0 g rb) p (gInst g + 1) rb 0) p := rfl
  rw [e] at hlen ⊢
  obtain ⟨l, hl⟩ := s_concl_ns n (s_enter n (s_b0 g rb) p (gInst g + 1) rb 0) p
  have hj := k_join F n p (gInst g + 1) 0 f [] (s_b0 g rb) _ hF hwb hRb hp (by omega)
  rw [s_b0_rb] at hj
  obtain ⟨σ1, e1, e2⟩ := hj (by
    rw [hl] at hlen
    simp only [List.length_append] at hlen ⊢
    omega)
  have e1 : f_X_join F n (mm_st (mm_st σ 0 0 6 (nI (gInst g + 1))) 4 0 (gInst g + 1) (nI rb.toNat)) (nI p) (nI (gInst g + 1)) (-1 : Int32) = some σ1 := e1
  rw [e1, Option.bind_some]
  have hwe : gw n (s_enter n (s_b0 g rb) p (gInst g + 1) rb 0) := by
    have := gw_enter (p := p) (i := gInst g + 1) (pa := 0) hwb (by omega) (by omega)
    rw [s_b0_rb] at this
    exact this
  obtain ⟨σ2, e3, e4⟩ := k_concl F n p f [] _ σ1 hF hwe e2 hp hlen
  rw [e3]
  exact ⟨σ2, rfl, e4⟩
theorem k_checkpoint (F n f p : Nat) (g : sg) (N : List pv_N) (σ : mm_M) (hF : 100 ≤ F) (hv : gv n g [] N) (h : rc n [] g f σ) (hp : p < n) (hi : gInst g < 512) :
    ∃ σ', f_X_checkpoint F n σ (nI p) = some ((s_checkpoint n g p).1, σ') ∧ rc n [] (s_checkpoint n g p).2 f σ' := by
  have hR := h
  have hw := hv.1
  obtain ⟨⟨A1, A2, A3, A4, A5⟩, hV, hH, hN⟩ := h
  obtain ⟨B1, B2, B3, B4, B5, B6, B7, B8⟩ := A4 p hp
  have hn := hw.2.1
  have hdn := (hw.2.2.2.1 p).1
  have hI : g.1 0 p 0 ≤ 512 := hw.2.2.2.2.2.2.2.2.2 p hp
  unfold f_X_checkpoint s_checkpoint
  rw [k_proc F n σ p hn hp A1, Option.bind_some, if_neg (by decide), if_pos (nn_in hp (by omega)), nn_c (by omega), B1]
  by_cases h1 : g.1 6 p 0 = 1
  · rw [if_neg (by rw [nn_z (by omega)]; omega), if_pos h1]
    exact ⟨σ, rfl, hR⟩
  · rw [if_pos (by rw [nn_z (by omega)]; omega), if_neg h1, k_isInv F n σ p (g.1 0 p 0) (by omega) B4, Option.bind_some]
    by_cases h2 : g.1 0 p 0 ≠ 0
    · rw [if_neg h2, if_neg (by decide), if_pos h2]
      exact ⟨σ, rfl, hR⟩
    · have h2' : g.1 0 p 0 = 0 := by omega
      rw [if_pos h2', if_pos rfl, if_neg h2]
      obtain ⟨σ', e1, e2⟩ := k_begin F n f p false g N σ hF hv hR hp h2' hi
      have e1 : f_X_begin F n σ (nI p) (0 : Int32) = some (nI (gInst g + 1), σ') := e1
      rw [e1]
      exact ⟨σ', rfl, e2⟩
theorem k_restart (F n f p : Nat) (g : sg) (N : List pv_N) (σ : mm_M) (hF : 100 ≤ F) (hv : gv n g [] N) (h : rc n [] g f σ) (hp : p < n) (hi : gInst g < 512) :
    ∃ σ', f_X_restart F n σ (nI p) = some ((s_restart n g p).1, σ') ∧ rc n [] (s_restart n g p).2 f σ' := by
  have hR := h
  have hw := hv.1
  obtain ⟨⟨A1, A2, A3, A4, A5⟩, hV, hH, hN⟩ := h
  obtain ⟨B1, B2, B3, B4, B5, B6, B7, B8⟩ := A4 p hp
  have hn := hw.2.1
  have hdn := (hw.2.2.2.1 p).1
  have hI : g.1 0 p 0 ≤ 512 := hw.2.2.2.2.2.2.2.2.2 p hp
  unfold f_X_restart s_restart
  rw [k_proc F n σ p hn hp A1, Option.bind_some, if_neg (by decide), if_pos (nn_in hp (by omega)), nn_c (by omega), B1]
  by_cases h1 : g.1 6 p 0 = 1
  · rw [if_neg (by rw [nn_z (by omega)]; omega), if_pos h1, k_isInv F n σ p (g.1 0 p 0) (by omega) B4, Option.bind_some]
    by_cases h2 : g.1 0 p 0 ≠ 0
    · rw [if_neg h2, if_neg (by decide), if_pos h2]
      exact ⟨σ, rfl, hR⟩
    · have h2' : g.1 0 p 0 = 0 := by omega
      rw [if_pos h2', if_pos rfl, if_neg h2]
      obtain ⟨σ', e1, e2⟩ := k_begin F n f p true g N σ hF hv hR hp h2' hi
      have e1 : f_X_begin F n σ (nI p) (1 : Int32) = some (nI (gInst g + 1), σ') := e1
      rw [e1]
      exact ⟨σ', rfl, e2⟩
  · rw [if_pos (by rw [nn_z (by omega)]; omega), if_neg h1]
    exact ⟨σ, rfl, hR⟩
theorem k_crash (F n f p : Nat) (g : sg) (σ : mm_M) (hw : gw n g) (h : rc n [] g f σ) (hp : p < n) :
    ∃ σ', f_X_crash F n σ (nI p) = some ((s_crash g p).1, σ') ∧ rc n [] (s_crash g p).2 f σ' := by
  have hR := h
  obtain ⟨⟨A1, A2, A3, A4, A5⟩, hV, hH, hN⟩ := h
  obtain ⟨B1, B2, B3, B4, B5, B6, B7, B8⟩ := A4 p hp
  have hn := hw.2.1
  have hdn := (hw.2.2.2.1 p).1
  have hI : g.1 0 p 0 ≤ 512 := hw.2.2.2.2.2.2.2.2.2 p hp
  unfold f_X_crash s_crash
  rw [k_proc F n σ p hn hp A1, Option.bind_some, if_neg (by decide), if_pos (nn_in hp (by omega)), nn_c (by omega), B1]
  by_cases h1 : g.1 6 p 0 = 1
  · rw [if_neg (by rw [nn_z (by omega)]; omega), if_pos h1]
    exact ⟨σ, rfl, hR⟩
  · rw [if_pos (by rw [nn_z (by omega)]; omega), if_neg h1, k_isInv F n σ p (g.1 0 p 0) (by omega) B4, Option.bind_some]
    by_cases h2 : g.1 0 p 0 ≠ 0
    · rw [if_neg h2, if_neg (by decide), if_pos h2]
      exact ⟨σ, rfl, hR⟩
    · have h2' : g.1 0 p 0 = 0 := by omega
      rw [if_pos h2', if_pos rfl, if_neg h2]
      refine ⟨_, rfl, ⟨?_, ?_, fun j hj => ?_, fun c hc => ?_, fun c q hc hq => ?_⟩, ?_, ?_, ?_⟩
      · rw [mm_sn _ _ _ _ (by decide)]; exact A1
      · rw [mm_sn _ _ _ _ (by decide)]; exact A2
      · rw [mm_sn _ _ _ _ (by decide), mm_sn _ _ _ _ (by decide)]
        simpa [s_num, sn_st] using A3 j hj
      · obtain ⟨D1, D2, D3, D4, D5, D6, D7, D8⟩ := A4 c hc
        have e : s_aw n (s_num g 6 p 0 1).1 c = s_aw n g.1 c := s_aw_c (fun q _ => by simp [s_num, sn_st])
        rw [e]
        by_cases hcp : c = p
        · subst hcp
          simp [mm_st, s_num, sn_st, D2, D3, D4, D5, D6, D7, D8]
          rfl
        · simp [mm_st, s_num, sn_st, hcp, D1, D2, D3, D4, D5, D6, D7, D8]
      · rw [mm_sn _ _ _ _ (by decide)]
        simpa [s_num, sn_st] using A5 c q hc hq
      · rw [mm_sn _ _ _ _ (by decide), mm_sn _ _ _ _ (by decide), mm_sn _ _ _ _ (by decide)]; exact hV
      · rw [mm_sn _ _ _ _ (by decide), mm_sn _ _ _ _ (by decide), mm_sn _ _ _ _ (by decide)]; exact hH
      · rw [mm_sn _ _ _ _ (by decide), mm_sn _ _ _ _ (by decide)]; exact hN
