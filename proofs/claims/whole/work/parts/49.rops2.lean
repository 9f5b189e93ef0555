theorem rr_b0 {n T : Nat} {g : sg} {ρ : mm_M} {N : List pv_N} (rb : Bool) (h : rr n T 0 [] g ρ) (hv : gv n g [] N) : rr n T 0 [] (s_b0 g rb) (mm_st ρ 0 0 16 (nI (gInst g + 1))) := by
  obtain ⟨⟨ln, kp, fx, gn, ⟨A1, A2, A3⟩, B, C, D, E, G⟩, hN⟩ := h
  obtain ⟨hw, hns, hJ, hgk⟩ := hv
  have hIi := hJ.2.2.2.2.2.2.2.2.1.1
  refine ⟨⟨ln, kp, fx, gn, ⟨?_, ?_, fun j hj => ?_⟩, fun p hp => ?_, fun p hp => ?_, ?_, fun p hp => ?_, fun p q hp hq hpq => ?_⟩, ?_⟩
  · simp [mm_st]; exact A1
  · simp [mm_st, gInst, s_b0, s_num, sn_st]
  · rw [mm_sn _ _ _ _ (by decide), s_b0_o g rb (by decide) (by decide)]; exact A3 j hj
  · simp only [mm_sn _ _ _ _ (show 10 ≠ 0 by decide), mm_sn _ _ _ _ (show 11 ≠ 0 by decide), mm_sn _ _ _ _ (show 12 ≠ 0 by decide), mm_sn _ _ _ _ (show 13 ≠ 0 by decide), mm_sn _ _ _ _ (show 26 ≠ 0 by decide), mm_sn _ _ _ _ (show 27 ≠ 0 by decide)]
    simp only [s_b0_o g rb (show 6 ≠ 5 by decide) (by decide), s_b0_o g rb (show 8 ≠ 5 by decide) (by decide), s_b0_o g rb (show 9 ≠ 5 by decide) (by decide), s_b0_o g rb (show 0 ≠ 5 by decide) (by decide), s_b0_o g rb (show 7 ≠ 5 by decide) (by decide), s_b0_o g rb (show 3 ≠ 5 by decide) (by decide)]
    exact B p hp
  · simp only [mm_sn _ _ _ _ (show 14 ≠ 0 by decide), mm_sn _ _ _ _ (show 15 ≠ 0 by decide), mm_sn _ _ _ _ (show 16 ≠ 0 by decide)]
    have e1 : gC (s_b0 g rb) p = gC g p := by funext q; simp only [gC, s_b0_o g rb (show 1 ≠ 5 by decide) (by decide)]
    have e2 : gU (s_b0 g rb) p = gU g p := by funext q; simp only [gU, s_b0_o g rb (show 2 ≠ 5 by decide) (by decide)]
    rw [e1, e2]
    simp only [s_b0_o g rb (show 0 ≠ 5 by decide) (by decide), s_b0_o g rb (show 10 ≠ 5 by decide) (by decide)]
    exact C p hp
  · simp only [mm_sn _ _ _ _ (show 2 ≠ 0 by decide), mm_sn _ _ _ _ (show 7 ≠ 0 by decide), mm_sn _ _ _ _ (show 8 ≠ 0 by decide)]
    exact D
  · have := E p hp
    unfold lgs at this ⊢
    simp only [mm_sn _ _ _ _ (show 3 ≠ 0 by decide), mm_sn _ _ _ _ (show 4 ≠ 0 by decide), mm_sn _ _ _ _ (show 5 ≠ 0 by decide), mm_sn _ _ _ _ (show 6 ≠ 0 by decide), s_b0_o g rb (show 0 ≠ 5 by decide) (by decide), s_b0_o g rb (show 7 ≠ 5 by decide) (by decide)]
    exact this
  · have := G p q hp hq hpq
    unfold chs at this ⊢
    simp only [mm_sn _ _ _ _ (show 3 ≠ 0 by decide), mm_sn _ _ _ _ (show 4 ≠ 0 by decide), mm_sn _ _ _ _ (show 6 ≠ 0 by decide), mm_sn _ _ _ _ (show 9 ≠ 0 by decide)]
    exact this
  · obtain ⟨z1, z2, z3⟩ := hN
    have z1' : ρ 0 0 18 = nI g.2.2.2.length := by simpa using z1
    refine ⟨by simp [mm_st]; exact z1', z2, fun j m hm => ?_⟩
    have := z3 j m hm
    have hmem : m ∈ ([] : List pv_N) ++ N := by
      rw [List.nil_append] at hm ⊢
      rw [show (s_b0 g rb).2.2.2 = g.2.2.2 from rfl, hns, List.nil_append] at hm
      exact List.mem_of_getElem? hm
    have hle := (hJ.1 m hmem).2.2.2.2.2
    have hne : ¬ m.2.1 = gInst g + 1 := by omega
    have hk : (s_b0 g rb).1 11 m.2.1 0 = g.1 11 m.2.1 0 := by simp [s_b0, s_num, sn_st, hne]
    unfold r_nt at this ⊢
    simp only [mm_sn _ _ _ _ (show 20 ≠ 0 by decide), mm_sn _ _ _ _ (show 21 ≠ 0 by decide), mm_sn _ _ _ _ (show 22 ≠ 0 by decide), mm_sn _ _ _ _ (show 23 ≠ 0 by decide), mm_sn _ _ _ _ (show 24 ≠ 0 by decide), mm_sn _ _ _ _ (show 25 ≠ 0 by decide), hk]
    exact this
theorem s_begin_inst (n : Nat) (g : sg) (p : Nat) (rb : Bool) : gInst (s_begin n g p rb) = gInst g + 1 := by
  have e : s_begin n g p rb = s_concl n (s_enter n (s_b0 g rb) p (gInst g + 1) rb 0) p := rfl
  rw [e]
  have h5 : (s_enter n (s_b0 g rb) p (gInst g + 1) rb 0).1 5 0 0 = gInst g + 1 := by simp [s_enter, s_b0, s_num, sn_st]
  unfold gInst s_concl
  split
  · exact h5
  · split
    · exact h5
    · rw [s_follow_1 n _ p _ 5 0 0 (by decide) (by decide) (by decide) (by decide)]
      simp only [s_num, sn_st]
      simpa using h5
theorem q_begin (F n T p : Nat) (rb : Bool) (g : sg) (N : List pv_N) (ρ : mm_M) (hF : 1000 ≤ F) (hT : T ≤ 512) (hv : gv n g [] N) (h : rr n T 0 [] g ρ) (hp : p < n) (hI : gI g p = 0) (hi : gInst g < 512) :
    ∃ ρ', f_R_begin F n ρ (nI p) (nI rb.toNat) = some (nI (gInst g + 1), ρ') ∧ rr n T 0 [] (s_begin n g p rb) ρ' := by
  obtain ⟨N', hv'⟩ := gv_begin rb hv hp hI hi
  have hcap := gv_cap hv' (0, 0, 0, 0, 0)
  have hw := hv.1
  have hcap5 := k_cap hw.2.1
  have hJ := hv.2.2.1
  have hI9 := hJ.2.2.2.2.2.2.2.2.1.1
  have hwb := gw_b0 hw rb hi hI9
  have hRb := rr_b0 rb h hv
  have A2 : ρ 0 0 16 = nI (gInst g) := by obtain ⟨⟨ln, kp, fx, gn, A, _⟩, _⟩ := h; exact A.2.1
  unfold f_R_begin
  rw [A2, nI_1]
  have e : s_begin n g p rb = s_concl n (s_enter n (s_b0 g rb) p (gInst g + 1) rb 0) p := rfl
  have hlen : 0 + ([] ++ (s_concl n (s_enter n (s_b0 g rb) p (gInst g + 1) rb 0) p).2.2.2).length ≤ 300 := by
    rw [e] at hcap
    simp only [List.length_append, List.length_cons, List.length_nil] at hcap ⊢
    omega
  obtain ⟨l, hl⟩ := s_concl_ns n (s_enter n (s_b0 g rb) p (gInst g + 1) rb 0) p
  have hj := r_enter F n T p (gInst g + 1) 0 0 [] (s_b0 g rb) _ hF hT hwb hRb hp
  rw [s_b0_rb] at hj
  obtain ⟨ρ1, f1, f2⟩ := hj (by
    rw [hl] at hlen
    simp only [List.length_append] at hlen ⊢
    omega)
  rw [s_b0_11] at f1
  have f1 : f_R_join F n (mm_st ρ 0 0 16 (nI (gInst g + 1))) (nI p) (nI (gInst g + 1)) (nI rb.toNat) (-1 : Int32) = f_R_complete F n ρ1 (nI p) := f1
  have hwe : gw n (s_enter n (s_b0 g rb) p (gInst g + 1) rb 0) := by
    have := gw_enter (p := p) (i := gInst g + 1) (pa := 0) hwb (by omega) (by omega)
    rw [s_b0_rb] at this
    exact this
  obtain ⟨ρ2, f3, f4⟩ := r_complete F n T p 0 [] _ ρ1 hF hT hwe f2 hp (by simp [gI, s_enter]) (fun q hq hu => by
    simp only [gU, gC, s_enter] at hu ⊢
    simpa using hu) hlen
  rw [f1, f3, Option.bind_some]
  have hinst : ρ2 0 0 16 = nI (gInst g + 1) := by
    obtain ⟨⟨ln, kp, fx, gn, A, _⟩, _⟩ := f4
    rw [A.2.1, ← e, s_begin_inst]
  rw [hinst]
  exact ⟨ρ2, rfl, f4⟩
theorem q_checkpoint (F n T p : Nat) (g : sg) (N : List pv_N) (ρ : mm_M) (hF : 1000 ≤ F) (hT : T ≤ 512) (hv : gv n g [] N) (h : rr n T 0 [] g ρ) (hp : p < n) (hi : gInst g < 512) :
    ∃ ρ', f_R_checkpoint F n ρ (nI p) = some ((s_checkpoint n g p).1, ρ') ∧ rr n T 0 [] (s_checkpoint n g p).2 ρ' := by
  have hR := h
  have hw := hv.1
  obtain ⟨⟨ln, kp, fx, gn, A, B, C, D, E, G⟩, hN⟩ := h
  obtain ⟨b1, b2, b3, b4, b5, b6⟩ := B p hp
  have hn := hw.2.1
  have hdn := (hw.2.2.2.1 p).1
  have hI : g.1 0 p 0 ≤ 512 := hw.2.2.2.2.2.2.2.2.2 p hp
  unfold f_R_checkpoint s_checkpoint
  rw [q_proc F n ρ p hn hp A.1, Option.bind_some, if_neg (by decide), if_pos (nn_in (show p < 5 by omega) (by omega)), nn_c (by omega), b1, b2]
  by_cases h1 : g.1 6 p 0 = 1
  · rw [if_neg (by rw [nn_z (by omega)]; omega), if_pos h1]
    exact ⟨ρ, rfl, hR⟩
  · rw [if_pos (by rw [nn_z (by omega)]; omega), if_neg h1]
    by_cases h2 : g.1 0 p 0 ≠ 0
    · rw [if_neg (by rw [show (0 : Int32) = nI 0 from rfl, nn_le (by omega) (by omega)]; omega), if_pos h2]
      exact ⟨ρ, rfl, hR⟩
    · have h2' : g.1 0 p 0 = 0 := by omega
      rw [if_pos (by rw [show (0 : Int32) = nI 0 from rfl, nn_le (by omega) (by omega)]; omega), if_neg h2]
      obtain ⟨ρ', e1, e2⟩ := q_begin F n T p false g N ρ hF hT hv hR hp h2' hi
      have e1 : f_R_begin F n ρ (nI p) (0 : Int32) = some (nI (gInst g + 1), ρ') := e1
      rw [e1]
      exact ⟨ρ', rfl, e2⟩
theorem q_restart (F n T p : Nat) (g : sg) (N : List pv_N) (ρ : mm_M) (hF : 1000 ≤ F) (hT : T ≤ 512) (hv : gv n g [] N) (h : rr n T 0 [] g ρ) (hp : p < n) (hi : gInst g < 512) :
    ∃ ρ', f_R_restart F n ρ (nI p) = some ((s_restart n g p).1, ρ') ∧ rr n T 0 [] (s_restart n g p).2 ρ' := by
  have hR := h
  have hw := hv.1
  obtain ⟨⟨ln, kp, fx, gn, A, B, C, D, E, G⟩, hN⟩ := h
  obtain ⟨b1, b2, b3, b4, b5, b6⟩ := B p hp
  have hn := hw.2.1
  have hdn := (hw.2.2.2.1 p).1
  have hI : g.1 0 p 0 ≤ 512 := hw.2.2.2.2.2.2.2.2.2 p hp
  unfold f_R_restart s_restart
  rw [q_proc F n ρ p hn hp A.1, Option.bind_some, if_neg (by decide), if_pos (nn_in (show p < 5 by omega) (by omega)), nn_c (by omega), b1, b2]
  by_cases h1 : g.1 6 p 0 = 1
  · rw [if_neg (by rw [nn_z (by omega)]; omega), if_pos h1]
    by_cases h2 : g.1 0 p 0 ≠ 0
    · rw [if_neg (by rw [show (0 : Int32) = nI 0 from rfl, nn_le (by omega) (by omega)]; omega), if_pos h2]
      exact ⟨ρ, rfl, hR⟩
    · have h2' : g.1 0 p 0 = 0 := by omega
      rw [if_pos (by rw [show (0 : Int32) = nI 0 from rfl, nn_le (by omega) (by omega)]; omega), if_neg h2]
      obtain ⟨ρ', e1, e2⟩ := q_begin F n T p true g N ρ hF hT hv hR hp h2' hi
      have e1 : f_R_begin F n ρ (nI p) (1 : Int32) = some (nI (gInst g + 1), ρ') := e1
      rw [e1]
      exact ⟨ρ', rfl, e2⟩
  · rw [if_pos (by rw [nn_z (by omega)]; omega), if_neg h1]
    exact ⟨ρ, rfl, hR⟩
theorem q_crash (F n T p : Nat) (g : sg) (ρ : mm_M) (hw : gw n g) (h : rr n T 0 [] g ρ) (hp : p < n) :
    ∃ ρ', f_R_crash F n ρ (nI p) = some ((s_crash g p).1, ρ') ∧ rr n T 0 [] (s_crash g p).2 ρ' := by
  have hR := h
  obtain ⟨⟨ln, kp, fx, gn, A, B, C, D, E, G⟩, hN⟩ := h
  obtain ⟨b1, b2, b3, b4, b5, b6⟩ := B p hp
  have hn := hw.2.1
  have hdn := (hw.2.2.2.1 p).1
  have hI : g.1 0 p 0 ≤ 512 := hw.2.2.2.2.2.2.2.2.2 p hp
  unfold f_R_crash s_crash
  rw [q_proc F n ρ p hn hp A.1, Option.bind_some, if_neg (by decide), if_pos (nn_in (show p < 5 by omega) (by omega)), nn_c (by omega), b1, b2]
  by_cases h1 : g.1 6 p 0 = 1
  · have h1' : ¬ nI (g.1 6 p 0) = (0 : Int32) := by rw [nn_z (by omega)]; omega
    rw [if_neg h1', if_neg h1', if_pos h1]
    exact ⟨ρ, rfl, hR⟩
  · have h1' : nI (g.1 6 p 0) = (0 : Int32) := by rw [nn_z (by omega)]; omega
    rw [if_pos h1', if_neg h1]
    by_cases h2 : g.1 0 p 0 ≠ 0
    · rw [if_neg (by rw [show (0 : Int32) = nI 0 from rfl, nn_le (by omega) (by omega)]; omega), if_pos h1', if_pos h2]
      exact ⟨ρ, rfl, hR⟩
    · rw [if_pos (by rw [show (0 : Int32) = nI 0 from rfl, nn_le (by omega) (by omega)]; omega), if_neg h2]
      refine ⟨_, rfl, ⟨ln, kp, fx, gn, ?_, fun a ha => ?_, fun a ha => ?_, ?_, fun a ha => ?_, fun a b ha hb hab => ?_⟩, ?_⟩
      · obtain ⟨A1, A2, A3⟩ := A
        simp only [mm_sn _ _ _ _ (show 0 ≠ 10 by decide), mm_sn _ _ _ _ (show 18 ≠ 10 by decide)]
        exact ⟨A1, by rw [A2]; simp [gInst, s_num, sn_st], fun j hj => by rw [A3 j hj]; simp [s_num, sn_st]⟩
      · obtain ⟨y1, y2, y3, y4, y5, y6⟩ := B a ha
        by_cases hap : a = p
        · simp [mm_st, s_num, sn_st, hap, y2, y3, y4, y5, y6]
          rw [← hap]
          exact ⟨rfl, y2, y3, y4, y5, y6⟩
        · simp [mm_st, s_num, sn_st, hap, y1, y2, y3, y4, y5, y6]
      · simp only [mm_sn _ _ _ _ (show 14 ≠ 10 by decide), mm_sn _ _ _ _ (show 15 ≠ 10 by decide), mm_sn _ _ _ _ (show 16 ≠ 10 by decide)]
        have e1 : gC (s_num g 6 p 0 1) a = gC g a := by funext q; simp [gC, s_num, sn_st]
        have e2 : gU (s_num g 6 p 0 1) a = gU g a := by funext q; simp [gU, s_num, sn_st]
        rw [e1, e2]
        simpa [s_num, sn_st] using C a ha
      · simp only [mm_sn _ _ _ _ (show 2 ≠ 10 by decide), mm_sn _ _ _ _ (show 7 ≠ 10 by decide), mm_sn _ _ _ _ (show 8 ≠ 10 by decide)]
        exact D
      · have := E a ha
        unfold lgs at this ⊢
        simp only [mm_sn _ _ _ _ (show 3 ≠ 10 by decide), mm_sn _ _ _ _ (show 4 ≠ 10 by decide), mm_sn _ _ _ _ (show 5 ≠ 10 by decide), mm_sn _ _ _ _ (show 6 ≠ 10 by decide)]
        simpa [s_num, sn_st] using this
      · have := G a b ha hb hab
        unfold chs at this ⊢
        simp only [mm_sn _ _ _ _ (show 3 ≠ 10 by decide), mm_sn _ _ _ _ (show 4 ≠ 10 by decide), mm_sn _ _ _ _ (show 6 ≠ 10 by decide), mm_sn _ _ _ _ (show 9 ≠ 10 by decide)]
        exact this
      · have e : (fun i => (s_num g 6 p 0 1).1 11 i 0) = fun i => g.1 11 i 0 := by funext j; simp [s_num, sn_st]
        rw [e]
        exact rrN_k hN (by rw [mm_sn _ _ _ _ (by decide)]) (fun k z1 z2 => by rw [mm_sn _ _ _ _ (by omega)])
section RB
variable {F n T : Nat} {g : sg} {ρ : mm_M}
theorem qb_work (h0 : ρ 0 0 0 = nI n) {a : Int32} (h : badp n a) (x : Int32) : f_R_work F n ρ a x = some (-1, ρ) := by
  unfold f_R_work; rw [q_noproc F n ρ a h0 h]; rfl
theorem qb_send (hn : n ≤ 5) (h0 : ρ 0 0 0 = nI n) {a b : Int32} (h : badc n a b) : f_R_send F n ρ a b = some (-1, ρ) := by
  unfold f_R_send; rw [q_nochan F n ρ a b hn h0 h]; rfl
theorem qb_receive (hn : n ≤ 5) (h0 : ρ 0 0 0 = nI n) {a b : Int32} (h : badc n a b) : f_R_receive F n ρ a b = some (-1, ρ) := by
  unfold f_R_receive; rw [q_nochan F n ρ a b hn h0 h]; rfl
theorem qb_lose (hn : n ≤ 5) (h0 : ρ 0 0 0 = nI n) {a b : Int32} (h : badc n a b) : f_R_lose F n ρ a b = some (-1, ρ) := by
  unfold f_R_lose; rw [q_nochan F n ρ a b hn h0 h]; rfl
theorem qb_checkpoint (h0 : ρ 0 0 0 = nI n) {a : Int32} (h : badp n a) : f_R_checkpoint F n ρ a = some (-1, ρ) := by
  unfold f_R_checkpoint; rw [q_noproc F n ρ a h0 h]; rfl
theorem qb_crash (h0 : ρ 0 0 0 = nI n) {a : Int32} (h : badp n a) : f_R_crash F n ρ a = some (-1, ρ) := by
  unfold f_R_crash; rw [q_noproc F n ρ a h0 h]; rfl
theorem qb_restart (h0 : ρ 0 0 0 = nI n) {a : Int32} (h : badp n a) : f_R_restart F n ρ a = some (-1, ρ) := by
  unfold f_R_restart; rw [q_noproc F n ρ a h0 h]; rfl
end RB
