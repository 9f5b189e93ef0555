section RG
variable {F n T : Nat} {g : sg} {ρ : mm_M}
theorem q_value (hF : 1000 ≤ F) (hT : T ≤ 512) (hw : gw n g) (h : rr n T 0 [] g ρ) {p : Nat} (hp : p < n) : f_R_value F n ρ (nI p) = some (g.2.1 0 (3 * p) 0) := by
  obtain ⟨⟨ln, kp, fx, gn, A, B, C, D, E, G⟩, hN⟩ := h
  obtain ⟨D1, D2, D3, D4, D5⟩ := D p hp
  have hn := hw.2.1
  unfold f_R_value
  rw [q_proc F n ρ p hn hp A.1, Option.bind_some, if_neg (by decide), if_pos (nn_in (show p < 5 by omega) (by omega)), nn_c (by omega), D1, r_value F n p (ln p) ρ hF (by omega) (by omega), (E p hp).1.1]
  rfl
theorem q_kept (hF : 1000 ≤ F) (hT : T ≤ 512) (hw : gw n g) (h : rr n T 0 [] g ρ) {p : Nat} (hp : p < n) : f_R_kept F n ρ (nI p) = some (g.2.1 0 (3 * p + 1) 0) := by
  obtain ⟨⟨ln, kp, fx, gn, A, B, C, D, E, G⟩, hN⟩ := h
  obtain ⟨D1, D2, D3, D4, D5⟩ := D p hp
  have hn := hw.2.1
  unfold f_R_kept
  rw [q_proc F n ρ p hn hp A.1, Option.bind_some, if_neg (by decide), if_pos (nn_in (show p < 5 by omega) (by omega)), nn_c (by omega), D2, r_value F n p (kp p) ρ hF (by omega) (by omega), (E p hp).2.1.1]
  rfl
theorem q_label (hF : 1000 ≤ F) (hT : T ≤ 512) (hw : gw n g) (h : rr n T 0 [] g ρ) {p q : Nat} (hp : p < n) (hq : q < n) (hpq : p ≠ q) (w : Int32) : f_R_label F n ρ (nI p) (nI q) w = some (s_label g p q w) := by
  obtain ⟨⟨ln, kp, fx, gn, A, B, C, D, E, G⟩, hN⟩ := h
  obtain ⟨D1, D2, D3, D4, D5⟩ := D p hp
  have hn := hw.2.1
  have i5 := nn_in (show p < 5 by omega) (show 5 ≤ 100000 by omega)
  obtain ⟨E1, E2, -⟩ := E p hp
  have s1 := r_sent F n p q (ln p) ρ hF (by omega) (by omega)
  have s2 := r_sent F n p q (kp p) ρ hF (by omega) (by omega)
  have v1 := r_recv F n p q (ln p) ρ hF (by omega) (by omega)
  have v2 := r_recv F n p q (kp p) ρ hF (by omega) (by omega)
  unfold f_R_label s_label
  rw [q_chan F n ρ p q hn hp hq hpq A.1, Option.bind_some, if_neg (by decide), nn_c (by omega), D1, D2, (E1.2 q hq).1, (E1.2 q hq).2, (E2.2 q hq).1, (E2.2 q hq).2]
  by_cases h1 : w < 0
  · have n0 : w ≠ 0 := fun z => by rw [z] at h1; exact absurd h1 (by decide)
    have n1 : w ≠ 1 := fun z => by rw [z] at h1; exact absurd h1 (by decide)
    have n2 : w ≠ 2 := fun z => by rw [z] at h1; exact absurd h1 (by decide)
    have n3 : w ≠ 3 := fun z => by rw [z] at h1; exact absurd h1 (by decide)
    rw [if_pos h1, if_neg n0, if_neg n1, if_neg n2, if_neg n3]
  · rw [if_neg h1]
    by_cases h3 : w ≤ 3
    · obtain ⟨j, hj, rfl⟩ := nI_of2 (show (3 : Int32).toInt = ((3 : Nat) : Int) by decide) h1 h3
      rw [if_pos h3]
      rcases (show j = 0 ∨ j = 1 ∨ j = 2 ∨ j = 3 by omega) with rfl | rfl | rfl | rfl
      · rw [if_neg (by decide), if_pos i5, Option.bind_some, if_pos (by decide), s1, if_pos (by decide)]; rfl
      · rw [if_neg (by decide), if_pos i5, Option.bind_some, if_neg (by decide), v1, if_neg (by decide), if_pos (by decide)]; rfl
      · rw [if_pos (by decide), if_pos i5, Option.bind_some, if_pos (by decide), s2, if_neg (by decide), if_neg (by decide), if_pos (by decide)]; rfl
      · rw [if_pos (by decide), if_pos i5, Option.bind_some, if_neg (by decide), v2, if_neg (by decide), if_neg (by decide), if_neg (by decide), if_pos (by decide)]; rfl
    · have n0 : w ≠ 0 := fun z => by rw [z] at h3; exact h3 (by decide)
      have n1 : w ≠ 1 := fun z => by rw [z] at h3; exact h3 (by decide)
      have n2 : w ≠ 2 := fun z => by rw [z] at h3; exact h3 (by decide)
      have n3 : w ≠ 3 := fun z => by rw [z] at h3; exact h3 (by decide)
      rw [if_neg h3, if_neg n0, if_neg n1, if_neg n2, if_neg n3]
theorem q_waiting (hF : 1000 ≤ F) (hT : T ≤ 512) (hw : gw n g) (h : rr n T 0 [] g ρ) {p q : Nat} (hp : p < n) (hq : q < n) (hpq : p ≠ q) : f_R_waiting F n ρ (nI p) (nI q) = some (nI (g.2.2.1 p q).length) := by
  have hn := hw.2.1
  have h0 : ρ 0 0 0 = nI n := by obtain ⟨⟨ln, kp, fx, gn, A, _⟩, _⟩ := h; exact A.1
  unfold f_R_waiting
  rw [q_chan F n ρ p q hn hp hq hpq h0, Option.bind_some, if_neg (by decide), q_inChannel F n T g ρ p q hF hT hn h hp hq hpq]
  rfl
theorem q_down (hw : gw n g) (h : rr n T 0 [] g ρ) {p : Nat} (hp : p < n) : f_R_down F n ρ (nI p) = some (nI (g.1 6 p 0)) := by
  obtain ⟨⟨ln, kp, fx, gn, A, B, C, D, E, G⟩, hN⟩ := h
  have hn := hw.2.1
  have hd := (hw.2.2.2.1 p).1
  unfold f_R_down
  rw [q_proc F n ρ p hn hp A.1, Option.bind_some, if_neg (by decide), if_pos (nn_in (show p < 5 by omega) (by omega)), nn_c (by omega), (B p hp).1]
  rcases (show g.1 6 p 0 = 0 ∨ g.1 6 p 0 = 1 by omega) with e | e <;> rw [e] <;> rfl
theorem q_instance (hw : gw n g) (h : rr n T 0 [] g ρ) {p : Nat} (hp : p < n) : f_R_instance F n ρ (nI p) = some (nI (g.1 0 p 0)) := by
  obtain ⟨⟨ln, kp, fx, gn, A, B, C, D, E, G⟩, hN⟩ := h
  have hn := hw.2.1
  unfold f_R_instance
  rw [q_proc F n ρ p hn hp A.1, Option.bind_some, if_neg (by decide), if_pos (nn_in (show p < 5 by omega) (by omega)), nn_c (by omega), (B p hp).2.1]
  rfl
theorem q_decision (hw : gw n g) (h : rr n T 0 [] g ρ) (a : Int32) : f_R_decision F n ρ a = some (s_decision g a) := by
  obtain ⟨⟨ln, kp, fx, gn, ⟨A1, A2, A3⟩, B, C, D, E, G⟩, hN⟩ := h
  have hi : gInst g ≤ 512 := hw.2.2.1
  unfold f_R_decision s_decision
  rw [A2]
  by_cases h1 : a < 1
  · rw [if_pos h1, if_pos h1]; rfl
  · rw [if_neg h1, if_neg h1]
    by_cases h2 : nI (gInst g) < a
    · rw [if_pos h2, if_pos h2]; rfl
    · rw [if_neg h2, if_neg h2]
      have h3 : ∃ j : Nat, j ≤ 512 ∧ a = nI j := by
        have h4 : ¬ a < 0 := fun z => h1 (Int32.lt_trans z (by decide))
        obtain ⟨j, hj, rfl⟩ := nI_of h4
        refine ⟨j, ?_, rfl⟩
        have := Int32.not_lt.mp h2
        have := (nI_leI hj (show gInst g < 2 ^ 31 by omega)).mp this
        omega
      obtain ⟨j, hj, rfl⟩ := h3
      rw [if_pos (nn_in (show j < 520 by omega) (by omega)), nn_c (by omega), A3 j hj]
      rfl
theorem q_notes (h : rr n T 0 [] g ρ) : f_R_notes F n ρ = some (nI g.2.2.2.length) := by
  unfold f_R_notes
  have := h.2.1
  have this : ρ 0 0 18 = nI g.2.2.2.length := by simpa using this
  rw [this]
theorem q_times (hw : gw n g) (h : rr n T 0 [] g ρ) {p : Nat} (hp : p < n) (w : Int32) : f_R_times F n ρ (nI p) w = some (s_times g p w) := by
  obtain ⟨⟨ln, kp, fx, gn, A, B, C, D, E, G⟩, hN⟩ := h
  have hn := hw.2.1
  have i5 := nn_in (show p < 5 by omega) (show 5 ≤ 100000 by omega)
  obtain ⟨b1, b2, b3, b4, b5, b6⟩ := B p hp
  unfold f_R_times s_times
  rw [q_proc F n ρ p hn hp A.1, Option.bind_some, if_neg (by decide), nn_c (by omega), b5, b6]
  by_cases h1 : w < 0
  · have n0 : w ≠ 0 := fun z => by rw [z] at h1; exact absurd h1 (by decide)
    have n1 : w ≠ 1 := fun z => by rw [z] at h1; exact absurd h1 (by decide)
    rw [if_pos h1, if_neg n0, if_neg n1]; rfl
  · rw [if_neg h1]
    by_cases h3 : w ≤ 1
    · obtain ⟨j, hj, rfl⟩ := nI_of2 (show (1 : Int32).toInt = ((1 : Nat) : Int) by decide) h1 h3
      rw [if_pos h3]
      rcases (show j = 0 ∨ j = 1 by omega) with rfl | rfl
      · rw [if_pos (by decide), if_pos i5, if_pos (by decide)]; rfl
      · rw [if_neg (by decide), if_pos i5, if_neg (by decide), if_pos (by decide)]; rfl
    · have n0 : w ≠ 0 := fun z => by rw [z] at h3; exact h3 (by decide)
      have n1 : w ≠ 1 := fun z => by rw [z] at h3; exact h3 (by decide)
      rw [if_neg h3, if_neg n0, if_neg n1]; rfl
end RG
/-! class and reference, side by side -/
def REL (n k : Nat) (σ ρ : mm_M) : Prop := ∃ g f N, gv n g [] N ∧ rc n [] g f σ ∧ rr n k 0 [] g ρ ∧ gInst g ≤ k
theorem REL.up {n k : Nat} {σ ρ : mm_M} (h : REL n k σ ρ) : REL n (k + 1) σ ρ := by
  obtain ⟨g, f, N, hv, hc, hr, hi⟩ := h
  exact ⟨g, f, N, hv, hc, rr_T hr (by omega), by omega⟩
theorem rr_0 {n T : Nat} {g : sg} {ρ : mm_M} (h : rr n T 0 [] g ρ) : ρ 0 0 0 = nI n := by
  obtain ⟨⟨ln, kp, fx, gn, A, _⟩, _⟩ := h; exact A.1
theorem gv_same {n : Nat} {g g' : sg} {N : List pv_N} (h : gv n g [] N) (h1 : g'.1 = g.1) (h2 : g'.2.2.2 = g.2.2.2) : gv n g' [] N := by
  obtain ⟨hw, hns, hJ, hk⟩ := h
  exact ⟨gw_v hw h1, by rw [h2]; exact hns, gJ_v hJ h1, hk⟩
theorem s_concl_5 (n : Nat) (g : sg) (p : Nat) : (s_concl n g p).1 5 0 0 = g.1 5 0 0 := by
  unfold s_concl
  split
  · rfl
  · split
    · rfl
    · rw [s_follow_1 n _ p _ 5 0 0 (by decide) (by decide) (by decide) (by decide)]
      simp [s_num, sn_st]
theorem s_hear_5 (n : Nat) (g : sg) (m : pv_N) : (s_hear n g m).1 5 0 0 = g.1 5 0 0 := by
  unfold s_hear
  split
  · split
    · rfl
    · split
      · rfl
      · split
        · rfl
        · split
          · rfl
          · rw [s_concl_5]; simp [s_enter]
  · split
    · rw [s_concl_5]
      split <;> simp [s_num, sn_st]
    · split
      · rw [s_follow_1 n _ _ _ 5 0 0 (by decide) (by decide) (by decide) (by decide)]
      · rfl
theorem s_ticks_5 (n : Nat) : ∀ (r : Nat) (g : sg), (s_ticks n r g).1 5 0 0 = g.1 5 0 0 := by
  intro r
  induction r with
  | zero => intro g; rfl
  | succ r ih =>
    intro g
    rw [s_ticks]
    split
    · rfl
    · rw [ih, s_hear_5]
section TIE
variable {F n k : Nat} {σ ρ : mm_M}
theorem t_work (hF : 1000 ≤ F) (hk : k < 512) (h : REL n k σ ρ) (a x : Int32) : ∃ r σ' ρ', f_X_work F n σ a x = some (r, σ') ∧ f_R_work F n ρ a x = some (r, ρ') ∧ REL n (k + 1) σ' ρ' := by
  have hu := h.up
  obtain ⟨g, f, N, hv, hc, hr, hi⟩ := h
  rcases bad_or n hv.1.2.1 a with hb | ⟨p, hp, rfl⟩
  · exact ⟨-1, σ, ρ, kb_work hc.1.1 hb x, qb_work (rr_0 hr) hb x, hu⟩
  · obtain ⟨σ', e1, e2⟩ := k_work F n f p x g σ hv.1 hc hp
    obtain ⟨ρ', e3, e4⟩ := q_work F n k p x g ρ hk hv.1 hr hp
    refine ⟨_, σ', ρ', e1, e3, (s_work g p x).2, f, N, ?_, e2, e4, ?_⟩
    · unfold s_work; split
      · exact hv
      · split
        · exact hv
        · exact gv_same hv rfl rfl
    · unfold s_work; split
      · show gInst g ≤ _; omega
      · split <;> (show gInst g ≤ _; omega)
theorem t_send (hF : 1000 ≤ F) (hk : k < 512) (h : REL n k σ ρ) (a b : Int32) : ∃ r σ' ρ', f_X_send F n σ a b = some (r, σ') ∧ f_R_send F n ρ a b = some (r, ρ') ∧ REL n (k + 1) σ' ρ' := by
  have hu := h.up
  obtain ⟨g, f, N, hv, hc, hr, hi⟩ := h
  rcases badc_or n hv.1.2.1 a b with hb | ⟨p, q, hp, hq, hpq, rfl, rfl⟩
  · exact ⟨-1, σ, ρ, kb_send hv.1.2.1 hc.1.1 hb, qb_send hv.1.2.1 (rr_0 hr) hb, hu⟩
  · obtain ⟨σ', e1, e2⟩ := k_send F n f p q g σ hv.1 hc hp hq hpq
    obtain ⟨ρ', e3, e4⟩ := q_send F n k p q g ρ hF hk hv.1 hr hp hq hpq
    refine ⟨_, σ', ρ', e1, e3, (s_send g p q).2, f, N, ?_, e2, e4, ?_⟩
    · unfold s_send; split
      · exact hv
      · split
        · exact hv
        · split
          · exact hv
          · exact gv_same hv rfl rfl
    · unfold s_send; split
      · show gInst g ≤ _; omega
      · split
        · show gInst g ≤ _; omega
        · split <;> (show gInst g ≤ _; omega)
theorem t_receive (hF : 1000 ≤ F) (hk : k < 512) (h : REL n k σ ρ) (a b : Int32) : ∃ r σ' ρ', f_X_receive F n σ a b = some (r, σ') ∧ f_R_receive F n ρ a b = some (r, ρ') ∧ REL n (k + 1) σ' ρ' := by
  have hu := h.up
  obtain ⟨g, f, N, hv, hc, hr, hi⟩ := h
  rcases badc_or n hv.1.2.1 a b with hb | ⟨p, q, hp, hq, hpq, rfl, rfl⟩
  · exact ⟨-1, σ, ρ, kb_receive hv.1.2.1 hc.1.1 hb, qb_receive hv.1.2.1 (rr_0 hr) hb, hu⟩
  · obtain ⟨σ', e1, e2⟩ := k_receive F n f p q g σ (by omega) hv.1 hc hp hq hpq
    obtain ⟨ρ', e3, e4⟩ := q_receive F n k p q g ρ hF hk hv.1 hr hp hq hpq
    have key : (s_receive g p q).2.1 = g.1 ∧ (s_receive g p q).2.2.2.2 = g.2.2.2 := by
      unfold s_receive
      split
      · exact ⟨rfl, rfl⟩
      · split
        · exact ⟨rfl, rfl⟩
        · split
          · exact ⟨rfl, rfl⟩
          · split
            · exact ⟨rfl, rfl⟩
            · split <;> exact ⟨rfl, rfl⟩
    refine ⟨_, σ', ρ', e1, e3, (s_receive g p q).2, f, N, gv_same hv key.1 key.2, e2, e4, ?_⟩
    unfold gInst; rw [key.1]; show gInst g ≤ _; omega
theorem t_lose (hF : 1000 ≤ F) (hk : k < 512) (h : REL n k σ ρ) (a b : Int32) : ∃ r σ' ρ', f_X_lose F n σ a b = some (r, σ') ∧ f_R_lose F n ρ a b = some (r, ρ') ∧ REL n (k + 1) σ' ρ' := by
  have hu := h.up
  obtain ⟨g, f, N, hv, hc, hr, hi⟩ := h
  rcases badc_or n hv.1.2.1 a b with hb | ⟨p, q, hp, hq, hpq, rfl, rfl⟩
  · exact ⟨-1, σ, ρ, kb_lose hv.1.2.1 hc.1.1 hb, qb_lose hv.1.2.1 (rr_0 hr) hb, hu⟩
  · obtain ⟨σ', e1, e2⟩ := k_lose F n f p q g σ (by omega) hv.1 hc hp hq hpq
    obtain ⟨ρ', e3, e4⟩ := q_lose F n k p q g ρ hF hk hv.1 hr hp hq hpq
    have key : (s_lose g p q).2.1 = g.1 ∧ (s_lose g p q).2.2.2.2 = g.2.2.2 := by
      unfold s_lose
      split <;> exact ⟨rfl, rfl⟩
    refine ⟨_, σ', ρ', e1, e3, (s_lose g p q).2, f, N, gv_same hv key.1 key.2, e2, e4, ?_⟩
    unfold gInst; rw [key.1]; show gInst g ≤ _; omega
theorem t_checkpoint (hF : 1000 ≤ F) (hk : k < 512) (h : REL n k σ ρ) (a : Int32) : ∃ r σ' ρ', f_X_checkpoint F n σ a = some (r, σ') ∧ f_R_checkpoint F n ρ a = some (r, ρ') ∧ REL n (k + 1) σ' ρ' := by
  have hu := h.up
  obtain ⟨g, f, N, hv, hc, hr, hi⟩ := h
  rcases bad_or n hv.1.2.1 a with hb | ⟨p, hp, rfl⟩
  · exact ⟨-1, σ, ρ, kb_checkpoint hc.1.1 hb, qb_checkpoint (rr_0 hr) hb, hu⟩
  · obtain ⟨σ', e1, e2⟩ := k_checkpoint F n f p g N σ (by omega) hv hc hp (by omega)
    obtain ⟨ρ', e3, e4⟩ := q_checkpoint F n k p g N ρ hF (by omega) hv hr hp (by omega)
    have key : ∃ N', gv n (s_checkpoint n g p).2 [] N' ∧ gInst (s_checkpoint n g p).2 ≤ k + 1 := by
      unfold s_checkpoint
      split
      · exact ⟨N, hv, by show gInst g ≤ _; omega⟩
      · split
        · exact ⟨N, hv, by show gInst g ≤ _; omega⟩
        · rename_i _ h2
          obtain ⟨N', hv'⟩ := gv_begin false hv hp (by show g.1 0 p 0 = 0; omega) (by omega)
          exact ⟨N', hv', by rw [s_begin_inst]; omega⟩
    obtain ⟨N', k1, k2⟩ := key
    exact ⟨_, σ', ρ', e1, e3, (s_checkpoint n g p).2, f, N', k1, e2, rr_T e4 (by omega), k2⟩
theorem t_restart (hF : 1000 ≤ F) (hk : k < 512) (h : REL n k σ ρ) (a : Int32) : ∃ r σ' ρ', f_X_restart F n σ a = some (r, σ') ∧ f_R_restart F n ρ a = some (r, ρ') ∧ REL n (k + 1) σ' ρ' := by
  have hu := h.up
  obtain ⟨g, f, N, hv, hc, hr, hi⟩ := h
  rcases bad_or n hv.1.2.1 a with hb | ⟨p, hp, rfl⟩
  · exact ⟨-1, σ, ρ, kb_restart hc.1.1 hb, qb_restart (rr_0 hr) hb, hu⟩
  · obtain ⟨σ', e1, e2⟩ := k_restart F n f p g N σ (by omega) hv hc hp (by omega)
    obtain ⟨ρ', e3, e4⟩ := q_restart F n k p g N ρ hF (by omega) hv hr hp (by omega)
    have key : ∃ N', gv n (s_restart n g p).2 [] N' ∧ gInst (s_restart n g p).2 ≤ k + 1 := by
      unfold s_restart
      split
      · split
        · exact ⟨N, hv, by show gInst g ≤ _; omega⟩
        · rename_i _ h2
          obtain ⟨N', hv'⟩ := gv_begin true hv hp (by show g.1 0 p 0 = 0; omega) (by omega)
          exact ⟨N', hv', by rw [s_begin_inst]; omega⟩
      · exact ⟨N, hv, by show gInst g ≤ _; omega⟩
    obtain ⟨N', k1, k2⟩ := key
    exact ⟨_, σ', ρ', e1, e3, (s_restart n g p).2, f, N', k1, e2, rr_T e4 (by omega), k2⟩
theorem t_crash (hF : 1000 ≤ F) (hk : k < 512) (h : REL n k σ ρ) (a : Int32) : ∃ r σ' ρ', f_X_crash F n σ a = some (r, σ') ∧ f_R_crash F n ρ a = some (r, ρ') ∧ REL n (k + 1) σ' ρ' := by
  have hu := h.up
  obtain ⟨g, f, N, hv, hc, hr, hi⟩ := h
  rcases bad_or n hv.1.2.1 a with hb | ⟨p, hp, rfl⟩
  · exact ⟨-1, σ, ρ, kb_crash hc.1.1 hb, qb_crash (rr_0 hr) hb, hu⟩
  · obtain ⟨σ', e1, e2⟩ := k_crash F n f p g σ hv.1 hc hp
    obtain ⟨ρ', e3, e4⟩ := q_crash F n k p g ρ hv.1 hr hp
    have key : gv n (s_crash g p).2 [] N ∧ gInst (s_crash g p).2 ≤ k + 1 := by
      unfold s_crash
      split
      · exact ⟨hv, by show gInst g ≤ _; omega⟩
      · split
        · exact ⟨hv, by show gInst g ≤ _; omega⟩
        · obtain ⟨hw, hns, hJ, hgk⟩ := hv
          refine ⟨⟨gw_num hw (by omega), hns, gJ_eq hJ ?_ ?_ ?_ ?_ ?_ ?_, hgk⟩, ?_⟩
          · intro a; simp [gI, s_num, sn_st]
          · intro a b; simp [gC, s_num, sn_st]
          · intro a b; simp [gU, s_num, sn_st]
          · intro a; unfold gPa; simp [s_num, sn_st]
          · intro a; simp [gDec, s_num, sn_st]
          · simp [gInst, s_num, sn_st]
          · have : gInst (s_num g 6 p 0 1) = gInst g := by simp [gInst, s_num, sn_st]
            show gInst (s_num g 6 p 0 1) ≤ k + 1
            omega
    exact ⟨_, σ', ρ', e1, e3, (s_crash g p).2, f, N, key.1, e2, rr_T e4 (by omega), key.2⟩
theorem t_tick (hF : 1000 ≤ F) (hk : k < 512) (h : REL n k σ ρ) : ∃ r σ' ρ', f_X_tick F n σ = some (r, σ') ∧ f_R_tick F n ρ = some (r, ρ') ∧ REL n (k + 1) σ' ρ' := by
  obtain ⟨g, f, N, hv, hc, hr, hi⟩ := h
  obtain ⟨σ', f', N', e1, e2, e5⟩ := k_tick F n f g N σ (by omega) hv hc
  obtain ⟨ρ', e3, e4⟩ := r_tick F n k g N ρ hF (by omega) hv hr
  refine ⟨_, σ', ρ', e1, e3, _, f', N', e5, e2, rr_T e4 (by omega), ?_⟩
  unfold gInst; rw [s_ticks_5]; show gInst g ≤ _; omega
end TIE
