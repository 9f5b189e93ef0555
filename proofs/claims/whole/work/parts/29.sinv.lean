/-! the mathematical value keeps the protocol's invariant -/
def gk (l : List pv_N) : Prop := ∀ m ∈ l, (m.1 = 1 → m.2.2.2.2 = 0 ∨ m.2.2.2.2 = 1) ∧ (m.1 = 2 → m.2.2.2.2 = 1 ∨ m.2.2.2.2 = 2)
def gv (n : Nat) (g : sg) (D N : List pv_N) : Prop := gw n g ∧ g.2.2.2 = D ++ N ∧ gJ n n g D N ∧ gk (D ++ N)
theorem gJ_eq {n w : Nat} {g' : sg} {D N : List pv_N} {I : Nat → Nat} {C U : Nat → Nat → Bool} {Pa : Nat → Option Nat} {dec : Nat → Bool} {inst : Nat}
    (h : pv_J n I C U Pa dec inst w D N) (h1 : ∀ p, gI g' p = I p) (h2 : ∀ p q, gC g' p q = C p q) (h3 : ∀ p q, gU g' p q = U p q) (h4 : ∀ p, gPa g' p = Pa p) (h5 : ∀ i, gDec g' i = dec i) (h6 : gInst g' = inst) : gJ n w g' D N := by
  have e1 : gI g' = I := funext h1
  have e2 : gC g' = C := funext fun p => funext (h2 p)
  have e3 : gU g' = U := funext fun p => funext (h3 p)
  have e4 : gPa g' = Pa := funext h4
  have e5 : gDec g' = dec := funext h5
  unfold gJ
  rw [e1, e2, e3, e4, e5, h6]
  exact h
theorem gJ_v {n w : Nat} {g g' : sg} {D N : List pv_N} (h : gJ n w g D N) (e : g'.1 = g.1) : gJ n w g' D N := by
  refine gJ_eq h ?_ ?_ ?_ ?_ ?_ ?_ <;> simp [gI, gC, gU, gPa, gDec, gInst, e]
theorem pv_sends_cut (n k i p : Nat) (c : Nat → Bool) (x : Nat → Int32) : pv_sends n k i p (fun r => decide (r < n) && c r) x = pv_sends n k i p c x := by
  unfold pv_sends
  congr 1
  apply List.filter_congr
  intro r hr
  simp [List.mem_range.mp hr]
theorem gJ_enter {n p i pa w : Nat} {rb : Bool} {g : sg} {D N : List pv_N}
    (h : pv_J n (pv_up (gI g) p i) (pv_up (gC g) p (fun r => decide (r < n) && s_asks g p rb r)) (pv_up (gU g) p (fun r => decide (r < n) && s_asks g p rb r)) (pv_up (gPa g) p (match pa with | 0 => none | r + 1 => some r)) (gDec g) (gInst g) w D N) :
    gJ n w (s_enter n g p i rb pa) D N := by
  refine gJ_eq h (fun a => ?_) (fun a q => ?_) (fun a q => ?_) (fun a => ?_) (fun j => ?_) ?_
  · by_cases hap : a = p
    · subst hap; simp [gI, s_enter, pv_up]
    · simp [gI, s_enter, pv_up, hap]
  · by_cases hap : a = p
    · subst hap
      rw [pv_up_s]
      simp only [gC, s_enter]
      simp
      cases (decide (q < n) && s_asks g a rb q) <;> rfl
    · rw [pv_up_n _ _ hap]
      simp [gC, s_enter, hap]
  · by_cases hap : a = p
    · subst hap
      rw [pv_up_s]
      simp only [gU, s_enter]
      simp
      cases (decide (q < n) && s_asks g a rb q) <;> rfl
    · rw [pv_up_n _ _ hap]
      simp [gU, s_enter, hap]
  · by_cases hap : a = p
    · subst hap
      rw [pv_up_s]
      unfold gPa
      simp [s_enter]
      cases pa <;> rfl
    · rw [pv_up_n _ _ hap]
      unfold gPa
      simp [s_enter, hap]
  · simp [gDec, s_enter]
  · simp [gInst, s_enter]
theorem s_follow_1 (n : Nat) (g : sg) (p : Nat) (o : Int32) : ∀ k a b, k ≠ 0 → k ≠ 6 → k ≠ 8 → k ≠ 9 → (s_follow n g p o).1 k a b = g.1 k a b := by
  intro k a b h0 h6 h8 h9
  simp only [s_follow]
  split
  · split
    · simp [s_roll, s_num, s_notes, sn_st, h0, h6, h9]
    · simp [s_perm, s_copy, s_num, s_notes, sn_st, h0, h8]
  · simp [s_num, s_notes, sn_st, h0]
theorem s_follow_0 (n : Nat) (g : sg) (p : Nat) (o : Int32) (a : Nat) : (s_follow n g p o).1 0 a 0 = if a = p then 0 else g.1 0 a 0 := by
  simp only [s_follow]
  split
  · split
    · simp [s_roll, s_num, s_notes, sn_st]
    · simp [s_perm, s_copy, s_num, s_notes, sn_st]
  · simp [s_num, s_notes, sn_st]
theorem gJ_follow {n p w : Nat} {o : Int32} {g : sg} {D N : List pv_N}
    (h : pv_J n (pv_up (gI g) p 0) (gC g) (gU g) (gPa g) (gDec g) (gInst g) w D N) : gJ n w (s_follow n g p o) D N := by
  refine gJ_eq h (fun a => ?_) (fun a q => ?_) (fun a q => ?_) (fun a => ?_) (fun j => ?_) ?_
  · unfold gI; rw [s_follow_0]; rfl
  · unfold gC; rw [s_follow_1 n g p o 1 a q (by decide) (by decide) (by decide) (by decide)]
  · unfold gU; rw [s_follow_1 n g p o 2 a q (by decide) (by decide) (by decide) (by decide)]
  · unfold gPa; rw [s_follow_1 n g p o 3 a 0 (by decide) (by decide) (by decide) (by decide)]
  · unfold gDec; rw [s_follow_1 n g p o 4 j 0 (by decide) (by decide) (by decide) (by decide)]
  · unfold gInst; rw [s_follow_1 n g p o 5 0 0 (by decide) (by decide) (by decide) (by decide)]
theorem gk_app {a b : List pv_N} (ha : gk a) (hb : gk b) : gk (a ++ b) := fun m hm => (List.mem_append.mp hm).elim (ha m) (hb m)
theorem gk_sends {n k i p : Nat} {c : Nat → Bool} {x : Nat → Int32} (h : k = 0 ∨ (k = 2 ∧ ∀ q, x q = 1 ∨ x q = 2)) : gk (pv_sends n k i p c x) := by
  intro m hm
  obtain ⟨q, -, -, rfl⟩ := pv_sends_mem.mp hm
  rcases h with rfl | ⟨rfl, h⟩
  · exact ⟨fun z => (by cases z), fun z => (by cases z)⟩
  · exact ⟨fun z => (by cases z), fun _ => h q⟩
theorem gk_one {m : pv_N} (h : m.1 = 1) (hx : m.2.2.2.2 = 0 ∨ m.2.2.2.2 = 1) : gk [m] := by
  intro m' hm
  rw [List.mem_singleton.mp hm]
  exact ⟨fun _ => hx, fun z => by rw [h] at z; cases z⟩
/-- what follows when a process has concluded -/
theorem gv_concl {n p : Nat} {g : sg} {D N : List pv_N} (hw : gw n g) (hns : g.2.2.2 = D ++ N) (hJ : gJ n p g D N) (hk : gk (D ++ N)) (hp : p < n) (hI : gI g p ≠ 0) : ∃ N', gv n (s_concl n g p) D N' := by
  have hwc := gw_concl hw p
  have hC : gC g p p = false := by have := hw.2.2.2.2.2.2.1 p; simp [gC, this]
  have hyes := (hw.2.2.2.1 p).2.2
  unfold gv
  unfold s_concl at hwc ⊢
  cases ho : pv_op n (gU g) p with
  | true => exact ⟨N, hw, hns, pv_concl_open hp hJ ho, hk⟩
  | false =>
    rw [ho] at hwc
    rcases hpa : g.1 3 p 0 with _ | r
    · rw [hpa] at hwc
      have hPn : gPa g p = none := by unfold gPa; rw [hpa]
      refine ⟨N ++ pv_sends n 2 (gI g p) p (gC g p) (fun _ => if g.1 10 p 0 = 1 then (1 : Int32) else 2), hwc, ?_, ?_, ?_⟩
      · show (s_follow n _ p _).2.2.2 = _
        rw [s_follow_ns, ← List.append_assoc, ← hns]
        have e1 : gI (s_num g 4 (gI g p) 0 (if g.1 10 p 0 = 1 then 1 else 2)) p = gI g p := by simp [gI, s_num, sn_st]
        have e2 : gC (s_num g 4 (gI g p) 0 (if g.1 10 p 0 = 1 then 1 else 2)) p = gC g p := by funext q; simp [gC, s_num, sn_st]
        rw [e1, e2]
        rfl
      · have h1 := pv_root (x := fun _ => if g.1 10 p 0 = 1 then (1 : Int32) else 2) hp hJ ho hI hPn hC
        refine gJ_follow ?_
        have e1 : gI (s_num g 4 (gI g p) 0 (if g.1 10 p 0 = 1 then 1 else 2)) = gI g := by funext a; simp [gI, s_num, sn_st]
        have e2 : gC (s_num g 4 (gI g p) 0 (if g.1 10 p 0 = 1 then 1 else 2)) = gC g := by funext a q; simp [gC, s_num, sn_st]
        have e3 : gU (s_num g 4 (gI g p) 0 (if g.1 10 p 0 = 1 then 1 else 2)) = gU g := by funext a q; simp [gU, s_num, sn_st]
        have e4 : gPa (s_num g 4 (gI g p) 0 (if g.1 10 p 0 = 1 then 1 else 2)) = gPa g := by funext a; unfold gPa; simp [s_num, sn_st]
        have e5 : gDec (s_num g 4 (gI g p) 0 (if g.1 10 p 0 = 1 then 1 else 2)) = pv_up (gDec g) (gI g p) true := by
          funext j
          by_cases hj : j = gI g p
          · subst hj
            rw [pv_up_s]
            by_cases hy : g.1 10 p 0 = 1 <;> simp [gDec, s_num, sn_st, hy]
          · rw [pv_up_n _ _ hj]
            have : ¬ j = g.1 0 p 0 := hj
            simp [gDec, s_num, sn_st, gI, this]
        have e6 : gInst (s_num g 4 (gI g p) 0 (if g.1 10 p 0 = 1 then 1 else 2)) = gInst g := by simp [gInst, s_num, sn_st]
        rw [e1, e2, e3, e4, e5, e6]
        exact h1
      · rw [← List.append_assoc]
        refine gk_app hk (gk_sends (Or.inr ⟨rfl, fun q => ?_⟩))
        show (if g.1 10 p 0 = 1 then (1 : Int32) else 2) = 1 ∨ (if g.1 10 p 0 = 1 then (1 : Int32) else 2) = 2
        split
        · exact Or.inl rfl
        · exact Or.inr rfl
    · rw [hpa] at hwc
      have hPs : gPa g p = some r := by unfold gPa; rw [hpa]
      obtain ⟨h1, h2, h3, h4⟩ := pv_concl_up (y := nI (g.1 10 p 0)) hp hJ ho hI hPs
      refine ⟨N ++ [(1, gI g p, p, r, nI (g.1 10 p 0))], hwc, ?_, h4, ?_⟩
      · show g.2.2.2 ++ _ = _
        rw [hns, List.append_assoc]
      · rw [← List.append_assoc]
        refine gk_app hk (gk_one rfl ?_)
        show nI (g.1 10 p 0) = 0 ∨ nI (g.1 10 p 0) = 1
        rcases (show g.1 10 p 0 = 0 ∨ g.1 10 p 0 = 1 by omega) with e | e <;> rw [e]
        · exact Or.inl rfl
        · exact Or.inr rfl
theorem gv_note {n : Nat} {g : sg} {D N N' : List pv_N} {m : pv_N} (hw : gw n g) (hns : g.2.2.2 = D ++ N) (hN : N' = N ++ [m]) (hJ : gJ n n g D N') (hk : gk (D ++ N)) (hm : gk [m]) : gv n (s_note g m) D N' := by
  subst hN
  refine ⟨gw_note hw _, ?_, gJ_v hJ rfl, ?_⟩
  · show g.2.2.2 ++ [m] = _
    rw [hns, List.append_assoc]
  · rw [← List.append_assoc]; exact gk_app hk hm
/-- one note is heard -/
theorem gv_hear {n : Nat} {g : sg} {m : pv_N} {D N : List pv_N} (hw : gw n g) (hns : g.2.2.2 = D ++ N) (hJ : gJ n n g (m :: D) N) (hk : gk ((m :: D) ++ N)) : ∃ N', gv n (s_hear n g m) D N' := by
  have hm : m ∈ (m :: D) ++ N := by simp
  have hk' : gk (D ++ N) := fun m' h' => hk m' (by rw [List.cons_append]; exact List.mem_cons_of_mem _ h')
  have hkm := hk m hm
  obtain ⟨q1, q2, q3, q4, q5, q6⟩ := hJ.1 m hm
  obtain ⟨k, i, a, b, x⟩ := m
  have q2 : a < n := q2
  have q3 : b < n := q3
  have q5 : 1 ≤ i := q5
  have q1 : k ≤ 2 := q1
  rcases (show k = 0 ∨ k = 1 ∨ k = 2 by omega) with rfl | rfl | rfl
  · have hr : ∀ y : Int32, y = 0 ∨ y = 1 → gv n (s_note g (1, i, b, a, y)) D (N ++ [(1, i, b, a, y)]) := fun y hy => gv_note hw hns rfl ((pv_reply (y := y) hJ).2.2.2.2.2) hk' (gk_one rfl hy)
    unfold s_hear
    rw [if_pos rfl]
    simp only []
    by_cases h1 : gI g b = i
    · rw [if_pos h1]; exact ⟨_, hr 1 (Or.inr rfl)⟩
    · rw [if_neg h1]
      by_cases h2 : gI g b ≠ 0
      · rw [if_pos h2]; exact ⟨_, hr 0 (Or.inl rfl)⟩
      · rw [if_neg h2]
        by_cases h3 : g.1 6 b 0 = 1
        · rw [if_pos h3]
          refine ⟨_, hr _ ?_⟩
          split
          · exact Or.inr rfl
          · exact Or.inl rfl
        · rw [if_neg h3]
          by_cases h4 : s_concerned g b a (g.1 11 i 0 == 1) x = false
          · rw [if_pos h4]; exact ⟨_, hr 1 (Or.inr rfl)⟩
          · rw [if_neg h4]
            have hI0 : gI g b = 0 := by omega
            have hi512 : i ≤ 512 := Nat.le_trans q6 hw.2.2.1
            have hj := pv_join (xs := fun q => if (g.1 11 i 0 == 1) then g.2.1 1 (3 * b + 1) q else g.2.1 2 (3 * b) q) (cq := fun r => decide (r < n) && s_asks g b (g.1 11 i 0 == 1) r) hJ hI0 (by simp [s_asks])
            rw [pv_sends_cut] at hj
            refine gv_concl (gw_enter hw hi512 (by omega)) ?_ (gJ_enter (pa := a + 1) hj) ?_ q3 ?_
            · show g.2.2.2 ++ _ = _
              rw [hns, List.append_assoc]
            · rw [← List.append_assoc]; exact gk_app hk' (gk_sends (Or.inl rfl))
            · simp [gI, s_enter]; omega
  · obtain ⟨h1, h2, h3, h4, h5⟩ := pv_ans hJ
    unfold s_hear
    rw [if_neg (by simp), if_pos rfl]
    simp only []
    have hJ2 : ∀ g' : sg, (∀ k a' b', k ≠ 10 → g'.1 k a' b' = (s_num g 2 b a 0).1 k a' b') → gJ n b g' D N := by
      intro g' hg'
      refine gJ_eq h5 (fun p => ?_) (fun p q => ?_) (fun p q => ?_) (fun p => ?_) (fun j => ?_) ?_
      · unfold gI; rw [hg' 0 _ _ (by decide)]; simp [s_num, sn_st]
      · unfold gC; rw [hg' 1 _ _ (by decide)]; simp [s_num, sn_st]
      · unfold gU; rw [hg' 2 _ _ (by decide)]
        by_cases hpb : p = b
        · subst hpb
          rw [pv_up_s]
          by_cases hqa : q = a
          · subst hqa; rw [pv_up_s]; simp [s_num, sn_st]
          · rw [pv_up_n _ _ hqa]; simp [s_num, sn_st, hqa]
        · rw [pv_up_n _ _ hpb]; simp [s_num, sn_st, hpb]
      · unfold gPa; rw [hg' 3 _ _ (by decide)]; simp [s_num, sn_st]
      · unfold gDec; rw [hg' 4 _ _ (by decide)]; simp [s_num, sn_st]
      · unfold gInst; rw [hg' 5 _ _ (by decide)]; simp [s_num, sn_st]
    have hIb : gI g b ≠ 0 := by omega
    by_cases hx : x = 0
    · rw [if_pos hx]
      refine gv_concl (gw_num (gw_num hw (by omega)) (by omega)) hns (hJ2 _ (fun k a' b' hk => by simp [s_num, sn_st, hk])) hk' h3 ?_
      simpa [gI, s_num, sn_st] using hIb
    · rw [if_neg hx]
      refine gv_concl (gw_num hw (by omega)) hns (hJ2 _ (fun k a' b' hk => rfl)) hk' h3 ?_
      simpa [gI, s_num, sn_st] using hIb
  · obtain ⟨h1, h2, h3⟩ := pv_pop2 hJ
    unfold s_hear
    rw [if_neg (by simp), if_neg (by simp)]
    simp only []
    by_cases hI : gI g b = i
    · rw [if_pos hI]
      have hC : gC g b b = false := by have := hw.2.2.2.2.2.2.1 b; simp [gC, this]
      obtain ⟨ho, h4⟩ := pv_dec (x := fun _ => x) q3 h3 (show gI g b ≠ 0 by rw [hI]; omega) (by rw [hI]; exact h1) hC
      refine ⟨_, gw_follow hw _ _, ?_, gJ_follow h4, ?_⟩
      · rw [s_follow_ns, hns, List.append_assoc]
      · rw [← List.append_assoc]
        exact gk_app hk' (gk_sends (Or.inr ⟨rfl, fun q => hkm.2 rfl⟩))
    · rw [if_neg hI]
      exact ⟨N, hw, hns, h3, hk'⟩
