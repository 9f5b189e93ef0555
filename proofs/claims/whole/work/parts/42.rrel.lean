/-! what the reference's memory says of the mathematical value -/
def lgs (n : Nat) (ρ : mm_M) (v : Nat → Nat → Nat → Int32) (p j m : Nat) : Prop := v 0 j 0 = l_v (ρ 3 0) (ρ 4 0) (ρ 6 0) p m ∧ ∀ q, q < n → v 1 j q = nI (l_s (ρ 3 0) (ρ 4 0) p q m) ∧ v 2 j q = l_r (ρ 3 0) (ρ 4 0) (ρ 5 0) p q m
def chs (ρ : mm_M) (l : List (Int32 × Int32)) (p q ln gn : Nat) : Prop := ρ 9 0 (5 * p + q) = nI gn ∧ gn ≤ l_s (ρ 3 0) (ρ 4 0) p q ln ∧ l.length = l_s (ρ 3 0) (ρ 4 0) p q ln - gn ∧ l.length ≤ 6 ∧
  ∀ j, j < l.length → ∃ k, k < ln ∧ ρ 3 0 (512 * p + k) = 1 ∧ ρ 4 0 (512 * p + k) = nI q ∧ l_s (ρ 3 0) (ρ 4 0) p q k = gn + j ∧ l[j]? = some (nI (gn + j + 1), l_v (ρ 3 0) (ρ 4 0) (ρ 6 0) p k)
def rrB (n T : Nat) (g : sg) (ln kp fx : Nat → Nat) (gn : Nat → Nat → Nat) (ρ : mm_M) : Prop :=
  (ρ 0 0 0 = nI n ∧ ρ 0 0 16 = nI (gInst g) ∧ ∀ i, i ≤ 512 → ρ 18 0 i = nI (g.1 4 i 0)) ∧
  (∀ p, p < n → ρ 10 0 p = nI (g.1 6 p 0) ∧ ρ 11 0 p = nI (g.1 0 p 0) ∧ ρ 12 0 p = nI (g.1 7 p 0) ∧ ρ 13 0 p = s_pn (g.1 3 p 0) ∧ ρ 26 0 p = nI (g.1 8 p 0) ∧ ρ 27 0 p = nI (g.1 9 p 0)) ∧
  (∀ p, p < n → ρ 14 0 p = nI (bm n (gC g p)) ∧ ρ 15 0 p = nI (bm n (fun q => gC g p q && !gU g p q)) ∧ ∃ r, r < 32 ∧ ρ 16 0 p = nI r ∧ (g.1 0 p 0 ≠ 0 → (r = 0 ↔ g.1 10 p 0 = 1))) ∧
  (∀ p, p < n → ρ 2 0 p = nI (ln p) ∧ ρ 7 0 p = nI (kp p) ∧ ρ 8 0 p = nI (fx p) ∧ ln p ≤ T ∧ kp p ≤ ln p) ∧
  (∀ p, p < n → lgs n ρ g.2.1 p (3 * p) (ln p) ∧ lgs n ρ g.2.1 p (3 * p + 1) (kp p) ∧ (g.1 0 p 0 ≠ 0 → g.1 7 p 0 = 0 → fx p ≤ ln p ∧ lgs n ρ g.2.1 p (3 * p + 2) (fx p))) ∧
  (∀ p q, p < n → q < n → p ≠ q → chs ρ (g.2.2.1 p q) p q (ln p) (gn p q))
def rr (n T off : Nat) (hd : List pv_N) (g : sg) (ρ : mm_M) : Prop := (∃ ln kp fx gn, rrB n T g ln kp fx gn ρ) ∧ rrN off ρ (fun i => g.1 11 i 0) (hd ++ g.2.2.2)
theorem rrB_k {n T : Nat} {g : sg} {ln kp fx : Nat → Nat} {gn : Nat → Nat → Nat} {ρ ρ' : mm_M} (h : rrB n T g ln kp fx gn ρ) (hk : ∀ k, nk k → ρ' k = ρ k) (h0 : ρ' 0 0 0 = ρ 0 0 0) (h16 : ρ' 0 0 16 = ρ 0 0 16) : rrB n T g ln kp fx gn ρ' := by
  have e2 := hk 2 (by decide)
  have e3 := hk 3 (by decide)
  have e4 := hk 4 (by decide)
  have e5 := hk 5 (by decide)
  have e6 := hk 6 (by decide)
  have e7 := hk 7 (by decide)
  have e8 := hk 8 (by decide)
  have e9 := hk 9 (by decide)
  have e10 := hk 10 (by decide)
  have e11 := hk 11 (by decide)
  have e12 := hk 12 (by decide)
  have e13 := hk 13 (by decide)
  have e14 := hk 14 (by decide)
  have e15 := hk 15 (by decide)
  have e16 := hk 16 (by decide)
  have e18 := hk 18 (by decide)
  have e26 := hk 26 (by decide)
  have e27 := hk 27 (by decide)
  unfold rrB lgs chs at *
  rw [h0, h16, e2, e3, e4, e5, e6, e7, e8, e9, e10, e11, e12, e13, e14, e15, e16, e18, e26, e27]
  exact h
theorem rrN_k {off : Nat} {ρ ρ' : mm_M} {kd : Nat → Nat} {ns : List pv_N} (h : rrN off ρ kd ns) (h0 : ρ' 0 0 18 = ρ 0 0 18) (hk : ∀ k, 20 ≤ k → k ≤ 25 → ρ' k = ρ k) : rrN off ρ' kd ns := by
  obtain ⟨z1, z2, z3⟩ := h
  refine ⟨by rw [h0]; exact z1, z2, fun j m hm => ?_⟩
  have := z3 j m hm
  unfold r_nt at this ⊢
  rw [hk 20 (by decide) (by decide), hk 21 (by decide) (by decide), hk 22 (by decide) (by decide), hk 23 (by decide) (by decide), hk 24 (by decide) (by decide), hk 25 (by decide) (by decide)]
  exact this
theorem bm_0 {n : Nat} {c : Nat → Bool} (h : ∀ q, q < n → c q = false) : bm n c = 0 := by
  induction n with
  | zero => rfl
  | succ n ih =>
    rw [bm, ih (fun q hq => h q (by omega)), h n (by omega)]
    rfl
/-- entering: what join does ahead of complete -/
theorem r_enter (F n T p i pa off : Nat) (hd : List pv_N) (g : sg) (ρ : mm_M) (hF : 1000 ≤ F) (hT : T ≤ 512) (hw : gw n g) (h : rr n T off hd g ρ) (hp : p < n)
    (hlen : off + (hd ++ (s_enter n g p i (g.1 11 i 0 == 1) pa).2.2.2).length ≤ 300) :
    ∃ ρ', f_R_join F n ρ (nI p) (nI i) (nI (g.1 11 i 0)) (s_pn pa) = f_R_complete F n ρ' (nI p) ∧ rr n T off hd (s_enter n g p i (g.1 11 i 0 == 1) pa) ρ' := by
  obtain ⟨⟨ln, kp, fx, gn, ⟨A1, A2, A3⟩, B, C, D, E, G⟩, hN⟩ := h
  obtain ⟨w1, w2, w3, w4, w5, w6, w7, w8, w9, w10⟩ := hw
  have hrb : nI (g.1 11 i 0) = nI (g.1 11 i 0 == 1).toNat := by
    have := (w5 i).1
    rcases (show g.1 11 i 0 = 0 ∨ g.1 11 i 0 = 1 by omega) with e | e <;> rw [e] <;> rfl
  have hkd : g.1 11 i 0 = (g.1 11 i 0 == 1).toNat := by
    have := (w5 i).1
    rcases (show g.1 11 i 0 = 0 ∨ g.1 11 i 0 = 1 by omega) with e | e <;> rw [e] <;> rfl
  rw [hrb]
  generalize hrbe : (g.1 11 i 0 == 1) = rb at *
  have hz : mm_z (nI rb.toNat) := by cases rb <;> first | exact Or.inl rfl | exact Or.inr rfl
  obtain ⟨D1, D2, D3, D4, D5⟩ := D p hp
  unfold f_R_join
  rw [if_pos (nn_in (show p < 5 by omega) (by omega)), if_pos hz, nn_c (by omega), D1]
  generalize hτ : mm_st (mm_st (mm_st (mm_st (mm_st (mm_st (mm_st ρ 11 0 p (nI i)) 12 0 p (nI rb.toNat)) 13 0 p (s_pn pa)) 14 0 p 0) 15 0 p 0) 16 0 p 0) 8 0 p (nI (ln p)) = τ
  have tk : ∀ k, k ≠ 8 → k ≠ 11 → k ≠ 12 → k ≠ 13 → k ≠ 14 → k ≠ 15 → k ≠ 16 → τ k = ρ k := fun k h8 h11 h12 h13 h14 h15 h16 => by
    rw [← hτ, mm_sn _ _ _ _ h8, mm_sn _ _ _ _ h16, mm_sn _ _ _ _ h15, mm_sn _ _ _ _ h14, mm_sn _ _ _ _ h13, mm_sn _ _ _ _ h12, mm_sn _ _ _ _ h11]
  have t2 : τ 2 = ρ 2 := tk 2 (by decide) (by decide) (by decide) (by decide) (by decide) (by decide) (by decide)
  have t3 : τ 3 = ρ 3 := tk 3 (by decide) (by decide) (by decide) (by decide) (by decide) (by decide) (by decide)
  have t4 : τ 4 = ρ 4 := tk 4 (by decide) (by decide) (by decide) (by decide) (by decide) (by decide) (by decide)
  have t5 : τ 5 = ρ 5 := tk 5 (by decide) (by decide) (by decide) (by decide) (by decide) (by decide) (by decide)
  have t6 : τ 6 = ρ 6 := tk 6 (by decide) (by decide) (by decide) (by decide) (by decide) (by decide) (by decide)
  have t7 : τ 7 = ρ 7 := tk 7 (by decide) (by decide) (by decide) (by decide) (by decide) (by decide) (by decide)
  have t9 : τ 9 = ρ 9 := tk 9 (by decide) (by decide) (by decide) (by decide) (by decide) (by decide) (by decide)
  have t10 : τ 10 = ρ 10 := tk 10 (by decide) (by decide) (by decide) (by decide) (by decide) (by decide) (by decide)
  have t18 : τ 18 = ρ 18 := tk 18 (by decide) (by decide) (by decide) (by decide) (by decide) (by decide) (by decide)
  have t26 : τ 26 = ρ 26 := tk 26 (by decide) (by decide) (by decide) (by decide) (by decide) (by decide) (by decide)
  have t27 : τ 27 = ρ 27 := tk 27 (by decide) (by decide) (by decide) (by decide) (by decide) (by decide) (by decide)
  have t0 : τ 0 = ρ 0 := tk 0 (by decide) (by decide) (by decide) (by decide) (by decide) (by decide) (by decide)
  obtain ⟨E1, E2, E3⟩ := E p hp
  have hasks : ∀ q, q < n → s_asks g p rb q = (decide (q ≠ p) && (rb || decide (l_r (τ 3 0) (τ 4 0) (τ 5 0) p q (kp p) < l_r (τ 3 0) (τ 4 0) (τ 5 0) p q (ln p)))) := by
    intro q hq
    unfold s_asks
    rw [(E1.2 q hq).2, (E2.2 q hq).2, t3, t4, t5]
  have hxx : ∀ q, q < n → (if rb then g.2.1 1 (3 * p + 1) q else g.2.1 2 (3 * p) q) = (if rb then nI (l_s (τ 3 0) (τ 4 0) p q (kp p)) else l_r (τ 3 0) (τ 4 0) (τ 5 0) p q (ln p)) := by
    intro q hq
    rw [(E1.2 q hq).2, (E2.2 q hq).1, t3, t4, t5]
  have hsend : pv_sends n 0 i p (s_asks g p rb) (fun q => if rb then g.2.1 1 (3 * p + 1) q else g.2.1 2 (3 * p) q) = pv_sends n 0 i p (fun q => decide (q ≠ p) && (rb || decide (l_r (τ 3 0) (τ 4 0) (τ 5 0) p q (kp p) < l_r (τ 3 0) (τ 4 0) (τ 5 0) p q (ln p)))) (fun q => if rb then nI (l_s (τ 3 0) (τ 4 0) p q (kp p)) else l_r (τ 3 0) (τ 4 0) (τ 5 0) p q (ln p)) := by
    unfold pv_sends
    rw [List.filter_congr (fun q hq => hasks q (List.mem_range.mp hq))]
    apply List.map_congr_left
    intro q hq
    exact congrArg (fun z : Int32 => ((0, i, p, q, z) : pv_N)) (hxx q (List.mem_range.mp (List.mem_filter.mp hq).1))
  have ens : hd ++ (s_enter n g p i rb pa).2.2.2 = hd ++ g.2.2.2 ++ pv_sends n 0 i p (s_asks g p rb) (fun q => if rb then g.2.1 1 (3 * p + 1) q else g.2.1 2 (3 * p) q) := by
    rw [List.append_assoc]; rfl
  rw [ens, hsend] at hlen
  obtain ⟨ρ', d1, d2, d3, d4, d5, d6⟩ := r_join_l F n p i off (ln p) (kp p) rb hF w2 hp (hd ++ g.2.2.2) τ (fun i => g.1 11 i 0) (by omega) (by omega) (by rw [t0]; exact A1) (by rw [t2]; exact D1) (by rw [t7]; exact D2)
    (by rw [← hτ]; simp [mm_st]) (by rw [← hτ]; simp [mm_st]) hkd _ rfl _ rfl hlen n 0 F τ (by omega) (by omega) (fun _ _ _ => rfl) rfl rfl (fun a q => by
      by_cases haq : a = 0 ∧ q = p
      · obtain ⟨rfl, rfl⟩ := haq
        rw [← hτ]
        simp [mm_st, bm]
        rfl
      · rw [if_neg haq]) (by
      have : ∀ c x, pv_sends 0 0 i p c x = [] := fun _ _ => rfl
      rw [this, List.append_nil]
      refine rrN_k hN (by rw [t0]) (fun k z1 z2 => tk k (by omega) (by omega) (by omega) (by omega) (by omega) (by omega) (by omega)))
  have d1 : f_R_join_l58 F n (nI p) (nI rb.toNat) F τ (0 : Int32) = some ρ' := d1
  rw [d1, Option.bind_some]
  refine ⟨ρ', ?_, ⟨ln, kp, pv_up fx p (ln p), gn, ⟨?_, ?_, fun j hj => ?_⟩, fun a ha => ?_, fun a ha => ?_, fun a ha => ?_, fun a ha => ?_, fun a b ha hb hab => ?_⟩, ?_⟩
  · cases f_R_complete F n ρ' (nI p) <;> rfl
  · rw [d3, t0]; exact A1
  · rw [d4, t0, A2]; simp [gInst, s_enter]
  · rw [d2 18 (by decide) (by decide), t18, A3 j hj]; simp [s_enter]
  · obtain ⟨b1, b2, b3, b4, b5, b6⟩ := B a ha
    rw [d2 10 (by decide) (by decide), d2 11 (by decide) (by decide), d2 12 (by decide) (by decide), d2 13 (by decide) (by decide), d2 26 (by decide) (by decide), d2 27 (by decide) (by decide), t10, t26, t27]
    by_cases hap : a = p
    · subst hap
      rw [← hτ]
      simp [mm_st, s_enter, b1, b5, b6]
    · rw [← hτ]
      simp [mm_st, s_enter, hap, b1, b2, b3, b4, b5, b6]
  · obtain ⟨c1, c2, r, c3, c4, c5⟩ := C a ha
    rw [d5 0 a, d2 15 (by decide) (by decide), d2 16 (by decide) (by decide)]
    by_cases hap : a = p
    · subst hap
      have e1 : bm n (gC (s_enter n g a i rb pa) a) = bm n (fun q => decide (q ≠ a) && (rb || decide (l_r (τ 3 0) (τ 4 0) (τ 5 0) a q (kp a) < l_r (τ 3 0) (τ 4 0) (τ 5 0) a q (ln a)))) := by
        apply bm_c
        intro q hq
        rw [← hasks q hq]
        simp only [gC, s_enter]
        simp [hq]
        cases s_asks g a rb q <;> rfl
      have e2 : bm n (fun q => gC (s_enter n g a i rb pa) a q && !gU (s_enter n g a i rb pa) a q) = 0 := by
        apply bm_0
        intro q hq
        simp only [gC, gU, s_enter]
        simp
      rw [e1, e2, ← hτ]
      refine ⟨by simp, by simp [mm_st]; rfl, 0, by omega, by simp [mm_st]; rfl, fun _ => ?_⟩
      simp [s_enter]
    · have e1 : gC (s_enter n g p i rb pa) a = gC g a := by funext q; simp [gC, s_enter, hap]
      have e2 : gU (s_enter n g p i rb pa) a = gU g a := by funext q; simp [gU, s_enter, hap]
      rw [e1, e2, ← hτ]
      simp only [hap, and_false, if_false]
      simp only [mm_st]
      simp [hap]
      refine ⟨c1, c2, r, c3, c4, ?_⟩
      simpa [s_enter, hap] using c5
  · obtain ⟨z1, z2, z3, z4, z5⟩ := D a ha
    rw [d2 2 (by decide) (by decide), d2 7 (by decide) (by decide), d2 8 (by decide) (by decide), t2, t7]
    refine ⟨z1, z2, ?_, z4, z5⟩
    by_cases hap : a = p
    · subst hap
      rw [pv_up_s, ← hτ]
      simp [mm_st]
    · rw [pv_up_n _ _ hap, ← hτ]
      simp [mm_st, hap, z3]
  · obtain ⟨z1, z2, z3⟩ := E a ha
    unfold lgs at z1 z2 z3 ⊢
    rw [d2 3 (by decide) (by decide), d2 4 (by decide) (by decide), d2 5 (by decide) (by decide), d2 6 (by decide) (by decide), t3, t4, t5, t6]
    have v0 : ∀ k j b, j ≠ 3 * p + 2 → (s_enter n g p i rb pa).2.1 k j b = g.2.1 k j b := by
      intro k j b hj
      cases rb with
      | true => rfl
      | false => simp [s_enter, s_copy, hj]
    refine ⟨?_, ?_, fun hI hb => ?_⟩
    · rw [v0 0 _ 0 (by omega)]
      refine ⟨z1.1, fun q hq => ?_⟩
      rw [v0 1 _ q (by omega), v0 2 _ q (by omega)]
      exact z1.2 q hq
    · rw [v0 0 _ 0 (by omega)]
      refine ⟨z2.1, fun q hq => ?_⟩
      rw [v0 1 _ q (by omega), v0 2 _ q (by omega)]
      exact z2.2 q hq
    · by_cases hap : a = p
      · subst hap
        rw [pv_up_s]
        have hbf : rb = false := by
          cases rb with
          | false => rfl
          | true => simp [s_enter] at hb
        subst hbf
        refine ⟨Nat.le_refl _, ?_⟩
        have v1 : ∀ k b, (s_enter n g a i false pa).2.1 k (3 * a + 2) b = g.2.1 k (3 * a) b := by
          intro k b
          simp [s_enter, s_copy]
        rw [v1]
        refine ⟨z1.1, fun q hq => ?_⟩
        rw [v1, v1]
        exact z1.2 q hq
      · rw [pv_up_n _ _ hap]
        have := z3 (by simpa [s_enter, hap] using hI) (by simpa [s_enter, hap] using hb)
        refine ⟨this.1, ?_⟩
        rw [v0 0 _ 0 (by omega)]
        refine ⟨this.2.1, fun q hq => ?_⟩
        rw [v0 1 _ q (by omega), v0 2 _ q (by omega)]
        exact this.2.2 q hq
  · have := G a b ha hb hab
    unfold chs at this ⊢
    rw [d2 3 (by decide) (by decide), d2 4 (by decide) (by decide), d2 6 (by decide) (by decide), d2 9 (by decide) (by decide), t3, t4, t6, t9]
    exact this
  · rw [ens, hsend]
    have e : (fun i_1 => (s_enter n g p i rb pa).1 11 i_1 0) = fun i => g.1 11 i 0 := by funext j; simp [s_enter]
    rw [e]
    exact d6
