/-! what the class's memory says of the mathematical value -/
def s_pn : Nat → Int32
  | 0 => -1
  | r + 1 => nI r
def s_aw (n : Nat) (a : Nat → Nat → Nat → Nat) (p : Nat) : Nat := (List.range n).countP (fun q => a 2 p q == 1)
def rcA (n : Nat) (s0 s4 s5 s6 s10 : Nat → Nat → Int32) (a : Nat → Nat → Nat → Nat) : Prop :=
  s0 0 0 = nI n ∧ s0 0 6 = nI (a 5 0 0) ∧ (∀ i, i ≤ 512 → s4 0 i = nI (a 11 i 0) ∧ s5 0 i = nI (a 4 i 0)) ∧
  (∀ p, p < n → s6 p 3 = nI (a 6 p 0) ∧ s6 p 4 = nI (a 8 p 0) ∧ s6 p 5 = nI (a 9 p 0) ∧ s6 p 6 = nI (a 0 p 0) ∧ s6 p 7 = nI (a 7 p 0) ∧ s6 p 8 = s_pn (a 3 p 0) ∧ s6 p 10 = nI (s_aw n a p) ∧ s6 p 11 = nI (a 10 p 0)) ∧
  (∀ p q, p < n → q < n → s10 p q = nI (a 1 p q))
def rcV (n : Nat) (s7 s8 s9 : Nat → Nat → Int32) (v : Nat → Nat → Nat → Int32) : Prop := (∀ j, j < 3 * n → s7 j 0 = v 0 j 0) ∧ ∀ j q, j < 3 * n → q < n → s8 j q = v 1 j q ∧ s9 j q = v 2 j q
def rcH (n : Nat) (s11 s12 s13 : Nat → Nat → Int32) (ch : Nat → Nat → List (Int32 × Int32)) : Prop := ∀ p q, p < n → q < n → k_ch s11 s12 s13 (p * n + q) (ch p q)
def rc (n : Nat) (hd : List pv_N) (g : sg) (f : Nat) (σ : mm_M) : Prop := rcA n (σ 0) (σ 4) (σ 5) (σ 6) (σ 10) g.1 ∧ rcV n (σ 7) (σ 8) (σ 9) g.2.1 ∧ rcH n (σ 11) (σ 12) (σ 13) g.2.2.1 ∧ k_ln n (σ 3) (σ 15) f (hd ++ g.2.2.2)
/-- what a value must be for the programs' ints to say it -/
def gw (n : Nat) (g : sg) : Prop := 2 ≤ n ∧ n ≤ 5 ∧ gInst g ≤ 512 ∧ (∀ p, g.1 6 p 0 ≤ 1 ∧ g.1 7 p 0 ≤ 1 ∧ g.1 10 p 0 ≤ 1) ∧ (∀ i, g.1 11 i 0 ≤ 1 ∧ g.1 4 i 0 ≤ 2) ∧ (∀ p q, g.1 1 p q ≤ 1 ∧ g.1 2 p q ≤ 1) ∧ (∀ p, g.1 1 p p = 0) ∧
  (∀ p, p < n → gI g p ≠ 0 → g.1 7 p 0 = g.1 11 (gI g p) 0) ∧ (∀ p, p < n → g.1 3 p 0 ≤ n) ∧ (∀ p, p < n → gI g p ≤ 512)
theorem k_cp_n (n : Nat) (σ : mm_M) (d c : Nat) {k : Nat} (h7 : k ≠ 7) (h8 : k ≠ 8) (h9 : k ≠ 9) : k_cp n σ d c k = σ k := by
  funext i j
  simp [k_cp, h7, h8, h9]
theorem rcV_cp {n : Nat} {σ : mm_M} {v : Nat → Nat → Nat → Int32} {d c : Nat} (h : rcV n (σ 7) (σ 8) (σ 9) v) (hc : c < 3 * n) : rcV n (k_cp n σ d c 7) (k_cp n σ d c 8) (k_cp n σ d c 9) (fun k a b => if a = d then v k c b else v k a b) := by
  obtain ⟨h1, h2⟩ := h
  refine ⟨fun j hj => ?_, fun j q hj hq => ?_⟩
  · by_cases hjd : j = d
    · simp [k_cp, hjd, h1 c hc]
    · simp [k_cp, hjd, h1 j hj]
  · obtain ⟨g1, g2⟩ := h2 j q hj hq
    obtain ⟨g3, g4⟩ := h2 c q hc hq
    by_cases hjd : j = d
    · simp [k_cp, hjd, hq, g3, g4]
    · simp [k_cp, hjd, g1, g2]
theorem ix_lt {n p q : Nat} (hp : p < n) (hq : q < n) : p * n + q < n * n := by
  have h : (p + 1) * n ≤ n * n := Nat.mul_le_mul_right n (by omega)
  rw [Nat.add_mul, Nat.one_mul] at h
  omega
theorem ix_inj {n p q a b : Nat} (hq : q < n) (hb : b < n) (h : p * n + q = a * n + b) : p = a ∧ q = b := by
  have e1 : (p * n + q) / n = p := by
    rw [Nat.mul_comm, Nat.mul_add_div (by omega), Nat.div_eq_of_lt hq]; rfl
  have e2 : (a * n + b) / n = a := by
    rw [Nat.mul_comm, Nat.mul_add_div (by omega), Nat.div_eq_of_lt hb]; rfl
  have e3 : p = a := by rw [← e1, h, e2]
  subst e3
  exact ⟨rfl, by omega⟩
theorem ix_25 {n p q : Nat} (hn : n ≤ 5) (hp : p < n) (hq : q < n) : p * n + q < 25 := by
  have := ix_lt hp hq
  have : n * n ≤ 5 * 5 := Nat.mul_le_mul hn hn
  omega
theorem k_channelOf (F n : Nat) (σ : mm_M) (p q : Nat) (hn : n ≤ 5) (hp : p < n) (hq : q < n) (h0 : σ 0 0 0 = nI n) : f_X_channelOf F n σ (nI p) (nI q) = some (p * n + q) := by
  unfold f_X_channelOf
  have h25 := ix_25 hn hp hq
  have : n * n ≤ 5 * 5 := Nat.mul_le_mul hn hn
  rw [h0, pk_mul, nI_add, if_pos (nn_in (ix_lt hp hq) (by omega)), nn_c (by omega)]
theorem nn_b {k : Nat} (h : k ≤ 1) : mm_z (nI k) := by
  rcases (show k = 0 ∨ k = 1 by omega) with rfl | rfl
  · exact Or.inl rfl
  · exact Or.inr rfl
/-- join -/
theorem k_join (F n p i pa f : Nat) (hd : List pv_N) (g : sg) (σ : mm_M) (hF : 100 ≤ F) (hw : gw n g) (h : rc n hd g f σ) (hp : p < n) (hi : i ≤ 512)
    (hlen : (hd ++ (s_enter n g p i (g.1 11 i 0 == 1) pa).2.2.2).length ≤ 4 * n * (n - 1)) :
    ∃ σ', f_X_join F n σ (nI p) (nI i) (s_pn pa) = some σ' ∧ rc n hd (s_enter n g p i (g.1 11 i 0 == 1) pa) f σ' := by
  obtain ⟨⟨A1, A2, A3, A4, A5⟩, hV, hH, hN⟩ := h
  obtain ⟨w1, w2, w3, w4, w5, w6, w7, w8, w9, w10⟩ := hw
  have hrb : nI (g.1 11 i 0) = nI (g.1 11 i 0 == 1).toNat := by
    have := (w5 i).1
    rcases (show g.1 11 i 0 = 0 ∨ g.1 11 i 0 = 1 by omega) with e | e <;> rw [e] <;> rfl
  generalize hrbe : (g.1 11 i 0 == 1) = rb at *
  have hz : mm_z (nI rb.toNat) := by cases rb <;> first | exact Or.inl rfl | exact Or.inr rfl
  unfold f_X_join
  rw [if_pos (nn_in hp (by omega)), if_pos (nn_in (show i < 513 by omega) (by omega)), nn_c (by omega), nn_c (by omega), (A3 i hi).1, hrb]
  unfold f_M_enter
  rw [if_pos hz, Option.bind_some]
  generalize hτ0 : mm_st (mm_st (mm_st (mm_st (mm_st σ 6 p 6 (nI i)) 6 p 7 (nI rb.toNat)) 6 p 8 (s_pn pa)) 6 p 10 0) 6 p 11 1 = τ0
  have t0 : ∀ k, k ≠ 6 → τ0 k = σ k := fun k hk => by rw [← hτ0, mm_sn _ _ _ _ hk, mm_sn _ _ _ _ hk, mm_sn _ _ _ _ hk, mm_sn _ _ _ _ hk, mm_sn _ _ _ _ hk]
  have hcp : ∃ τ : mm_M, (if nI rb.toNat = (0 : Int32) then Option.bind (f_S_copyFrom F n τ0 (3 * p + 2) (3 * p)) fun u4 => some u4 else some τ0) = some τ ∧ (∀ k, k ≠ 7 → k ≠ 8 → k ≠ 9 → τ k = τ0 k) ∧ rcV n (τ 7) (τ 8) (τ 9) (s_enter n g p i rb pa).2.1 ∧ (∀ q, τ 9 (3 * p) q = σ 9 (3 * p) q ∧ τ 9 (3 * p + 1) q = σ 9 (3 * p + 1) q ∧ τ 8 (3 * p + 1) q = σ 8 (3 * p + 1) q) := by
    have hV0 : rcV n (τ0 7) (τ0 8) (τ0 9) g.2.1 := by rw [t0 7 (by decide), t0 8 (by decide), t0 9 (by decide)]; exact hV
    cases rb with
    | true =>
      refine ⟨τ0, by rw [if_neg (by decide)], fun _ _ _ _ => rfl, hV0, fun q => ?_⟩
      rw [t0 9 (by decide), t0 8 (by decide)]
      exact ⟨rfl, rfl, rfl⟩
    | false =>
      refine ⟨k_cp n τ0 (3 * p + 2) (3 * p), by rw [if_pos (by decide), k_copyFrom F n _ _ τ0 w2 hF (by omega)]; rfl, fun k z1 z2 z3 => k_cp_n n τ0 _ _ z1 z2 z3, rcV_cp hV0 (by omega), fun q => ?_⟩
      have e1 : ¬ (3 * p = 3 * p + 2) := by omega
      have e2 : ¬ (3 * p + 1 = 3 * p + 2) := by omega
      simp [k_cp, e1, t0 9 (by decide), t0 8 (by decide)]
  obtain ⟨τ, c1, c2, c3, c4⟩ := hcp
  rw [c1, Option.bind_some, show (0 : Int32) = nI 0 from rfl]
  have tk : ∀ k, k ≠ 6 → k ≠ 7 → k ≠ 8 → k ≠ 9 → τ k = σ k := fun k z1 z2 z3 z4 => by rw [c2 k z2 z3 z4, t0 k z1]
  have t6 : τ 6 = τ0 6 := c2 6 (by decide) (by decide) (by decide)
  obtain ⟨σ', d1, d2, d3, d4, d5⟩ := k_join_l F n p i f rb w2 hp (fun q => g.2.1 2 (3 * p) q) (fun q => g.2.1 2 (3 * p + 1) q) (fun q => g.2.1 1 (3 * p + 1) q) (hd ++ g.2.2.2) τ
    (by rw [tk 0 (by decide) (by decide) (by decide) (by decide)]; exact A1)
    (fun q hq => by
      obtain ⟨z1, z2, z3⟩ := c4 q
      rw [z1, z2, z3]
      exact ⟨(hV.2 (3 * p) q (by omega) hq).2, (hV.2 (3 * p + 1) q (by omega) hq).2, (hV.2 (3 * p + 1) q (by omega) hq).1⟩)
    (s_asks g p rb) (by funext q; rfl) (fun q => if rb then g.2.1 1 (3 * p + 1) q else g.2.1 2 (3 * p) q) rfl
    (by rw [List.append_assoc]; exact hlen) n 0 F τ (by omega) (by omega) (fun _ _ _ _ _ => rfl) (fun a q => by simp) (fun a j => by
      by_cases haj : a = p ∧ j = 10
      · obtain ⟨rfl, rfl⟩ := haj
        rw [t6, ← hτ0]
        simp [mm_st]
        rfl
      · rw [if_neg haj]) (by
      rw [tk 3 (by decide) (by decide) (by decide) (by decide), tk 15 (by decide) (by decide) (by decide) (by decide)]
      have : pv_sends 0 0 i p (s_asks g p rb) (fun q => if rb then g.2.1 1 (3 * p + 1) q else g.2.1 2 (3 * p) q) = [] := rfl
      rw [this, List.append_nil]
      exact hN)
  rw [d1, Option.bind_some]
  have s' : ∀ k, k ≠ 3 → k ≠ 15 → k ≠ 10 → k ≠ 6 → k ≠ 7 → k ≠ 8 → k ≠ 9 → σ' k = σ k := fun k z1 z2 z3 z4 z5 z6 z7 => by rw [d2 k z1 z2 z3 z4, tk k z4 z5 z6 z7]
  refine ⟨σ', rfl, ⟨?_, ?_, fun j hj => ?_, fun a ha => ?_, fun a q ha hq => ?_⟩, ?_, ?_, ?_⟩
  · rw [s' 0 (by decide) (by decide) (by decide) (by decide) (by decide) (by decide) (by decide)]; exact A1
  · rw [s' 0 (by decide) (by decide) (by decide) (by decide) (by decide) (by decide) (by decide)]; exact A2
  · rw [s' 4 (by decide) (by decide) (by decide) (by decide) (by decide) (by decide) (by decide), s' 5 (by decide) (by decide) (by decide) (by decide) (by decide) (by decide) (by decide)]
    exact A3 j hj
  · by_cases hap : a = p
    · subst hap
      obtain ⟨B1, B2, B3, B4, B5, B6, B7, B8⟩ := A4 a ha
      have haw : s_aw n (s_enter n g a i rb pa).1 a = (List.range n).countP (s_asks g a rb) := by
        unfold s_aw
        apply List.countP_congr
        intro q hq
        have hq : q < n := List.mem_range.mp hq
        simp [s_enter, hq]
      rw [haw]
      simp only [d4, t6, ← hτ0]
      simp [mm_st, s_enter, B1, B2, B3]
      rfl
    · obtain ⟨B1, B2, B3, B4, B5, B6, B7, B8⟩ := A4 a ha
      have haw : s_aw n (s_enter n g p i rb pa).1 a = s_aw n g.1 a := by
        unfold s_aw
        apply List.countP_congr
        intro q hq
        simp [s_enter, hap]
      rw [haw]
      simp only [d4, t6, ← hτ0]
      simp [mm_st, s_enter, hap, B1, B2, B3, B4, B5, B6, B7, B8]
  · rw [d3 a q]
    by_cases hap : a = p
    · subst hap
      simp [hq, s_enter]
    · rw [if_neg (fun z => hap z.1), tk 10 (by decide) (by decide) (by decide) (by decide), A5 a q ha hq]
      simp [s_enter, hap]
  · rw [d2 7 (by decide) (by decide) (by decide) (by decide), d2 8 (by decide) (by decide) (by decide) (by decide), d2 9 (by decide) (by decide) (by decide) (by decide)]
    exact c3
  · rw [s' 11 (by decide) (by decide) (by decide) (by decide) (by decide) (by decide) (by decide), s' 12 (by decide) (by decide) (by decide) (by decide) (by decide) (by decide) (by decide), s' 13 (by decide) (by decide) (by decide) (by decide) (by decide) (by decide) (by decide)]
    exact hH
  · have e : hd ++ (s_enter n g p i rb pa).2.2.2 = hd ++ g.2.2.2 ++ pv_sends n 0 i p (s_asks g p rb) (fun q => if rb then g.2.1 1 (3 * p + 1) q else g.2.1 2 (3 * p) q) := by
      rw [List.append_assoc]; rfl
    rw [e]
    exact d5
