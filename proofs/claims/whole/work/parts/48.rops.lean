theorem q_proc (F n : Nat) (ρ : mm_M) (p : Nat) (hn : n ≤ 5) (hp : p < n) (h0 : ρ 0 0 0 = nI n) : f_R_is F n ρ (nI p) = some 1 := by
  unfold f_R_is
  rw [h0, if_neg (by rw [show (0 : Int32) = nI 0 from rfl, nn_lt (by omega) (by omega)]; omega), if_neg (by rw [nn_le (by omega) (by omega)]; omega)]
  rfl
theorem q_noproc (F n : Nat) (ρ : mm_M) (a : Int32) (h0 : ρ 0 0 0 = nI n) (h : badp n a) : f_R_is F n ρ a = some 0 := by
  unfold f_R_is
  rw [h0]
  by_cases h1 : a < 0
  · rw [if_pos h1]; rfl
  · rw [if_neg h1, if_pos (h.resolve_left h1)]; rfl
theorem q_chan (F n : Nat) (ρ : mm_M) (p q : Nat) (hn : n ≤ 5) (hp : p < n) (hq : q < n) (hpq : p ≠ q) (h0 : ρ 0 0 0 = nI n) : f_R_pair F n ρ (nI p) (nI q) = some 1 := by
  unfold f_R_pair
  rw [q_proc F n ρ p hn hp h0, Option.bind_some, if_neg (by decide), q_proc F n ρ q hn hq h0, Option.bind_some, if_neg (by decide), if_neg (by rw [nn_eq (by omega) (by omega)]; exact hpq)]
  rfl
theorem q_nochan (F n : Nat) (ρ : mm_M) (a b : Int32) (hn : n ≤ 5) (h0 : ρ 0 0 0 = nI n) (h : badc n a b) : f_R_pair F n ρ a b = some 0 := by
  unfold f_R_pair
  rcases bad_or n hn a with ha | ⟨j, hj, rfl⟩
  · rw [q_noproc F n ρ a h0 ha, Option.bind_some, if_pos rfl]; rfl
  · rw [q_proc F n ρ j hn hj h0, Option.bind_some, if_neg (by decide)]
    rcases bad_or n hn b with hb | ⟨j2, hj2, rfl⟩
    · rw [q_noproc F n ρ b h0 hb, Option.bind_some, if_pos rfl]; rfl
    · rw [q_proc F n ρ j2 hn hj2 h0, Option.bind_some, if_neg (by decide)]
      have e : nI j = nI j2 := by
        have no : ∀ x, x < n → ¬ badp n (nI x) := fun x hx z => by
          rcases z with z | z
          · exact nI_nneg (by omega) z
          · rw [nn_le (by omega) (by omega)] at z; omega
        rcases h with h | h | h
        · exact absurd h (no j hj)
        · exact absurd h (no j2 hj2)
        · exact h
      rw [if_pos e]
      rfl
theorem q_inr (F n : Nat) (ρ : mm_M) (g : sg) (p : Nat) (hw : gw n g) (hp : p < n) (b2 : ρ 11 0 p = nI (g.1 0 p 0)) (b3 : ρ 12 0 p = nI (g.1 7 p 0)) : f_R_stands F n ρ (nI p) = some (if s_inr g p = true then 1 else 0) := by
  have hn := hw.2.1
  have hI : g.1 0 p 0 ≤ 512 := hw.2.2.2.2.2.2.2.2.2 p hp
  have hb := (hw.2.2.2.1 p).2.1
  unfold f_R_stands
  rw [if_pos (nn_in (show p < 5 by omega) (by omega)), nn_c (by omega), b2, b3]
  unfold s_inr
  by_cases h0 : g.1 0 p 0 = 0
  · rw [if_pos (by rw [h0]; decide)]; simp [h0]
  · rw [if_neg (by rw [show (0 : Int32) = nI 0 from rfl, nn_le (by omega) (by omega)]; omega)]
    rcases (show g.1 7 p 0 = 0 ∨ g.1 7 p 0 = 1 by omega) with e | e
    · rw [e, if_pos (by decide)]; simp
    · rw [e, if_neg (by decide)]; simp [h0]
theorem q_ix (p q : Nat) : (5 : Int32) * nI p + nI q = nI (5 * p + q) := by rw [show (5 : Int32) = nI 5 from rfl, pk_mul, nI_add]
theorem q_inChannel (F n T : Nat) (g : sg) (ρ : mm_M) (p q : Nat) (hF : 1000 ≤ F) (hT : T ≤ 512) (hn : n ≤ 5) (h : rr n T 0 [] g ρ) (hp : p < n) (hq : q < n) (hpq : p ≠ q) : f_R_inChannel F n ρ (nI p) (nI q) = some (nI (g.2.2.1 p q).length) := by
  obtain ⟨⟨ln, kp, fx, gn, A, B, C, D, E, G⟩, hN⟩ := h
  obtain ⟨D1, D2, D3, D4, D5⟩ := D p hp
  obtain ⟨x1, x2, x3, x4, x5⟩ := G p q hp hq hpq
  unfold f_R_inChannel
  rw [if_pos (nn_in (show p < 5 by omega) (by omega)), nn_c (by omega), D1, r_sent F n p q (ln p) ρ hF (by omega) (by omega), Option.bind_some, q_ix, if_pos (nn_in (show 5 * p + q < 25 by omega) (by omega)), nn_c (by omega), x1, pk_sub x2, x3]
theorem q_work (F n T p : Nat) (x : Int32) (g : sg) (ρ : mm_M) (hT : T < 512) (hw : gw n g) (h : rr n T 0 [] g ρ) (hp : p < n) : ∃ ρ', f_R_work F n ρ (nI p) x = some ((s_work g p x).1, ρ') ∧ rr n (T + 1) 0 [] (s_work g p x).2 ρ' := by
  have hR := h
  obtain ⟨⟨ln, kp, fx, gn, A, B, C, D, E, G⟩, hN⟩ := h
  obtain ⟨b1, b2, b3, b4, b5, b6⟩ := B p hp
  have hn := hw.2.1
  have hdn := (hw.2.2.2.1 p).1
  unfold f_R_work s_work
  rw [q_proc F n ρ p hn hp A.1, Option.bind_some, if_neg (by decide), if_pos (nn_in (show p < 5 by omega) (by omega)), nn_c (by omega), b1]
  by_cases h1 : g.1 6 p 0 = 1
  · rw [if_neg (by rw [nn_z (by omega)]; omega), if_pos h1]
    exact ⟨ρ, rfl, rr_T hR (by omega)⟩
  · rw [if_pos (by rw [nn_z (by omega)]; omega), if_neg h1, q_inr F n ρ g p hw hp b2 b3, Option.bind_some]
    by_cases h2 : s_inr g p = true
    · rw [if_pos h2, if_neg (by decide), if_pos h2]
      exact ⟨ρ, rfl, rr_T hR (by omega)⟩
    · rw [if_neg h2, if_pos rfl, if_neg h2]
      obtain ⟨L, l1, l2, l3⟩ := rr_ev (g' := s_setv g 0 (3 * p) 0 (31 * g.2.1 0 (3 * p) 0 + x)) (p := p) (k := 0) (ab := x) (mk := 0) (vl := 0) hR hn hp hT rfl rfl (fun kk j b hj => by simp [s_setv, hj]) (by simp [s_setv]) (fun q hq => by simp [s_setv]) (fun q hq => by simp [s_setv]) (fun a b ha hb hab => by simp [s_setv]) (fun b hb hpb hk => by simp at hk)
      rw [r_note F n ρ p L 0 x 0 0 (by omega) (by omega) l1]
      exact ⟨_, rfl, l3⟩
theorem q_send (F n T p q : Nat) (g : sg) (ρ : mm_M) (hF : 1000 ≤ F) (hT : T < 512) (hw : gw n g) (h : rr n T 0 [] g ρ) (hp : p < n) (hq : q < n) (hpq : p ≠ q) : ∃ ρ', f_R_send F n ρ (nI p) (nI q) = some ((s_send g p q).1, ρ') ∧ rr n (T + 1) 0 [] (s_send g p q).2 ρ' := by
  have hR := h
  obtain ⟨⟨ln, kp, fx, gn, A, B, C, D, E, G⟩, hN⟩ := h
  obtain ⟨b1, b2, b3, b4, b5, b6⟩ := B p hp
  have hn := hw.2.1
  have hdn := (hw.2.2.2.1 p).1
  have hI : g.1 0 p 0 ≤ 512 := hw.2.2.2.2.2.2.2.2.2 p hp
  have h6 := (G p q hp hq hpq).2.2.2.1
  unfold f_R_send s_send
  rw [q_chan F n ρ p q hn hp hq hpq A.1, Option.bind_some, if_neg (by decide), if_pos (nn_in (show p < 5 by omega) (by omega)), nn_c (by omega), b1, b2]
  by_cases h1 : g.1 6 p 0 = 1
  · have h1' : ¬ nI (g.1 6 p 0) = (0 : Int32) := by rw [nn_z (by omega)]; omega
    rw [if_neg h1', if_neg h1', if_pos h1]
    exact ⟨ρ, rfl, rr_T hR (by omega)⟩
  · have h1' : nI (g.1 6 p 0) = (0 : Int32) := by rw [nn_z (by omega)]; omega
    rw [if_pos h1', if_neg h1]
    by_cases h2 : g.1 0 p 0 ≠ 0
    · rw [if_neg (by rw [show (0 : Int32) = nI 0 from rfl, nn_le (by omega) (by omega)]; omega), if_pos h1', if_pos h2]
      exact ⟨ρ, rfl, rr_T hR (by omega)⟩
    · rw [if_pos (by rw [show (0 : Int32) = nI 0 from rfl, nn_le (by omega) (by omega)]; omega), if_neg h2, q_inChannel F n T g ρ p q hF (by omega) hn hR hp hq hpq, Option.bind_some]
      by_cases h3 : 6 ≤ (g.2.2.1 p q).length
      · rw [if_pos (by rw [show (6 : Int32) = nI 6 from rfl, nn_eq (by omega) (by omega)]; omega), if_pos h3]
        exact ⟨ρ, rfl, rr_T hR (by omega)⟩
      · rw [if_neg (by rw [show (6 : Int32) = nI 6 from rfl, nn_eq (by omega) (by omega)]; omega), if_neg h3]
        obtain ⟨L, l1, l2, l3⟩ := rr_ev (g' := s_setc (s_setv g 1 (3 * p) q (g.2.1 1 (3 * p) q + 1)) p q (g.2.2.1 p q ++ [(g.2.1 1 (3 * p) q + 1, g.2.1 0 (3 * p) 0)])) (p := p) (k := 1) (ab := nI q) (mk := 0) (vl := 0) hR hn hp hT rfl rfl (fun kk j b hj => by simp [s_setc, s_setv, hj]) (by simp [s_setc, s_setv]) (fun r hr => by
            have : nI q = nI r ↔ q = r := nn_eq (by omega) (by omega)
            by_cases hqr : q = r
            · subst hqr; simp [s_setc, s_setv]
            · have h9 : ¬ r = q := fun z => hqr z.symm
              simp [s_setc, s_setv, this, hqr, h9]) (fun r hr => by simp [s_setc, s_setv]) (fun a b ha hb hab => by
            have : nI q = nI b ↔ q = b := nn_eq (by omega) (by omega)
            by_cases hc : a = p ∧ b = q
            · obtain ⟨rfl, rfl⟩ := hc
              simp [s_setc, s_setv]
            · have h9 : ¬ (a = p ∧ q = b) := fun z => hc ⟨z.1, z.2.symm⟩
              simp [s_setc, s_setv, this, hc, h9]) (fun b hb hpb _ hb2 => by
            have : q = b := (nn_eq (by omega) (by omega)).mp hb2
            subst this
            omega)
        rw [r_note F n ρ p L 1 (nI q) 0 0 (by omega) (by omega) l1, Option.bind_some]
        obtain ⟨⟨ln', kp', fx', gn', A', B', C', D', E', G'⟩, hN'⟩ := l3
        have e2 := (D' p hp).1
        have e4 := (D' p hp).2.2.2.1
        have es := ((E' p hp).1.2 q hq).1
        refine ⟨r_ev ρ p L 1 (nI q) 0 0, ?_, ⟨ln', kp', fx', gn', A', B', C', D', E', G'⟩, hN'⟩
        show (Option.bind (f_R_sentAt F n (r_ev ρ p L 1 (nI q) 0 0) (nI p) (nI q) (r_ev ρ p L 1 (nI q) 0 0 2 0 p)) fun u5 => some (u5, r_ev ρ p L 1 (nI q) 0 0)) = _
        rw [e2, r_sent F n p q (ln' p) _ hF (by omega) (by omega), Option.bind_some, ← es]
        simp [s_setc, s_setv]
theorem rr_lose {n T : Nat} {g : sg} {ρ : mm_M} {p q : Nat} {m : Int32 × Int32} {l : List (Int32 × Int32)} (h : rr n T 0 [] g ρ) (hn : n ≤ 5) (hT : T ≤ 512) (hp : p < n) (hq : q < n) (hpq : p ≠ q) (hl : g.2.2.1 p q = m :: l) :
    ∃ G k L, ρ 9 0 (5 * p + q) = nI G ∧ G ≤ 512 ∧ m = (nI (G + 1), l_v (ρ 3 0) (ρ 4 0) (ρ 6 0) p k) ∧ ρ 2 0 p = nI L ∧ L ≤ T ∧ k < L ∧ ρ 3 0 (512 * p + k) = 1 ∧ ρ 4 0 (512 * p + k) = nI q ∧ l_s (ρ 3 0) (ρ 4 0) p q k + 1 = G + 1 ∧
      rr n T 0 [] (s_setc g p q l) (mm_st ρ 9 0 (5 * p + q) (nI (G + 1))) := by
  obtain ⟨⟨ln, kp, fx, gn, A, B, C, D, E, G⟩, hN⟩ := h
  obtain ⟨D1, D2, D3, D4, D5⟩ := D p hp
  obtain ⟨x1, x2, x3, x4, x5⟩ := G p q hp hq hpq
  have hls := l_s_le (ρ 3 0) (ρ 4 0) p q (ln p)
  rw [hl] at x3 x4 x5
  simp only [List.length_cons] at x3 x4 x5
  obtain ⟨k, j1, j2, j3, j4, j5⟩ := x5 0 (by omega)
  simp only [List.getElem?_cons_zero, Option.some.injEq, Nat.add_zero] at j5 j4
  refine ⟨gn p q, k, ln p, x1, by omega, j5, D1, D4, j1, j2, j3, by omega, ⟨ln, kp, fx, fun a b => if a = p ∧ b = q then gn p q + 1 else gn a b, ?_, ?_, ?_, ?_, ?_, fun a b ha hb hab => ?_⟩, ?_⟩
  · obtain ⟨A1, A2, A3⟩ := A
    refine ⟨by rw [mm_sn _ _ _ _ (by decide)]; exact A1, by rw [mm_sn _ _ _ _ (by decide)]; exact A2, by rw [mm_sn _ _ _ _ (by decide)]; exact A3⟩
  · simp only [mm_sn _ _ _ _ (show 10 ≠ 9 by decide), mm_sn _ _ _ _ (show 11 ≠ 9 by decide), mm_sn _ _ _ _ (show 12 ≠ 9 by decide), mm_sn _ _ _ _ (show 13 ≠ 9 by decide), mm_sn _ _ _ _ (show 26 ≠ 9 by decide), mm_sn _ _ _ _ (show 27 ≠ 9 by decide)]
    exact B
  · simp only [mm_sn _ _ _ _ (show 14 ≠ 9 by decide), mm_sn _ _ _ _ (show 15 ≠ 9 by decide), mm_sn _ _ _ _ (show 16 ≠ 9 by decide)]
    exact C
  · simp only [mm_sn _ _ _ _ (show 2 ≠ 9 by decide), mm_sn _ _ _ _ (show 7 ≠ 9 by decide), mm_sn _ _ _ _ (show 8 ≠ 9 by decide)]
    exact D
  · unfold lgs at E ⊢
    simp only [mm_sn _ _ _ _ (show 3 ≠ 9 by decide), mm_sn _ _ _ _ (show 4 ≠ 9 by decide), mm_sn _ _ _ _ (show 5 ≠ 9 by decide), mm_sn _ _ _ _ (show 6 ≠ 9 by decide)]
    exact E
  · have hG := G a b ha hb hab
    unfold chs at hG ⊢
    simp only [mm_sn _ _ _ _ (show 3 ≠ 9 by decide), mm_sn _ _ _ _ (show 4 ≠ 9 by decide), mm_sn _ _ _ _ (show 6 ≠ 9 by decide)]
    by_cases hc : a = p ∧ b = q
    · obtain ⟨rfl, rfl⟩ := hc
      have e : (s_setc g a b l).2.2.1 a b = l := by simp [s_setc]
      rw [e]
      simp only [and_self, if_true]
      refine ⟨by simp [mm_st], by omega, by omega, by omega, fun j hj => ?_⟩
      obtain ⟨k1, i1, i2, i3, i4, i5⟩ := x5 (j + 1) (by omega)
      refine ⟨k1, i1, i2, i3, by omega, ?_⟩
      rw [List.getElem?_cons_succ] at i5
      rw [i5]
      congr 3
      omega
    · have e : (s_setc g p q l).2.2.1 a b = g.2.2.1 a b := by simp [s_setc, hc]
      have hne : ¬ 5 * a + b = 5 * p + q := by omega
      rw [e]
      simp only [hc, if_false]
      have e9 : mm_st ρ 9 0 (5 * p + q) (nI (gn p q + 1)) 9 0 (5 * a + b) = ρ 9 0 (5 * a + b) := by simp [mm_st, hne]
      rw [e9]
      exact hG
  · exact rrN_k hN (by rw [mm_sn _ _ _ _ (by decide)]) (fun k z1 z2 => by rw [mm_sn _ _ _ _ (by omega)])
theorem q_lose (F n T p q : Nat) (g : sg) (ρ : mm_M) (hF : 1000 ≤ F) (hT : T < 512) (hw : gw n g) (h : rr n T 0 [] g ρ) (hp : p < n) (hq : q < n) (hpq : p ≠ q) : ∃ ρ', f_R_lose F n ρ (nI p) (nI q) = some ((s_lose g p q).1, ρ') ∧ rr n (T + 1) 0 [] (s_lose g p q).2 ρ' := by
  have hn := hw.2.1
  have h0 : ρ 0 0 0 = nI n := by obtain ⟨⟨ln, kp, fx, gn, A, _⟩, _⟩ := h; exact A.1
  have h6 : (g.2.2.1 p q).length ≤ 6 := by obtain ⟨⟨ln, kp, fx, gn, A, B, C, D, E, G⟩, _⟩ := h; exact (G p q hp hq hpq).2.2.2.1
  unfold f_R_lose s_lose
  rw [q_chan F n ρ p q hn hp hq hpq h0, Option.bind_some, if_neg (by decide), q_inChannel F n T g ρ p q hF (by omega) hn h hp hq hpq, Option.bind_some]
  rcases hl : g.2.2.1 p q with _ | ⟨m, l⟩
  · rw [if_pos (by decide)]
    exact ⟨ρ, rfl, rr_T h (by omega)⟩
  · rw [hl] at h6
    have h6 : l.length + 1 ≤ 6 := h6
    obtain ⟨G, k, L, z1, z2, z3, z4, z5, z6, z7, z8, z9, z10⟩ := rr_lose h hn (by omega) hp hq hpq hl
    rw [if_neg (by rw [nn_z (by simp; omega)]; simp), q_ix, if_pos (nn_in (show 5 * p + q < 25 by omega) (by omega)), nn_c (by omega), z1, nI_1]
    refine ⟨_, ?_, rr_T z10 (by omega)⟩
    rw [z3]
    simp [mm_st]
theorem q_receive (F n T p q : Nat) (g : sg) (ρ : mm_M) (hF : 1000 ≤ F) (hT : T < 512) (hw : gw n g) (h : rr n T 0 [] g ρ) (hp : p < n) (hq : q < n) (hpq : p ≠ q) : ∃ ρ', f_R_receive F n ρ (nI p) (nI q) = some ((s_receive g p q).1, ρ') ∧ rr n (T + 1) 0 [] (s_receive g p q).2 ρ' := by
  have hR := h
  obtain ⟨⟨ln, kp, fx, gn, A, B, C, D, E, G⟩, hN⟩ := h
  obtain ⟨b1, b2, b3, b4, b5, b6⟩ := B p hp
  obtain ⟨c1, c2, c3, c4, c5, c6⟩ := B q hq
  have hn := hw.2.1
  have hdp := (hw.2.2.2.1 p).1
  have hdq := (hw.2.2.2.1 q).1
  have h6 := (G p q hp hq hpq).2.2.2.1
  unfold f_R_receive s_receive
  rw [q_chan F n ρ p q hn hp hq hpq A.1, Option.bind_some, if_neg (by decide), if_pos (nn_in (show q < 5 by omega) (by omega)), nn_c (by omega), nn_c (by omega), c1, b1]
  by_cases h1 : g.1 6 q 0 = 1
  · have h1' : ¬ nI (g.1 6 q 0) = (0 : Int32) := by rw [nn_z (by omega)]; omega
    rw [if_neg h1', if_neg h1', if_pos h1]
    exact ⟨ρ, rfl, rr_T hR (by omega)⟩
  · have h1' : nI (g.1 6 q 0) = (0 : Int32) := by rw [nn_z (by omega)]; omega
    rw [if_pos h1', if_neg h1, q_inr F n ρ g q hw hq c2 c3, Option.bind_some]
    by_cases h2 : s_inr g q = true
    · rw [if_pos h2, if_neg (by decide), if_pos h1', if_pos h2]
      exact ⟨ρ, rfl, rr_T hR (by omega)⟩
    · rw [if_neg h2, if_pos rfl, if_neg h2, if_pos (nn_in (show p < 5 by omega) (by omega))]
      by_cases h3 : g.1 6 p 0 = 1
      · rw [if_neg (by rw [nn_z (by omega)]; omega), if_pos h1', if_pos h3]
        exact ⟨ρ, rfl, rr_T hR (by omega)⟩
      · rw [if_pos (by rw [nn_z (by omega)]; omega), if_neg h3, q_inr F n ρ g p hw hp b2 b3, Option.bind_some]
        by_cases h4 : s_inr g p = true
        · rw [if_pos h4, if_neg (by decide), if_pos h1', if_pos h4]
          exact ⟨ρ, rfl, rr_T hR (by omega)⟩
        · rw [if_neg h4, if_pos rfl, if_neg h4, q_inChannel F n T g ρ p q hF (by omega) hn hR hp hq hpq, Option.bind_some]
          rcases hl : g.2.2.1 p q with _ | ⟨m, l⟩
          · rw [if_pos (by decide)]
            exact ⟨ρ, rfl, rr_T hR (by omega)⟩
          · rw [hl] at h6
            have h6 : l.length + 1 ≤ 6 := h6
            obtain ⟨G0, k, L, z1, z2, z3, z4, z5, z6, z7, z8, z9, z10⟩ := rr_lose hR hn (by omega) hp hq hpq hl
            rw [if_neg (by rw [nn_z (by simp; omega)]; simp), q_ix, if_pos (nn_in (show 5 * p + q < 25 by omega) (by omega)), nn_c (by omega), z1, nI_1, r_with F n p q L k (G0 + 1) ρ hF (by omega) (by omega) z4 z6 z7 z8 z9, Option.bind_some]
            obtain ⟨L2, l1, l2, l3⟩ := rr_ev (g' := s_setv (s_setv g 2 (3 * q) p m.1) 0 (3 * q) 0 (17 * g.2.1 0 (3 * q) 0 + m.2 + 1)) (p := q) (k := 2) (ab := nI p) (mk := nI (G0 + 1)) (vl := l_v (ρ 3 0) (ρ 4 0) (ρ 6 0) p k) hR hn hq hT rfl rfl (fun kk j b hj => by simp [s_setv, hj]) (by simp [s_setv, z3]) (fun r hr => by simp [s_setv]) (fun r hr => by
                have : nI p = nI r ↔ p = r := nn_eq (by omega) (by omega)
                by_cases hqr : p = r
                · subst hqr; simp [s_setv, z3]
                · have h9 : ¬ r = p := fun z => hqr z.symm
                  simp [s_setv, this, hqr, h9]) (fun a b ha hb hab => by simp [s_setv]) (fun b hb hpb hk => by simp at hk)
            rw [r_note F n ρ q L2 2 (nI p) (nI (G0 + 1)) (l_v (ρ 3 0) (ρ 4 0) (ρ 6 0) p k) (by omega) (by omega) l1, Option.bind_some]
            have hl2 : (s_setv (s_setv g 2 (3 * q) p m.1) 0 (3 * q) 0 (17 * g.2.1 0 (3 * q) 0 + m.2 + 1)).2.2.1 p q = m :: l := hl
            obtain ⟨G1, k1, L1, y1, y2, y3, y4, y5, y6, y7, y8, y9, y10⟩ := rr_lose l3 hn (by omega) hp hq hpq hl2
            rw [r_ev_k _ _ _ _ _ _ _ (by omega), z1] at y1
            have hG : G0 = G1 := (nn_eq (by omega) (by omega)).mp y1
            subst hG
            refine ⟨_, ?_, y10⟩
            rw [z3]
