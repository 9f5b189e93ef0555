theorem rr_note {n T off : Nat} {hd : List pv_N} {g : sg} {ρ : mm_M} (h : rr n T off hd g ρ) {m : pv_N} {x : Int32} (hx : x = s_wd m) (hl : off + (hd ++ (s_note g m).2.2.2).length ≤ 300) :
    rr n T off hd (s_note g m) (r_wr ρ (off + (hd ++ g.2.2.2).length) m.1 m.2.2.1 m.2.2.2.1 m.2.1 (g.1 11 m.2.1 0) x) := by
  obtain ⟨⟨ln, kp, fx, gn, hB⟩, hN⟩ := h
  have e : hd ++ (s_note g m).2.2.2 = hd ++ g.2.2.2 ++ [m] := by rw [List.append_assoc]; rfl
  rw [e] at hl
  refine ⟨⟨ln, kp, fx, gn, rrB_k (g := s_note g m) hB (fun k hk => r_wr_k _ _ _ _ _ _ _ _ hk) (r_wr_0 _ _ _ _ _ _ _ _).1 (r_wr_0 _ _ _ _ _ _ _ _).2⟩, ?_⟩
  rw [e]
  exact rrN_wr hN (by simp only [List.length_append, List.length_cons, List.length_nil] at hl ⊢; omega) rfl hx
theorem nI_nneg {r : Nat} (h : r ≤ 100000) : ¬ nI r < (0 : Int32) := by
  rw [show (0 : Int32) = nI 0 from rfl, nn_lt (by omega) (by omega)]
  omega
/-- complete -/
theorem r_complete (F n T p off : Nat) (hd : List pv_N) (g : sg) (ρ : mm_M) (hF : 1000 ≤ F) (hT : T ≤ 512) (hw : gw n g) (h : rr n T off hd g ρ) (hp : p < n) (hI : gI g p ≠ 0)
    (hUC : ∀ q, q < n → gU g p q = true → gC g p q = true) (hlen : off + (hd ++ (s_concl n g p).2.2.2).length ≤ 300) :
    ∃ ρ', f_R_complete F n ρ (nI p) = some ρ' ∧ rr n T off hd (s_concl n g p) ρ' := by
  have hR := h
  have hww := hw
  obtain ⟨⟨ln, kp, fx, gn, ⟨A1, A2, A3⟩, B, C, D, E, G⟩, hN⟩ := h
  obtain ⟨w1, w2, w3, w4, w5, w6, w7, w8, w9, w10⟩ := hw
  obtain ⟨b1, b2, b3, b4, b5, b6⟩ := B p hp
  obtain ⟨c1, c2, r, c3, c4, c5⟩ := C p hp
  have hyes := (w4 p).2.2
  have hb1 := (w4 p).2.1
  have hI5 : g.1 0 p 0 ≤ 512 := w10 p hp
  have hbk := w8 p hp hI
  unfold f_R_complete
  rw [if_pos (nn_in (show p < 5 by omega) (by omega)), nn_c (by omega), c1, c2, c4, b4, b2]
  have heq : nI (bm n (fun q => gC g p q && !gU g p q)) = nI (bm n (gC g p)) ↔ pv_op n (gU g) p = false := by
    have l1 := bm_32 w2 (fun q => gC g p q && !gU g p q)
    have l2 := bm_32 w2 (gC g p)
    rw [nn_eq (by omega) (by omega), bm_eq]
    constructor
    · intro h
      cases ho : pv_op n (gU g) p with
      | false => rfl
      | true =>
        obtain ⟨q, hq, hu⟩ := pv_op_iff.mp ho
        have := h q hq
        rw [hu, hUC q hq hu] at this
        cases this
    · intro h q hq
      rw [pv_op_f h hq]
      simp
  unfold s_concl at hlen ⊢
  cases hop : pv_op n (gU g) p with
  | true =>
    rw [if_neg (by rw [heq, hop]; decide)]
    exact ⟨ρ, rfl, hR⟩
  | false =>
    rw [hop] at hlen
    rw [if_pos (heq.mpr hop)]
    have hyr : (if nI r = (0 : Int32) then some (1 : Int32) else some (0 : Int32)) = some (nI (g.1 10 p 0)) := by
      have := c5 hI
      by_cases hr : r = 0
      · rw [if_pos (by rw [hr]; rfl), this.mp hr]; rfl
      · rw [if_neg (by rw [nn_z (by omega)]; exact hr)]
        have : g.1 10 p 0 = 0 := by
          have h1 : ¬ g.1 10 p 0 = 1 := fun z => hr (this.mpr z)
          omega
        rw [this]; rfl
    rw [hyr, Option.bind_some]
    rcases hpa : g.1 3 p 0 with _ | r2
    · rw [hpa] at hlen
      rw [if_pos (show s_pn 0 < (0 : Int32) by decide)]
      have hy2 : (if nI (g.1 10 p 0) = (0 : Int32) then some (2 : Int32) else some (1 : Int32)) = some (nI (if g.1 10 p 0 = 1 then 1 else 2)) := by
        rcases (show g.1 10 p 0 = 0 ∨ g.1 10 p 0 = 1 by omega) with e | e <;> rw [e] <;> rfl
      rw [hy2, Option.bind_some, if_pos (nn_in (show g.1 0 p 0 < 520 by omega) (by omega)), nn_c (by omega)]
      have hR2 : rr n T off hd (s_num g 4 (gI g p) 0 (if g.1 10 p 0 = 1 then 1 else 2)) (mm_st ρ 18 0 (g.1 0 p 0) (nI (if g.1 10 p 0 = 1 then 1 else 2))) := by
        generalize (if g.1 10 p 0 = 1 then 1 else 2) = y
        refine ⟨⟨ln, kp, fx, gn, ⟨?_, ?_, fun j hj => ?_⟩, fun a ha => ?_, fun a ha => ?_, fun a ha => ?_, fun a ha => ?_, fun a b ha hb hab => ?_⟩, ?_⟩
        · rw [mm_sn _ _ _ _ (by decide)]; exact A1
        · rw [mm_sn _ _ _ _ (by decide), A2]; simp [gInst, s_num, sn_st]
        · have := A3 j hj
          by_cases hji : j = g.1 0 p 0
          · simp [mm_st, s_num, sn_st, gI, hji]
          · simp [mm_st, s_num, sn_st, gI, hji, this]
        · simp only [mm_sn _ _ _ _ (show 10 ≠ 18 by decide), mm_sn _ _ _ _ (show 11 ≠ 18 by decide), mm_sn _ _ _ _ (show 12 ≠ 18 by decide), mm_sn _ _ _ _ (show 13 ≠ 18 by decide), mm_sn _ _ _ _ (show 26 ≠ 18 by decide), mm_sn _ _ _ _ (show 27 ≠ 18 by decide)]
          simpa [s_num, sn_st] using B a ha
        · simp only [mm_sn _ _ _ _ (show 14 ≠ 18 by decide), mm_sn _ _ _ _ (show 15 ≠ 18 by decide), mm_sn _ _ _ _ (show 16 ≠ 18 by decide)]
          have e1 : gC (s_num g 4 (gI g p) 0 y) a = gC g a := by funext q; simp [gC, s_num, sn_st]
          have e2 : gU (s_num g 4 (gI g p) 0 y) a = gU g a := by funext q; simp [gU, s_num, sn_st]
          rw [e1, e2]
          simpa [s_num, sn_st] using C a ha
        · simp only [mm_sn _ _ _ _ (show 2 ≠ 18 by decide), mm_sn _ _ _ _ (show 7 ≠ 18 by decide), mm_sn _ _ _ _ (show 8 ≠ 18 by decide)]
          exact D a ha
        · have := E a ha
          unfold lgs at this ⊢
          simp only [mm_sn _ _ _ _ (show 3 ≠ 18 by decide), mm_sn _ _ _ _ (show 4 ≠ 18 by decide), mm_sn _ _ _ _ (show 5 ≠ 18 by decide), mm_sn _ _ _ _ (show 6 ≠ 18 by decide)]
          simpa [s_num, sn_st] using this
        · have := G a b ha hb hab
          unfold chs at this ⊢
          simp only [mm_sn _ _ _ _ (show 3 ≠ 18 by decide), mm_sn _ _ _ _ (show 4 ≠ 18 by decide), mm_sn _ _ _ _ (show 6 ≠ 18 by decide), mm_sn _ _ _ _ (show 9 ≠ 18 by decide)]
          exact this
        · have e : (fun i => (s_num g 4 (gI g p) 0 y).1 11 i 0) = fun i => g.1 11 i 0 := by funext j; simp [s_num, sn_st]
          rw [e]
          exact rrN_k hN (by rw [mm_sn _ _ _ _ (by decide)]) (fun k z1 z2 => by rw [mm_sn _ _ _ _ (by omega)])
      have hcy : nI (g.1 10 p 0) = nI (decide ((if g.1 10 p 0 = 1 then (1 : Int32) else 2) = 1)).toNat := by
        rcases (show g.1 10 p 0 = 0 ∨ g.1 10 p 0 = 1 by omega) with e | e <;> rw [e] <;> rfl
      have hI2 : gI (s_num g 4 (gI g p) 0 (if g.1 10 p 0 = 1 then 1 else 2)) p ≠ 0 := by simpa [gI, s_num, sn_st] using hI
      obtain ⟨ρ2, e1, e2⟩ := r_follow F n T p off hd _ _ (if g.1 10 p 0 = 1 then (1 : Int32) else 2) hF hT (gw_num hww (by split <;> omega)) hR2 hp hI2 hlen
      rw [hcy, e1]
      exact ⟨ρ2, rfl, e2⟩
    · rw [hpa] at hlen
      have hr9 := w9 p hp
      rw [if_neg (show ¬ s_pn (r2 + 1) < (0 : Int32) from nI_nneg (by omega))]
      have hy2 : (if nI (g.1 10 p 0) = (0 : Int32) then some (0 : Int32) else some (1 : Int32)) = some (nI (g.1 10 p 0)) := by
        rcases (show g.1 10 p 0 = 0 ∨ g.1 10 p 0 = 1 by omega) with e | e <;> rw [e] <;> rfl
      rw [hy2, Option.bind_some]
      have hlen' : off + (hd ++ (s_note g (1, gI g p, p, r2, nI (g.1 10 p 0))).2.2.2).length ≤ 300 := hlen
      have hc : off + (hd ++ g.2.2.2).length < 400 := by have := hN.2.1; omega
      have hwr := r_write F n ρ (off + (hd ++ g.2.2.2).length) 1 p r2 (g.1 0 p 0) (g.1 7 p 0) (nI (g.1 10 p 0)) hN.1 hc (by omega) b2 b3 hb1
      have hwr : f_R_write F n ρ (1 : Int32) (nI p) (s_pn (r2 + 1)) (nI (g.1 10 p 0)) = _ := hwr
      rw [hwr]
      have hnote := rr_note hR (m := (1, gI g p, p, r2, nI (g.1 10 p 0))) (x := nI (g.1 10 p 0)) rfl hlen'
      have hkk : g.1 11 (gI g p) 0 = g.1 7 p 0 := hbk.symm
      simp only [hkk] at hnote
      exact ⟨_, rfl, hnote⟩
theorem r_concerned (F n : Nat) (ρ : mm_M) (g : sg) (b a k ln kp z : Nat) (x : Int32) (hF : 1000 ≤ F) (hk : k < 400) (ha : a < n) (hb : b < n) (hn : n ≤ 5) (hln : ln ≤ 512) (hkp : kp ≤ 512) (hz : z ≤ 1)
    (h24 : ρ 24 0 k = nI z) (h21 : ρ 21 0 k = nI a) (h25 : ρ 25 0 k = x) (h2 : ρ 2 0 b = nI ln) (h7 : ρ 7 0 b = nI kp) (E1 : lgs n ρ g.2.1 b (3 * b) ln) (E2 : lgs n ρ g.2.1 b (3 * b + 1) kp) :
    f_R_concerned F n ρ (nI b) (nI k) = some (if s_concerned g b a (z == 1) x = true then 1 else 0) := by
  unfold f_R_concerned s_concerned
  rw [if_pos (nn_in hk (by omega)), nn_c (by omega), h24, h21, h25]
  have hin := nn_in (show b < 5 by omega) (show 5 ≤ 100000 by omega)
  rcases (show z = 0 ∨ z = 1 by omega) with rfl | rfl
  · rw [if_pos (by decide), if_pos hin, nn_c (by omega), h7, r_sent F n b a kp ρ hF (by omega) hkp, Option.bind_some, ← (E2.2 a ha).1]
    by_cases h : g.2.1 1 (3 * b + 1) a < x
    · rw [if_neg (Int32.not_le.mpr h)]; simp [h]
    · rw [if_pos (Int32.not_lt.mp h)]; simp [h]
  · rw [if_neg (by decide), if_pos hin, nn_c (by omega), h2, r_recv F n b a ln ρ hF (by omega) hln, Option.bind_some, ← (E1.2 a ha).2]
    by_cases h : x < g.2.1 2 (3 * b) a
    · rw [if_neg (Int32.not_le.mpr h)]; simp [h]
    · rw [if_pos (Int32.not_lt.mp h)]; simp [h]
theorem r_over (ρ : mm_M) (c k a b i0 z0 i z : Nat) (x : Int32) : mm_st (mm_st (r_wr ρ c k a b i0 z0 x) 23 0 c (nI i)) 24 0 c (nI z) = r_wr ρ c k a b i z x := by
  funext k' i' j'
  simp only [r_wr, mm_st]
  grind
