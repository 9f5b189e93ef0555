/-! the reference's notes -/
def s_wd (m : pv_N) : Int32 := if m.1 = 2 then (if m.2.2.2.2 = 1 then 1 else 0) else m.2.2.2.2
def r_nt (ρ : mm_M) (k : Nat) (m : pv_N) (z : Nat) : Prop := ρ 20 0 k = nI m.1 ∧ ρ 21 0 k = nI m.2.2.1 ∧ ρ 22 0 k = nI m.2.2.2.1 ∧ ρ 23 0 k = nI m.2.1 ∧ ρ 24 0 k = nI z ∧ ρ 25 0 k = s_wd m
def rrN (off : Nat) (ρ : mm_M) (kd : Nat → Nat) (ns : List pv_N) : Prop := ρ 0 0 18 = nI (off + ns.length) ∧ off + ns.length ≤ 300 ∧ ∀ j m, ns[j]? = some m → r_nt ρ (off + j) m (kd m.2.1)
def r_wr (ρ : mm_M) (c : Nat) (k a b i z : Nat) (x : Int32) : mm_M := mm_st (mm_st (mm_st (mm_st (mm_st (mm_st (mm_st ρ 20 0 c (nI k)) 21 0 c (nI a)) 22 0 c (nI b)) 23 0 c (nI i)) 24 0 c (nI z)) 25 0 c x) 0 0 18 (nI (c + 1))
abbrev nk (k : Nat) : Prop := k ≠ 0 ∧ (k < 20 ∨ 25 < k)
theorem r_wr_k (ρ : mm_M) (c k a b i z : Nat) (x : Int32) {kk : Nat} (h : nk kk) : r_wr ρ c k a b i z x kk = ρ kk := by
  obtain ⟨h0, h1⟩ := h
  unfold r_wr
  rw [mm_sn _ _ _ _ h0, mm_sn _ _ _ _ (by omega), mm_sn _ _ _ _ (by omega), mm_sn _ _ _ _ (by omega), mm_sn _ _ _ _ (by omega), mm_sn _ _ _ _ (by omega), mm_sn _ _ _ _ (by omega)]
theorem r_wr_0 (ρ : mm_M) (c k a b i z : Nat) (x : Int32) : r_wr ρ c k a b i z x 0 0 0 = ρ 0 0 0 ∧ r_wr ρ c k a b i z x 0 0 16 = ρ 0 0 16 := by
  simp [r_wr, mm_st]
theorem r_write (F n : Nat) (ρ : mm_M) (c k a b i z : Nat) (x : Int32) (hc : ρ 0 0 18 = nI c) (hc2 : c < 400) (ha : a < 5) (h11 : ρ 11 0 a = nI i) (h12 : ρ 12 0 a = nI z) (hz : z ≤ 1) :
    f_R_write F n ρ (nI k) (nI a) (nI b) x = some (r_wr ρ c k a b i z x) := by
  unfold f_R_write
  rw [hc, if_pos (nn_in hc2 (by omega)), if_pos (nn_in ha (by omega)), nn_c (by omega), h12, if_pos (nn_b hz), nn_c (by omega), h11, nI_1]
  rfl
theorem rrN_wr {off : Nat} {ρ : mm_M} {kd : Nat → Nat} {ns : List pv_N} (h : rrN off ρ kd ns) {m : pv_N} {z : Nat} {x : Int32} (hl : off + ns.length < 300) (hz : z = kd m.2.1) (hx : x = s_wd m) :
    rrN off (r_wr ρ (off + ns.length) m.1 m.2.2.1 m.2.2.2.1 m.2.1 z x) kd (ns ++ [m]) := by
  obtain ⟨h1, h2, h3⟩ := h
  subst hz hx
  refine ⟨?_, ?_, fun j m' hm => ?_⟩
  · simp [r_wr, mm_st, Nat.add_assoc]
  · simp; omega
  · by_cases hj : j < ns.length
    · rw [List.getElem?_append_left hj] at hm
      have h4 := h3 j m' hm
      have hne : ¬ off + j = off + ns.length := by omega
      have hne2 : ¬ j = ns.length := by omega
      unfold r_nt at h4 ⊢
      simp [r_wr, mm_st, hne2, h4]
    · have hj2 : j = ns.length := by
        have := (List.getElem?_eq_some_iff.mp hm).1
        simp at this
        omega
      subst hj2
      rw [List.getElem?_append_right (Nat.le_refl _)] at hm
      simp at hm
      subst hm
      unfold r_nt
      simp [r_wr, mm_st]
theorem r_asks (F n : Nat) (ρ : mm_M) (p q ln kp : Nat) (rb : Bool) (hF : 1000 ≤ F) (hp : p < 5) (hq : q < 5) (hl : ln ≤ 512) (hk : kp ≤ 512) (h2 : ρ 2 0 p = nI ln) (h7 : ρ 7 0 p = nI kp) (h12 : ρ 12 0 p = nI rb.toNat) :
    f_R_asks F n ρ (nI p) (nI q) = some (nI (decide (q ≠ p) && (rb || decide (l_r (ρ 3 0) (ρ 4 0) (ρ 5 0) p q kp < l_r (ρ 3 0) (ρ 4 0) (ρ 5 0) p q ln))).toNat) := by
  unfold f_R_asks
  by_cases hpq : p = q
  · subst hpq
    simp
    exact ⟨by decide, rfl⟩
  · have hqp : q ≠ p := fun z => hpq z.symm
    rw [if_neg (by rw [nn_eq (by omega) (by omega)]; exact hpq), if_pos (nn_in hp (by omega)), nn_c (by omega), h12]
    cases rb with
    | true =>
      rw [if_neg (by decide)]
      simp [hqp]
      exact ⟨by decide, rfl⟩
    | false =>
      rw [if_pos (by decide), h2, h7, r_recv F n p q ln ρ hF hp hl, Option.bind_some, r_recv F n p q kp ρ hF hp hk, Option.bind_some]
      by_cases hr : l_r (ρ 3 0) (ρ 4 0) (ρ 5 0) p q kp < l_r (ρ 3 0) (ρ 4 0) (ρ 5 0) p q ln
      · rw [if_neg (Int32.not_le.mpr hr)]
        simp [hqp, hr]
        exact ⟨by decide, rfl⟩
      · rw [if_pos (Int32.not_lt.mp hr)]
        simp [hqp, hr]
        exact ⟨by decide, rfl⟩
/-- the loop of join -/
theorem r_join_l (F n p i off ln kp : Nat) (rb : Bool) (hF : 1000 ≤ F) (hn : n ≤ 5) (hp : p < n) (ns : List pv_N) (τ : mm_M) (kd : Nat → Nat)
    (hl : ln ≤ 512) (hk7 : kp ≤ 512) (t0 : τ 0 0 0 = nI n) (t2 : τ 2 0 p = nI ln) (t7 : τ 7 0 p = nI kp) (t11 : τ 11 0 p = nI i) (t12 : τ 12 0 p = nI rb.toNat) (hkd : kd i = rb.toNat)
    (asks : Nat → Bool) (hasks : asks = fun q => decide (q ≠ p) && (rb || decide (l_r (τ 3 0) (τ 4 0) (τ 5 0) p q kp < l_r (τ 3 0) (τ 4 0) (τ 5 0) p q ln)))
    (x : Nat → Int32) (hx : x = fun q => if rb then nI (l_s (τ 3 0) (τ 4 0) p q kp) else l_r (τ 3 0) (τ 4 0) (τ 5 0) p q ln)
    (hlen : off + (ns ++ pv_sends n 0 i p asks x).length ≤ 300) :
    ∀ (r k K : Nat) (ρ : mm_M), k + r = n → r < K → (∀ kk, nk kk → kk ≠ 14 → ρ kk = τ kk) → ρ 0 0 0 = τ 0 0 0 → ρ 0 0 16 = τ 0 0 16 → (∀ a q, ρ 14 a q = if a = 0 ∧ q = p then nI (bm k asks) else τ 14 a q) → rrN off ρ kd (ns ++ pv_sends k 0 i p asks x) →
      ∃ ρ', f_R_join_l58 F n (nI p) (nI rb.toNat) K ρ (nI k) = some ρ' ∧ (∀ kk, nk kk → kk ≠ 14 → ρ' kk = τ kk) ∧ ρ' 0 0 0 = τ 0 0 0 ∧ ρ' 0 0 16 = τ 0 0 16 ∧ (∀ a q, ρ' 14 a q = if a = 0 ∧ q = p then nI (bm n asks) else τ 14 a q) ∧ rrN off ρ' kd (ns ++ pv_sends n 0 i p asks x) := by
  intro r
  induction r with
  | zero =>
    intro k K ρ hk hK g1 g2 g3 g4 g5
    obtain ⟨K, rfl⟩ : ∃ K', K = K' + 1 := ⟨K - 1, by omega⟩
    have hk : k = n := by omega
    subst hk
    have e0 : ρ 0 0 0 = nI k := by rw [g2]; exact t0
    rw [f_R_join_l58, e0, if_pos ((nn_le (by omega) (by omega)).mpr (by omega))]
    exact ⟨ρ, rfl, g1, g2, g3, g4, g5⟩
  | succ r ih =>
    intro k K ρ hk hK g1 g2 g3 g4 g5
    obtain ⟨K, rfl⟩ : ∃ K', K = K' + 1 := ⟨K - 1, by omega⟩
    have hkn : k < n := by omega
    have e2 : ρ 2 = τ 2 := g1 2 (by decide) (by decide)
    have e3 : ρ 3 = τ 3 := g1 3 (by decide) (by decide)
    have e4 : ρ 4 = τ 4 := g1 4 (by decide) (by decide)
    have e5 : ρ 5 = τ 5 := g1 5 (by decide) (by decide)
    have e7 : ρ 7 = τ 7 := g1 7 (by decide) (by decide)
    have e11 : ρ 11 = τ 11 := g1 11 (by decide) (by decide)
    have e12 : ρ 12 = τ 12 := g1 12 (by decide) (by decide)
    have ha : f_R_asks F n ρ (nI p) (nI k) = some (nI (asks k).toNat) := by
      rw [r_asks F n ρ p k ln kp rb hF (by omega) (by omega) hl hk7 (by rw [e2]; exact t2) (by rw [e7]; exact t7) (by rw [e12]; exact t12), hasks, e3, e4, e5]
    have e0 : ρ 0 0 0 = nI n := by rw [g2]; exact t0
    rw [f_R_join_l58, e0, if_neg (by rw [nn_le (by omega) (by omega)]; omega), ha, Option.bind_some]
    cases hak : asks k with
    | false =>
      rw [if_pos (by decide), Option.bind_some, nI_1]
      have hs : pv_sends (k + 1) 0 i p asks x = pv_sends k 0 i p asks x := by rw [pv_sends_succ]; simp [hak]
      have hb : bm (k + 1) asks = bm k asks := by rw [bm]; simp [hak]
      refine ih (k + 1) K ρ (by omega) (by omega) g1 g2 g3 ?_ (by rw [hs]; exact g5)
      rw [hb]; exact g4
    | true =>
      have hs : pv_sends (k + 1) 0 i p asks x = pv_sends k 0 i p asks x ++ [(0, i, p, k, x k)] := by rw [pv_sends_succ]; simp [hak]
      have hb : bm k asks ||| 2 ^ k = bm (k + 1) asks := by
        have h1 : bm (k + 1) (fun r => asks r && !(r == k)) = bm k asks := by
          rw [bm]
          simp
          exact bm_c (fun q hq => by have : q ≠ k := by omega
                                     simp [pv_bf this])
        rw [← h1, bm_or _ (show k < k + 1 by omega)]
        apply bm_c
        intro q hq
        by_cases hqk : q = k
        · simp [hqk, hak]
        · simp [pv_bf hqk]
      have h14 : ρ 14 0 p = nI (bm k asks) := by rw [g4]; simp
      have hor : nI (bm k asks) ||| ((1 : Int32) <<< (nI k &&& 31)) = nI (bm (k + 1) asks) := by
        rw [i_or _ (bm_32 (by omega) asks) k (by omega), hb]
      rw [if_neg (by decide), if_pos (nn_in (show p < 5 by omega) (by omega)), nn_c (by omega), h14, hor]
      generalize hρ1 : mm_st ρ 14 0 p (nI (bm (k + 1) asks)) = ρ1
      have k1 : ∀ kk, kk ≠ 14 → ρ1 kk = ρ kk := fun kk h => by rw [← hρ1, mm_sn _ _ _ _ h]
      have hv : (if nI rb.toNat = (0 : Int32) then Option.bind (f_R_receivedAt F n ρ1 (nI p) (nI k) (ρ 2 0 p)) fun u5 => some u5 else Option.bind (f_R_sentAt F n ρ1 (nI p) (nI k) (ρ 7 0 p)) fun u6 => some u6) = some (x k) := by
        rw [hx, e2, e7, t2, t7]
        cases rb with
        | true =>
          rw [if_neg (by decide), r_sent F n p k kp ρ1 hF (by omega) hk7, k1 3 (by decide), k1 4 (by decide), e3, e4]
          rfl
        | false =>
          rw [if_pos (by decide), r_recv F n p k ln ρ1 hF (by omega) hl, k1 3 (by decide), k1 4 (by decide), k1 5 (by decide), e3, e4, e5]
          rfl
      rw [hv, Option.bind_some]
      have hlt : off + (ns ++ pv_sends k 0 i p asks x).length < 300 := by
        have h1 := pv_sends_le (k := 0) (i := i) (p := p) (c := asks) (x := x) (show k + 1 ≤ n by omega)
        rw [hs] at h1
        simp only [List.length_append, List.length_cons, List.length_nil] at h1 hlen ⊢
        omega
      have g5' : rrN off ρ1 kd (ns ++ pv_sends k 0 i p asks x) := by
        obtain ⟨z1, z2, z3⟩ := g5
        refine ⟨by rw [k1 0 (by decide)]; exact z1, z2, fun j m hm => ?_⟩
        have := z3 j m hm
        unfold r_nt at this ⊢
        rw [k1 20 (by decide), k1 21 (by decide), k1 22 (by decide), k1 23 (by decide), k1 24 (by decide), k1 25 (by decide)]
        exact this
      have hz1 : rb.toNat ≤ 1 := by cases rb <;> decide
      have hwr := r_write F n ρ1 (off + (ns ++ pv_sends k 0 i p asks x).length) 0 p k i rb.toNat (x k) g5'.1 (by omega) (by omega) (by rw [k1 11 (by decide), e11]; exact t11) (by rw [k1 12 (by decide), e12]; exact t12) hz1
      have hwr : f_R_write F n ρ1 (0 : Int32) (nI p) (nI k) (x k) = _ := hwr
      rw [hwr, Option.bind_some, Option.bind_some, nI_1]
      have hN := rrN_wr (m := (0, i, p, k, x k)) (z := rb.toNat) (x := x k) g5' hlt hkd.symm rfl
      refine ih (k + 1) K _ (by omega) (by omega) (fun kk z1 z2 => ?_) ?_ ?_ (fun a q => ?_) ?_
      · rw [r_wr_k _ _ _ _ _ _ _ _ z1, k1 kk z2]; exact g1 kk z1 z2
      · rw [(r_wr_0 _ _ _ _ _ _ _ _).1, k1 0 (by decide)]; exact g2
      · rw [(r_wr_0 _ _ _ _ _ _ _ _).2, k1 0 (by decide)]; exact g3
      · rw [r_wr_k _ _ _ _ _ _ _ _ (by decide), ← hρ1]
        simp only [mm_st]
        rw [g4]
        by_cases haq : a = 0 ∧ q = p
        · obtain ⟨rfl, rfl⟩ := haq
          simp
        · have h1 : ¬ (True ∧ a = 0 ∧ q = p) := fun z => haq z.2
          rw [if_neg h1, if_neg haq, if_neg haq]
      · rw [hs, ← List.append_assoc]; exact hN
