/-! where the objects lie behind the constructors -/
def offX (n k i : Nat) : Nat := match k with
  | 0 => 0
  | 1 => 1
  | 2 => 1 + 1 + 11 * n
  | 3 => 1 + 1 + 11 * n + 1 + 3 * (n * n)
  | 4 => 1 + 1 + 11 * n + 1 + 3 * (n * n) + 1 + 1 + 4 * n * (n - 1)
  | 5 => 1 + 1 + 11 * n + 1 + 3 * (n * n) + 1 + 1 + 4 * n * (n - 1) + 1
  | 6 => 1 + 1 + 11 * i
  | 7 => 1 + 1 + 11 * (i / 3) + 1 + 3 * (i % 3)
  | 8 => 1 + 1 + 11 * (i / 3) + 1 + 3 * (i % 3) + 1
  | 9 => 1 + 1 + 11 * (i / 3) + 1 + 3 * (i % 3) + 2
  | 10 => 1 + 1 + 11 * i + 1 + 9
  | 11 => 1 + 1 + 11 * n + 1 + 3 * i
  | 12 => 1 + 1 + 11 * n + 1 + 3 * i + 1
  | 13 => 1 + 1 + 11 * n + 1 + 3 * i + 1 + 1
  | 14 => 1 + 1 + 11 * n + 1 + 3 * (n * n) + 1
  | _ => 1 + 1 + 11 * n + 1 + 3 * (n * n) + 1 + 1 + i
def lX (base n : Nat) : mm_L := fun k i => base + offX n k i
theorem kcX {n k i : Nat} (h : i < ec_cnt n k) : k = 0 ∨ k = 1 ∨ k = 2 ∨ k = 3 ∨ k = 4 ∨ k = 5 ∨ k = 6 ∨ k = 7 ∨ k = 8 ∨ k = 9 ∨ k = 10 ∨ k = 11 ∨ k = 12 ∨ k = 13 ∨ k = 14 ∨ k = 15 := by
  unfold ec_cnt at h
  split at h <;> omega
set_option maxHeartbeats 4000000 in
theorem offX_I {n k i k' i' : Nat} (hi : i < ec_cnt n k) (hi' : i' < ec_cnt n k') (e : offX n k i = offX n k' i') : k = k' ∧ i = i' := by
  have hk := kcX hi
  have hk' := kcX hi'
  rcases hk with rfl | rfl | rfl | rfl | rfl | rfl | rfl | rfl | rfl | rfl | rfl | rfl | rfl | rfl | rfl | rfl <;> rcases hk' with rfl | rfl | rfl | rfl | rfl | rfl | rfl | rfl | rfl | rfl | rfl | rfl | rfl | rfl | rfl | rfl <;> simp only [offX, ec_cnt] at e hi hi' <;> omega
theorem lX_I (base n : Nat) : mm_I (ec_cnt n) (lX base n) := fun _ _ _ _ hi hi' e => offX_I hi hi' (Nat.add_left_cancel e)
theorem offX_lt {n k i : Nat} (hi : i < ec_cnt n k) : offX n k i < 1 + 1 + 11 * n + 1 + 3 * (n * n) + 1 + 1 + 4 * n * (n - 1) + 1 + 1 := by
  have hk := kcX hi
  rcases hk with rfl | rfl | rfl | rfl | rfl | rfl | rfl | rfl | rfl | rfl | rfl | rfl | rfl | rfl | rfl | rfl <;> simp only [offX, ec_cnt] at hi ⊢ <;> omega
theorem m0z {n k i : Nat} (h : k ≠ 0) : m_0 n k i = fun _ => 0 := by
  funext j
  simp [m_0, h]
theorem at_arr {D : va_G} {cl : List vw_C} {a n : Nat} {cA : ClassId} {g g' : Nat → Option Nat} {H : Heap} (h : va_at D cl (a, .inl (cA, n, .inr (.inr (.inr (.inr g))))) H) (e : ∀ j, j < n → g j = g' j) : va_at D cl (a, .inl (cA, n, .inr (.inr (.inr (.inr g'))))) H := by
  have h : H[a]? = some (vp_cell cA (n, .inr (.inr (.inr (.inr g))))) := h
  show H[a]? = some (vp_cell cA (n, .inr (.inr (.inr (.inr g')))))
  rw [h, vp_cell_q, vp_cell_q]
  have e2 : (fun j : Fin n => va_rf (g j.val)) = fun j : Fin n => va_rf (g' j.val) := funext fun j => by rw [e j.1 j.2]
  unfold arrV
  rw [e2]
theorem o7 (n p : Nat) {r : Nat} (hr : r < 3) : offX n 7 (3 * p + r) = 1 + 1 + 11 * p + 1 + 3 * r := by
  show 1 + 1 + 11 * ((3 * p + r) / 3) + 1 + 3 * ((3 * p + r) % 3) = _
  omega
theorem o8 (n p : Nat) {r : Nat} (hr : r < 3) : offX n 8 (3 * p + r) = 1 + 1 + 11 * p + 1 + 3 * r + 1 := by
  show 1 + 1 + 11 * ((3 * p + r) / 3) + 1 + 3 * ((3 * p + r) % 3) + 1 = _
  omega
theorem o9 (n p : Nat) {r : Nat} (hr : r < 3) : offX n 9 (3 * p + r) = 1 + 1 + 11 * p + 1 + 3 * r + 2 := by
  show 1 + 1 + 11 * ((3 * p + r) / 3) + 1 + 3 * ((3 * p + r) % 3) + 2 = _
  omega
theorem i3 {n i : Nat} (h : i < 3 * n) : ∃ p r, i = 3 * p + r ∧ r < 3 ∧ p < n := ⟨i / 3, i % 3, by omega, by omega, by omega⟩
set_option maxHeartbeats 4000000 in
theorem wX {G : ec_G} {base n : Nat} {f : Nat → va_E} {len : Nat} {H : Heap} (hB : bw G.1 ec_cl base f len H) (hl : 1 + 1 + 11 * n + 1 + 3 * (n * n) + 1 + 1 + 4 * n * (n - 1) + 1 + 1 ≤ len) (h0 : f 0 = .inr (0, [.int (nI n), .ref (base + 1), .ref (base + (1 + 1 + 11 * n)), .ref (base + (1 + 1 + 11 * n + 1 + 3 * (n * n))), .ref (base + (1 + 1 + 11 * n + 1 + 3 * (n * n) + 1 + 1 + 4 * n * (n - 1))), .ref (base + (1 + 1 + 11 * n + 1 + 3 * (n * n) + 1 + 1 + 4 * n * (n - 1) + 1)), .int 0])) (hm : mxk G base n n f 1) (hc : cxk G base (n * n) (n * n) f (1 + 1 + 11 * n)) (hL : lxk G base (4 * n * (n - 1)) f (1 + 1 + 11 * n + 1 + 3 * (n * n))) (hz : f (1 + 1 + 11 * n + 1 + 3 * (n * n) + 1 + 1 + 4 * n * (n - 1)) = .inl (G.2 1, 513, .inl (fun _ => 0))) (hd : f (1 + 1 + 11 * n + 1 + 3 * (n * n) + 1 + 1 + 4 * n * (n - 1) + 1) = .inl (G.2 0, 513, .inl (fun _ => 0))) : mm_W G.1 ec_cl (ec_cnt n) (lX base n) (ec_E G (lX base n) n) (m_0 n) H := by
  have at_ : ∀ o e, o < len → f o = e → va_at G.1 ec_cl (base + o, e) H := fun o e ho he => by rw [← he]; exact hB.2 o ho
  obtain ⟨⟨gm, m1, m2⟩, m3⟩ := hm
  obtain ⟨⟨gc, c1, c2⟩, c3⟩ := hc
  obtain ⟨l0, ⟨gl, l1, l2⟩, l3⟩ := hL
  have aA : ∀ {k i o N cA}, o < len → k ≠ 0 → f o = .inl (cA, N, .inl (fun _ => 0)) → va_at G.1 ec_cl (base + o, .inl (cA, N, .inl (m_0 n k i))) H := fun ho hk he => by rw [m0z hk]; exact at_ _ _ ho he
  intro k i hi
  have hlt := Nat.lt_of_lt_of_le (offX_lt hi) hl
  rcases kcX hi with rfl | rfl | rfl | rfl | rfl | rfl | rfl | rfl | rfl | rfl | rfl | rfl | rfl | rfl | rfl | rfl
  · have hi0 : i = 0 := Nat.lt_one_iff.mp hi
    subst hi0
    exact at_ _ _ hlt h0
  · have hi0 : i = 0 := Nat.lt_one_iff.mp hi
    subst hi0
    exact at_arr (at_ _ _ hlt m1) (fun j hj => m2 j hj)
  · have hi0 : i = 0 := Nat.lt_one_iff.mp hi
    subst hi0
    exact at_arr (at_ _ _ hlt c1) (fun j hj => c2 j hj)
  · have hi0 : i = 0 := Nat.lt_one_iff.mp hi
    subst hi0
    exact at_ _ _ hlt l0
  · have hi0 : i = 0 := Nat.lt_one_iff.mp hi
    subst hi0
    exact aA (k := 4) (i := 0) hlt (by decide) hz
  · have hi0 : i = 0 := Nat.lt_one_iff.mp hi
    subst hi0
    exact aA (k := 5) (i := 0) hlt (by decide) hd
  · obtain ⟨q0, -⟩ := m3 i hi
    refine at_ _ _ hlt (q0.trans ?_)
    have e0 : lX base n 7 (3 * i) = base + (1 + 1 + 11 * i + 1) := congrArg (base + ·) (o7 n i (r := 0) (by decide))
    have e1 : lX base n 7 (3 * i + 1) = base + (1 + 1 + 11 * i + 1 + 3) := congrArg (base + ·) (o7 n i (r := 1) (by decide))
    have e2 : lX base n 7 (3 * i + 2) = base + (1 + 1 + 11 * i + 1 + 6) := congrArg (base + ·) (o7 n i (r := 2) (by decide))
    show _ = (Sum.inr (1, [.ref (lX base n 7 (3 * i)), .ref (lX base n 7 (3 * i + 1)), .ref (lX base n 7 (3 * i + 2)), .int (m_0 n 6 i 3), .int (m_0 n 6 i 4), .int (m_0 n 6 i 5), .int (m_0 n 6 i 6), .int (m_0 n 6 i 7), .int (m_0 n 6 i 8), .ref (lX base n 10 i), .int (m_0 n 6 i 10), .int (m_0 n 6 i 11)]) : va_E)
    rw [e0, e1, e2, m0z (by decide)]
    rfl
  · obtain ⟨p, r, rfl, hr, hp⟩ := i3 hi
    obtain ⟨-, q1, -, -, q4, -, -, q7, -⟩ := m3 p hp
    have e8 : lX base n 8 (3 * p + r) = base + (1 + 1 + 11 * p + 1 + 3 * r + 1) := congrArg (base + ·) (o8 n p hr)
    have e9 : lX base n 9 (3 * p + r) = base + (1 + 1 + 11 * p + 1 + 3 * r + 2) := congrArg (base + ·) (o9 n p hr)
    show va_at G.1 ec_cl (base + offX n 7 (3 * p + r), .inr (2, [.int (m_0 n 7 (3 * p + r) 0), .ref (lX base n 8 (3 * p + r)), .ref (lX base n 9 (3 * p + r))])) H
    rw [e8, e9, m0z (by decide)]
    rw [o7 n p hr] at hlt ⊢
    rcases (show r = 0 ∨ r = 1 ∨ r = 2 by omega) with rfl | rfl | rfl
    · exact at_ _ _ hlt q1
    · exact at_ _ _ hlt q4
    · exact at_ _ _ hlt q7
  · obtain ⟨p, r, rfl, hr, hp⟩ := i3 hi
    obtain ⟨-, -, q2, -, -, q5, -, -, q8, -⟩ := m3 p hp
    show va_at G.1 ec_cl (base + offX n 8 (3 * p + r), .inl (G.2 0, n, .inl (m_0 n 8 (3 * p + r)))) H
    rw [o8 n p hr] at hlt ⊢
    rcases (show r = 0 ∨ r = 1 ∨ r = 2 by omega) with rfl | rfl | rfl
    · exact aA hlt (by decide) q2
    · exact aA hlt (by decide) q5
    · exact aA hlt (by decide) q8
  · obtain ⟨p, r, rfl, hr, hp⟩ := i3 hi
    obtain ⟨-, -, -, q3, -, -, q6, -, -, q9, -⟩ := m3 p hp
    show va_at G.1 ec_cl (base + offX n 9 (3 * p + r), .inl (G.2 0, n, .inl (m_0 n 9 (3 * p + r)))) H
    rw [o9 n p hr] at hlt ⊢
    rcases (show r = 0 ∨ r = 1 ∨ r = 2 by omega) with rfl | rfl | rfl
    · exact aA hlt (by decide) q3
    · exact aA hlt (by decide) q6
    · exact aA hlt (by decide) q9
  · obtain ⟨-, -, -, -, -, -, -, -, -, -, q10⟩ := m3 i hi
    exact aA (k := 10) (i := i) hlt (by decide) q10
  · obtain ⟨q0, -, -⟩ := c3 i hi
    refine at_ _ _ hlt (q0.trans ?_)
    show _ = (Sum.inr (3, [.ref (lX base n 12 i), .ref (lX base n 13 i), .int (m_0 n 11 i 2)]) : va_E)
    rw [m0z (by decide)]
    rfl
  · obtain ⟨-, q1, -⟩ := c3 i hi
    exact aA (k := 12) (i := i) hlt (by decide) q1
  · obtain ⟨-, -, q2⟩ := c3 i hi
    exact aA (k := 13) (i := i) hlt (by decide) q2
  · have hi0 : i = 0 := Nat.lt_one_iff.mp hi
    subst hi0
    exact at_arr (at_ _ _ hlt l1) (fun j hj => l2 j hj)
  · refine at_ _ _ hlt ((l3 i hi).trans ?_)
    show _ = (Sum.inr (5, [.int (m_0 n 15 i 0), .int (m_0 n 15 i 1), .int (m_0 n 15 i 2), .int (m_0 n 15 i 3), .int (m_0 n 15 i 4)]) : va_E)
    rw [m0z (by decide)]
def offR (o k : Nat) : Nat := match k with
  | 0 => o
  | 2 => o + 1
  | 3 => o + 1 + 1
  | 4 => o + 1 + 2
  | 5 => o + 1 + 3
  | 6 => o + 1 + 4
  | 7 => o + 1 + 5
  | 8 => o + 1 + 6
  | 9 => o + 1 + 7
  | 10 => o + 1 + 8
  | 11 => o + 1 + 9
  | 12 => o + 1 + 10
  | 13 => o + 1 + 11
  | 14 => o + 1 + 12
  | 15 => o + 1 + 13
  | 16 => o + 1 + 14
  | 18 => o + 1 + 15
  | 20 => o + 1 + 16
  | 21 => o + 1 + 17
  | 22 => o + 1 + 18
  | 23 => o + 1 + 19
  | 24 => o + 1 + 20
  | 25 => o + 1 + 21
  | 26 => o + 1 + 22
  | 27 => o + 1 + 23
  | _ => 0
def lR (base o : Nat) : mm_L := fun k _ => base + offR o k
theorem kcR {n k i : Nat} (h : i < er_cnt n k) : i = 0 ∧ (k = 0 ∨ k = 2 ∨ k = 3 ∨ k = 4 ∨ k = 5 ∨ k = 6 ∨ k = 7 ∨ k = 8 ∨ k = 9 ∨ k = 10 ∨ k = 11 ∨ k = 12 ∨ k = 13 ∨ k = 14 ∨ k = 15 ∨ k = 16 ∨ k = 18 ∨ k = 20 ∨ k = 21 ∨ k = 22 ∨ k = 23 ∨ k = 24 ∨ k = 25 ∨ k = 26 ∨ k = 27) := by
  unfold er_cnt at h
  split at h <;> omega
set_option maxHeartbeats 4000000 in
theorem lR_I (base o n : Nat) : mm_I (er_cnt n) (lR base o) := by
  intro k i k' i' hi hi' e
  obtain ⟨h1, hk⟩ := kcR hi
  obtain ⟨h2, hk'⟩ := kcR hi'
  have e : offR o k = offR o k' := Nat.add_left_cancel e
  refine ⟨?_, by omega⟩
  clear hi hi' h1 h2
  rcases hk with rfl | rfl | rfl | rfl | rfl | rfl | rfl | rfl | rfl | rfl | rfl | rfl | rfl | rfl | rfl | rfl | rfl | rfl | rfl | rfl | rfl | rfl | rfl | rfl | rfl <;> rcases hk' with rfl | rfl | rfl | rfl | rfl | rfl | rfl | rfl | rfl | rfl | rfl | rfl | rfl | rfl | rfl | rfl | rfl | rfl | rfl | rfl | rfl | rfl | rfl | rfl | rfl <;> simp only [offR] at e <;> omega
theorem offR_lt {o n k i : Nat} (hi : i < er_cnt n k) : o ≤ offR o k ∧ offR o k < o + 1 + 24 := by
  obtain ⟨h1, hk⟩ := kcR hi
  rcases hk with rfl | rfl | rfl | rfl | rfl | rfl | rfl | rfl | rfl | rfl | rfl | rfl | rfl | rfl | rfl | rfl | rfl | rfl | rfl | rfl | rfl | rfl | rfl | rfl | rfl <;> simp only [offR] <;> omega
set_option maxHeartbeats 4000000 in
theorem wR {G : ec_G} {base n o : Nat} {f : Nat → va_E} {len : Nat} {H : Heap} (hB : bw G.1 ec_cl base f len H) (hl : o + 1 + 24 ≤ len) (h0 : f o = .inr (6, [.int (nI n), .ref (base + (o + 1)), .ref (base + (o + 1 + 1)), .ref (base + (o + 1 + 2)), .ref (base + (o + 1 + 3)), .ref (base + (o + 1 + 4)), .ref (base + (o + 1 + 5)), .ref (base + (o + 1 + 6)), .ref (base + (o + 1 + 7)), .ref (base + (o + 1 + 8)), .ref (base + (o + 1 + 9)), .ref (base + (o + 1 + 10)), .ref (base + (o + 1 + 11)), .ref (base + (o + 1 + 12)), .ref (base + (o + 1 + 13)), .ref (base + (o + 1 + 14)), .int 0, .ref (base + (o + 1 + 15)), .int 0, .ref (base + (o + 1 + 16)), .ref (base + (o + 1 + 17)), .ref (base + (o + 1 + 18)), .ref (base + (o + 1 + 19)), .ref (base + (o + 1 + 20)), .ref (base + (o + 1 + 21)), .ref (base + (o + 1 + 22)), .ref (base + (o + 1 + 23))])) (a0 : f (o + 1) = .inl (G.2 0, 5, .inl (fun _ => 0))) (a1 : f (o + 1 + 1) = .inl (G.2 0, 2560, .inl (fun _ => 0))) (a2 : f (o + 1 + 2) = .inl (G.2 0, 2560, .inl (fun _ => 0))) (a3 : f (o + 1 + 3) = .inl (G.2 0, 2560, .inl (fun _ => 0))) (a4 : f (o + 1 + 4) = .inl (G.2 0, 2560, .inl (fun _ => 0))) (a5 : f (o + 1 + 5) = .inl (G.2 0, 5, .inl (fun _ => 0))) (a6 : f (o + 1 + 6) = .inl (G.2 0, 5, .inl (fun _ => 0))) (a7 : f (o + 1 + 7) = .inl (G.2 0, 25, .inl (fun _ => 0))) (a8 : f (o + 1 + 8) = .inl (G.2 1, 5, .inl (fun _ => 0))) (a9 : f (o + 1 + 9) = .inl (G.2 0, 5, .inl (fun _ => 0))) (a10 : f (o + 1 + 10) = .inl (G.2 1, 5, .inl (fun _ => 0))) (a11 : f (o + 1 + 11) = .inl (G.2 0, 5, .inl (fun _ => 0))) (a12 : f (o + 1 + 12) = .inl (G.2 0, 5, .inl (fun _ => 0))) (a13 : f (o + 1 + 13) = .inl (G.2 0, 5, .inl (fun _ => 0))) (a14 : f (o + 1 + 14) = .inl (G.2 0, 5, .inl (fun _ => 0))) (a15 : f (o + 1 + 15) = .inl (G.2 0, 520, .inl (fun _ => 0))) (a16 : f (o + 1 + 16) = .inl (G.2 0, 400, .inl (fun _ => 0))) (a17 : f (o + 1 + 17) = .inl (G.2 0, 400, .inl (fun _ => 0))) (a18 : f (o + 1 + 18) = .inl (G.2 0, 400, .inl (fun _ => 0))) (a19 : f (o + 1 + 19) = .inl (G.2 0, 400, .inl (fun _ => 0))) (a20 : f (o + 1 + 20) = .inl (G.2 1, 400, .inl (fun _ => 0))) (a21 : f (o + 1 + 21) = .inl (G.2 0, 400, .inl (fun _ => 0))) (a22 : f (o + 1 + 22) = .inl (G.2 0, 5, .inl (fun _ => 0))) (a23 : f (o + 1 + 23) = .inl (G.2 0, 5, .inl (fun _ => 0))) : mm_W G.1 ec_cl (er_cnt n) (lR base o) (er_E G (lR base o) n) (m_0 n) H := by
  have at_ : ∀ o e, o < len → f o = e → va_at G.1 ec_cl (base + o, e) H := fun o e ho he => by rw [← he]; exact hB.2 o ho
  have aA : ∀ {k i o N cA}, o < len → k ≠ 0 → f o = .inl (cA, N, .inl (fun _ => 0)) → va_at G.1 ec_cl (base + o, .inl (cA, N, .inl (m_0 n k i))) H := fun ho hk he => by rw [m0z hk]; exact at_ _ _ ho he
  intro k i hi
  have hlt := Nat.lt_of_lt_of_le (offR_lt (o := o) hi).2 hl
  obtain ⟨rfl, hk⟩ := kcR hi
  rcases hk with rfl | rfl | rfl | rfl | rfl | rfl | rfl | rfl | rfl | rfl | rfl | rfl | rfl | rfl | rfl | rfl | rfl | rfl | rfl | rfl | rfl | rfl | rfl | rfl | rfl
  · exact at_ _ _ hlt h0
  · exact aA (k := 2) (i := 0) hlt (by decide) a0
  · exact aA (k := 3) (i := 0) hlt (by decide) a1
  · exact aA (k := 4) (i := 0) hlt (by decide) a2
  · exact aA (k := 5) (i := 0) hlt (by decide) a3
  · exact aA (k := 6) (i := 0) hlt (by decide) a4
  · exact aA (k := 7) (i := 0) hlt (by decide) a5
  · exact aA (k := 8) (i := 0) hlt (by decide) a6
  · exact aA (k := 9) (i := 0) hlt (by decide) a7
  · exact aA (k := 10) (i := 0) hlt (by decide) a8
  · exact aA (k := 11) (i := 0) hlt (by decide) a9
  · exact aA (k := 12) (i := 0) hlt (by decide) a10
  · exact aA (k := 13) (i := 0) hlt (by decide) a11
  · exact aA (k := 14) (i := 0) hlt (by decide) a12
  · exact aA (k := 15) (i := 0) hlt (by decide) a13
  · exact aA (k := 16) (i := 0) hlt (by decide) a14
  · exact aA (k := 18) (i := 0) hlt (by decide) a15
  · exact aA (k := 20) (i := 0) hlt (by decide) a16
  · exact aA (k := 21) (i := 0) hlt (by decide) a17
  · exact aA (k := 22) (i := 0) hlt (by decide) a18
  · exact aA (k := 23) (i := 0) hlt (by decide) a19
  · exact aA (k := 24) (i := 0) hlt (by decide) a20
  · exact aA (k := 25) (i := 0) hlt (by decide) a21
  · exact aA (k := 26) (i := 0) hlt (by decide) a22
  · exact aA (k := 27) (i := 0) hlt (by decide) a23
