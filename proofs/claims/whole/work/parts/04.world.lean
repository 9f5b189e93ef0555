abbrev ec_G : Type := va_G × (Nat → ClassId)
abbrev ec_T (G : ec_G) : List (ClassId × FieldType) := [(G.2 0, .int), (G.2 1, .boolean), (G.2 2, .object "TwoPhaseCuts$Member"), (G.2 3, .object "TwoPhaseCuts$Channel"), (G.2 4, .object "TwoPhaseCuts$Note")]
def ec_cnt (n : Nat) : Nat → Nat := fun k => match k with
  | 0 => 1 | 1 => 1 | 2 => 1 | 3 => 1 | 4 => 1 | 5 => 1 | 6 => n | 7 => 3 * n | 8 => 3 * n | 9 => 3 * n | 10 => n | 11 => n * n | 12 => n * n | 13 => n * n | 14 => 1 | 15 => 4 * n * (n - 1)
  | _ => 0
def ec_E (G : ec_G) (L : mm_L) (n : Nat) : mm_E := fun k i r => match k with
  | 0 => .inr (0, [.int (r 0), .ref (L 1 0), .ref (L 2 0), .ref (L 3 0), .ref (L 4 0), .ref (L 5 0), .int (r 6)])
  | 1 => .inl (G.2 2, n, .inr (.inr (.inr (.inr (fun j => some (L 6 j))))))
  | 2 => .inl (G.2 3, n * n, .inr (.inr (.inr (.inr (fun j => some (L 11 j))))))
  | 3 => .inr (4, [.ref (L 14 0), .int (r 1), .int (r 2)])
  | 4 => .inl (G.2 1, 513, .inl r)
  | 5 => .inl (G.2 0, 513, .inl r)
  | 6 => .inr (1, [.ref (L 7 (3 * i)), .ref (L 7 (3 * i + 1)), .ref (L 7 (3 * i + 2)), .int (r 3), .int (r 4), .int (r 5), .int (r 6), .int (r 7), .int (r 8), .ref (L 10 i), .int (r 10), .int (r 11)])
  | 7 => .inr (2, [.int (r 0), .ref (L 8 i), .ref (L 9 i)])
  | 8 => .inl (G.2 0, n, .inl r)
  | 9 => .inl (G.2 0, n, .inl r)
  | 10 => .inl (G.2 1, n, .inl r)
  | 11 => .inr (3, [.ref (L 12 i), .ref (L 13 i), .int (r 2)])
  | 12 => .inl (G.2 0, 6, .inl r)
  | 13 => .inl (G.2 0, 6, .inl r)
  | 14 => .inl (G.2 4, 4 * n * (n - 1), .inr (.inr (.inr (.inr (fun j => some (L 15 j))))))
  | _ => .inr (5, [.int (r 0), .int (r 1), .int (r 2), .int (r 3), .int (r 4)])
theorem ec_h0 {n i : Nat} (h : i < ec_cnt n 6) : 3 * i < ec_cnt n 7 := by
  have h : i < n := h
  show 3 * i < 3 * n
  omega
theorem ec_h1 {n i : Nat} (h : i < ec_cnt n 6) : 3 * i + 1 < ec_cnt n 7 := by
  have h : i < n := h
  show 3 * i + 1 < 3 * n
  omega
theorem ec_h2 {n i : Nat} (h : i < ec_cnt n 6) : 3 * i + 2 < ec_cnt n 7 := by
  have h : i < n := h
  show 3 * i + 2 < 3 * n
  omega
def er_cnt (_ : Nat) : Nat → Nat := fun k => match k with
  | 0 => 1
  | 2 => 1
  | 3 => 1
  | 4 => 1
  | 5 => 1
  | 6 => 1
  | 7 => 1
  | 8 => 1
  | 9 => 1
  | 10 => 1
  | 11 => 1
  | 12 => 1
  | 13 => 1
  | 14 => 1
  | 15 => 1
  | 16 => 1
  | 18 => 1
  | 20 => 1
  | 21 => 1
  | 22 => 1
  | 23 => 1
  | 24 => 1
  | 25 => 1
  | 26 => 1
  | 27 => 1
  | _ => 0
def er_E (G : ec_G) (L : mm_L) (_ : Nat) : mm_E := fun k i r => match k with
  | 0 => .inr (6, [.int (r 0), .ref (L 2 0), .ref (L 3 0), .ref (L 4 0), .ref (L 5 0), .ref (L 6 0), .ref (L 7 0), .ref (L 8 0), .ref (L 9 0), .ref (L 10 0), .ref (L 11 0), .ref (L 12 0), .ref (L 13 0), .ref (L 14 0), .ref (L 15 0), .ref (L 16 0), .int (r 16), .ref (L 18 0), .int (r 18), .ref (L 20 0), .ref (L 21 0), .ref (L 22 0), .ref (L 23 0), .ref (L 24 0), .ref (L 25 0), .ref (L 26 0), .ref (L 27 0)])
  | 2 => .inl (G.2 0, 5, .inl r)
  | 3 => .inl (G.2 0, 2560, .inl r)
  | 4 => .inl (G.2 0, 2560, .inl r)
  | 5 => .inl (G.2 0, 2560, .inl r)
  | 6 => .inl (G.2 0, 2560, .inl r)
  | 7 => .inl (G.2 0, 5, .inl r)
  | 8 => .inl (G.2 0, 5, .inl r)
  | 9 => .inl (G.2 0, 25, .inl r)
  | 10 => .inl (G.2 1, 5, .inl r)
  | 11 => .inl (G.2 0, 5, .inl r)
  | 12 => .inl (G.2 1, 5, .inl r)
  | 13 => .inl (G.2 0, 5, .inl r)
  | 14 => .inl (G.2 0, 5, .inl r)
  | 15 => .inl (G.2 0, 5, .inl r)
  | 16 => .inl (G.2 0, 5, .inl r)
  | 18 => .inl (G.2 0, 520, .inl r)
  | 20 => .inl (G.2 0, 400, .inl r)
  | 21 => .inl (G.2 0, 400, .inl r)
  | 22 => .inl (G.2 0, 400, .inl r)
  | 23 => .inl (G.2 0, 400, .inl r)
  | 24 => .inl (G.2 1, 400, .inl r)
  | 25 => .inl (G.2 0, 400, .inl r)
  | 26 => .inl (G.2 0, 5, .inl r)
  | _ => .inl (G.2 0, 5, .inl r)
theorem mm_ne {x c : Int32} (h : ¬ x = c) : x.toInt ≠ c.toInt := fun e => h (Int32.toInt_inj.mp e)
theorem mm_out4 {x : Int32} (h0 : ¬ x = (0 : Int32)) (h1 : ¬ x = (1 : Int32)) (h2 : ¬ x = (2 : Int32)) (h3 : ¬ x = (3 : Int32)) : x.toInt < 0 ∨ 3 < x.toInt := by
  have e0 : x.toInt ≠ 0 := mm_ne h0
  have e1 : x.toInt ≠ 1 := mm_ne h1
  have e2 : x.toInt ≠ 2 := mm_ne h2
  have e3 : x.toInt ≠ 3 := mm_ne h3
  omega
theorem mm_lk2 {x : Int32} {a b d : Int} (h0 : ¬ x = (0 : Int32)) (h1 : ¬ x = (1 : Int32)) : Op.lookupswitch.offset [((0 : Int), a), ((1 : Int), b)] d x.toInt = d := by
  have e0 : ¬ (0 : Int) = x.toInt := fun e => mm_ne h0 e.symm
  have e1 : ¬ (1 : Int) = x.toInt := fun e => mm_ne h1 e.symm
  simp [Op.lookupswitch.offset, e0, e1]
