/-! one mathematical value for both programs: numbers; labels and values of the states; channels; notes -/
abbrev sg : Type := (Nat → Nat → Nat → Nat) × (Nat → Nat → Nat → Int32) × (Nat → Nat → List (Int32 × Int32)) × List pv_N
def sn_st (a : Nat → Nat → Nat → Nat) (k i j v : Nat) : Nat → Nat → Nat → Nat := fun k' i' j' => if k' = k ∧ i' = i ∧ j' = j then v else a k' i' j'
-- numbers: 0 involved in; 1 cohort; 2 awaited; 3 parent (0 none, p + 1); 4 decision; 5 instances begun; 6 down; 7 in a rollback; 8 made permanent; 9 rolled back; 10 all said yes; 11 the instance is a rollback
abbrev gI (g : sg) (p : Nat) : Nat := g.1 0 p 0
abbrev gC (g : sg) (p q : Nat) : Bool := g.1 1 p q == 1
abbrev gU (g : sg) (p q : Nat) : Bool := g.1 2 p q == 1
def gPa (g : sg) (p : Nat) : Option Nat := match g.1 3 p 0 with
  | 0 => none
  | r + 1 => some r
abbrev gDec (g : sg) (i : Nat) : Bool := !(g.1 4 i 0 == 0)
abbrev gInst (g : sg) : Nat := g.1 5 0 0
abbrev gJ (n w : Nat) (g : sg) (D N : List pv_N) : Prop := pv_J n (gI g) (gC g) (gU g) (gPa g) (gDec g) (gInst g) w D N
def s_num (g : sg) (k i j v : Nat) : sg := (sn_st g.1 k i j v, g.2)
def s_note (g : sg) (m : pv_N) : sg := (g.1, g.2.1, g.2.2.1, g.2.2.2 ++ [m])
def s_notes (g : sg) (l : List pv_N) : sg := (g.1, g.2.1, g.2.2.1, g.2.2.2 ++ l)
/-- state d becomes a copy of state c -/
def s_copy (g : sg) (d c : Nat) : sg := (g.1, fun k a b => if a = d then g.2.1 k c b else g.2.1 k a b, g.2.2)
def s_asks (g : sg) (p : Nat) (rb : Bool) (q : Nat) : Bool := decide (q ≠ p) && (rb || decide (g.2.1 2 (3 * p + 1) q < g.2.1 2 (3 * p) q))
def s_enter (n : Nat) (g : sg) (p i : Nat) (rb : Bool) (pa : Nat) : sg :=
  let g1 := if rb then g else s_copy g (3 * p + 2) (3 * p)
  (fun k a b =>
    if k = 0 ∧ a = p ∧ b = 0 then i
    else if k = 7 ∧ a = p ∧ b = 0 then rb.toNat
    else if k = 3 ∧ a = p ∧ b = 0 then pa
    else if k = 10 ∧ a = p ∧ b = 0 then 1
    else if (k = 1 ∨ k = 2) ∧ a = p then (decide (b < n) && s_asks g p rb b).toNat
    else g.1 k a b,
   g1.2.1, g.2.2.1, g.2.2.2 ++ pv_sends n 0 i p (s_asks g p rb) (fun q => if rb then g.2.1 1 (3 * p + 1) q else g.2.1 2 (3 * p) q))
def s_roll (n : Nat) (g : sg) (p : Nat) : sg :=
  (fun k a b => if k = 6 ∧ a = p ∧ b = 0 then 0 else if k = 9 ∧ a = p ∧ b = 0 then g.1 9 p 0 + 1 else g.1 k a b,
   (s_copy g (3 * p) (3 * p + 1)).2.1,
   fun a b => if a = p ∧ b < n then (g.2.2.1 a b).filter (fun m => decide (m.1 ≤ g.2.1 1 (3 * p + 1) b)) else g.2.2.1 a b,
   g.2.2.2)
def s_perm (g : sg) (p : Nat) : sg := s_num (s_copy g (3 * p + 1) (3 * p + 2)) 8 p 0 (g.1 8 p 0 + 1)
def s_follow (n : Nat) (g : sg) (p : Nat) (o : Int32) : sg :=
  let g1 := s_num (s_notes g (pv_sends n 2 (gI g p) p (gC g p) (fun _ => o))) 0 p 0 0
  if o = 1 then (if g.1 11 (gI g p) 0 = 1 then s_roll n g1 p else s_perm g1 p) else g1
def s_concl (n : Nat) (g : sg) (p : Nat) : sg :=
  if pv_op n (gU g) p then g
  else match g.1 3 p 0 with
    | r + 1 => s_note g (1, gI g p, p, r, nI (g.1 10 p 0))
    | 0 => s_follow n (s_num g 4 (gI g p) 0 (if g.1 10 p 0 = 1 then 1 else 2)) p (if g.1 10 p 0 = 1 then 1 else 2)
def s_concerned (g : sg) (b a : Nat) (rb : Bool) (x : Int32) : Bool := if rb then decide (x < g.2.1 2 (3 * b) a) else decide (g.2.1 1 (3 * b + 1) a < x)
def s_hear (n : Nat) (g : sg) (m : pv_N) : sg :=
  if m.1 = 0 then
    (if gI g m.2.2.2.1 = m.2.1 then s_note g (1, m.2.1, m.2.2.2.1, m.2.2.1, 1)
     else if gI g m.2.2.2.1 ≠ 0 then s_note g (1, m.2.1, m.2.2.2.1, m.2.2.1, 0)
     else if g.1 6 m.2.2.2.1 0 = 1 then s_note g (1, m.2.1, m.2.2.2.1, m.2.2.1, if g.1 11 m.2.1 0 = 1 then 1 else 0)
     else if s_concerned g m.2.2.2.1 m.2.2.1 (g.1 11 m.2.1 0 == 1) m.2.2.2.2 = false then s_note g (1, m.2.1, m.2.2.2.1, m.2.2.1, 1)
     else s_concl n (s_enter n g m.2.2.2.1 m.2.1 (g.1 11 m.2.1 0 == 1) (m.2.2.1 + 1)) m.2.2.2.1)
  else if m.1 = 1 then s_concl n (if m.2.2.2.2 = 0 then s_num (s_num g 2 m.2.2.2.1 m.2.2.1 0) 10 m.2.2.2.1 0 0 else s_num g 2 m.2.2.2.1 m.2.2.1 0) m.2.2.2.1
  else if gI g m.2.2.2.1 = m.2.1 then s_follow n g m.2.2.2.1 m.2.2.2.2 else g
/-- k notes are delivered, one behind another -/
def s_ticks (n : Nat) : Nat → sg → sg
  | 0, g => g
  | k + 1, g => match g.2.2.2 with
    | [] => g
    | m :: r => s_ticks n k (s_hear n (g.1, g.2.1, g.2.2.1, r) m)
def s_begin (n : Nat) (g : sg) (p : Nat) (rb : Bool) : sg :=
  s_concl n (s_enter n (s_num (s_num g 5 0 0 (gInst g + 1)) 11 (gInst g + 1) 0 rb.toNat) p (gInst g + 1) rb 0) p
