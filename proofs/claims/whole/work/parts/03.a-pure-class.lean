def f_H_put (F n : Nat) (σ : mm_M) (i0 : Nat) (a1 : Int32) (a2 : Int32) : Option mm_M :=
  Option.bind (if (6 : Int32) ≤ (σ 11 i0 2) then
  some σ
  else
  if mm_in (σ 11 i0 2) 6 then
  some (mm_st (mm_st (mm_st σ 12 i0 (Int32.toNatClampNeg (σ 11 i0 2)) a1) 13 i0 (Int32.toNatClampNeg (σ 11 i0 2)) a2) 11 i0 2 ((σ 11 i0 2) + (1 : Int32)))
  else none) fun u1 =>
  some u1
def f_H_takeFirst_l2 (F n : Nat) (i0 : Nat) : Nat → mm_M → Int32 → Option mm_M
  | 0, _, _ => none
  | K + 1, σ, v1 =>
    if (σ 11 i0 2) ≤ v1 then
    some σ
    else
    if mm_in v1 6 then
    if mm_in (v1 - (1 : Int32)) 6 then
    f_H_takeFirst_l2 F n i0 K (mm_st (mm_st σ 12 i0 (Int32.toNatClampNeg (v1 - (1 : Int32))) (σ 12 i0 (Int32.toNatClampNeg v1))) 13 i0 (Int32.toNatClampNeg (v1 - (1 : Int32))) (σ 13 i0 (Int32.toNatClampNeg v1))) (v1 + (1 : Int32))
    else none
    else none
def f_H_takeFirst (F n : Nat) (σ : mm_M) (i0 : Nat) : Option mm_M :=
  Option.bind (f_H_takeFirst_l2 F n i0 F σ (1 : Int32)) fun u1 =>
  some (mm_st u1 11 i0 2 (if (0 : Int32) < ((u1 11 i0 2) - (1 : Int32)) then ((u1 11 i0 2) - (1 : Int32)) else (0 : Int32)))
def f_H_takeAbove_l4 (F n : Nat) (i0 : Nat) (x1 : Int32) : Nat → mm_M → Int32 → Int32 → Option (mm_M × Int32)
  | 0, _, _, _ => none
  | K + 1, σ, v2, v3 =>
    if (σ 11 i0 2) ≤ v3 then
    some (σ, v2)
    else
    if mm_in v3 6 then
    Option.bind (if x1 < (σ 12 i0 (Int32.toNatClampNeg v3)) then
    some (σ, v2)
    else
    if mm_in v2 6 then
    some ((mm_st (mm_st σ 12 i0 (Int32.toNatClampNeg v2) (σ 12 i0 (Int32.toNatClampNeg v3))) 13 i0 (Int32.toNatClampNeg v2) (σ 13 i0 (Int32.toNatClampNeg v3))), (v2 + (1 : Int32)))
    else none) fun u1 =>
    f_H_takeAbove_l4 F n i0 x1 K u1.1 u1.2 (v3 + (1 : Int32))
    else none
def f_H_takeAbove (F n : Nat) (σ : mm_M) (i0 : Nat) (a1 : Int32) : Option mm_M :=
  Option.bind (f_H_takeAbove_l4 F n i0 a1 F σ (0 : Int32) (0 : Int32)) fun u1 =>
  some (mm_st u1.1 11 i0 2 u1.2)
def f_S_copyFrom_l10 (F n : Nat) (i0 : Nat) (i1 : Nat) : Nat → mm_M → Int32 → Option mm_M
  | 0, _, _ => none
  | K + 1, σ, v2 =>
    if (nI n) ≤ v2 then
    some σ
    else
    if mm_in v2 n then
    f_S_copyFrom_l10 F n i0 i1 K (mm_st (mm_st σ 8 i0 (Int32.toNatClampNeg v2) (σ 8 i1 (Int32.toNatClampNeg v2))) 9 i0 (Int32.toNatClampNeg v2) (σ 9 i1 (Int32.toNatClampNeg v2))) (v2 + (1 : Int32))
    else none
def f_S_copyFrom (F n : Nat) (σ : mm_M) (i0 : Nat) (i1 : Nat) : Option mm_M :=
  Option.bind (f_S_copyFrom_l10 F n i0 i1 F (mm_st σ 7 i0 0 (σ 7 i1 0)) (0 : Int32)) fun u1 =>
  some u1
def f_M_isInvolved (F n : Nat) (σ : mm_M) (i0 : Nat) : Option Int32 :=
  Option.bind (if (σ 6 i0 6) = (0 : Int32) then
  some (0 : Int32)
  else
  some (1 : Int32)) fun u1 =>
  if mm_z u1 then
  some u1
  else none
def f_M_isInRollback (F n : Nat) (σ : mm_M) (i0 : Nat) : Option Int32 :=
  Option.bind (f_M_isInvolved F n σ i0) fun u1 =>
  Option.bind (if u1 = (0 : Int32) then
  some (0 : Int32)
  else
  if (σ 6 i0 7) = (0 : Int32) then
  some (0 : Int32)
  else
  some (1 : Int32)) fun u2 =>
  if mm_z u2 then
  some u2
  else none
def f_M_hasNewReceiptFrom (F n : Nat) (σ : mm_M) (i0 : Nat) (a1 : Int32) : Option Int32 :=
  if mm_in a1 n then
  Option.bind (if (σ 9 (3 * i0) (Int32.toNatClampNeg a1)) ≤ (σ 9 (3 * i0 + 1) (Int32.toNatClampNeg a1)) then
  some (0 : Int32)
  else
  some (1 : Int32)) fun u1 =>
  if mm_z u1 then
  some u1
  else none
  else none
def f_M_isConcerned (F n : Nat) (σ : mm_M) (i0 : Nat) (a1 : Int32) (a2 : Int32) (a3 : Int32) : Option Int32 :=
  Option.bind (if a1 = (0 : Int32) then
  if mm_in a2 n then
  if a3 ≤ (σ 8 (3 * i0 + 1) (Int32.toNatClampNeg a2)) then
  some (0 : Int32)
  else
  some (1 : Int32)
  else none
  else
  if mm_in a2 n then
  if (σ 9 (3 * i0) (Int32.toNatClampNeg a2)) ≤ a3 then
  some (0 : Int32)
  else
  some (1 : Int32)
  else none) fun u1 =>
  if mm_z u1 then
  some u1
  else none
def f_M_enter (F n : Nat) (σ : mm_M) (i0 : Nat) (a1 : Int32) (a2 : Int32) (a3 : Int32) : Option mm_M :=
  if mm_z a2 then
  some (mm_st (mm_st (mm_st (mm_st (mm_st σ 6 i0 6 a1) 6 i0 7 a2) 6 i0 8 a3) 6 i0 10 (0 : Int32)) 6 i0 11 (1 : Int32))
  else none
def f_M_makePermanent (F n : Nat) (σ : mm_M) (i0 : Nat) : Option mm_M :=
  Option.bind (f_S_copyFrom F n σ (3 * i0 + 1) (3 * i0 + 2)) fun u1 =>
  some (mm_st u1 6 i0 4 ((u1 6 i0 4) + (1 : Int32)))
def f_L_wrapped (F n : Nat) (σ : mm_M) (a1 : Int32) : Option Int32 :=
  Option.bind (if (nI (4 * n * (n - 1))) ≤ a1 then
  some (a1 - (nI (4 * n * (n - 1))))
  else
  some a1) fun u1 =>
  some u1
def f_L_add (F n : Nat) (σ : mm_M) (a1 : Int32) (a2 : Int32) (a3 : Int32) (a4 : Int32) (a5 : Int32) : Option mm_M :=
  if (σ 3 0 2) < (nI (4 * n * (n - 1))) then
  Option.bind (f_L_wrapped F n σ ((σ 3 0 1) + (σ 3 0 2))) fun u1 =>
  if mm_in u1 (4 * n * (n - 1)) then
  some (mm_st (mm_st (mm_st (mm_st (mm_st (mm_st σ 15 (Int32.toNatClampNeg u1) 0 a1) 15 (Int32.toNatClampNeg u1) 1 a2) 15 (Int32.toNatClampNeg u1) 2 a3) 15 (Int32.toNatClampNeg u1) 3 a4) 15 (Int32.toNatClampNeg u1) 4 a5) 3 0 2 ((σ 3 0 2) + (1 : Int32)))
  else none
  else
  some σ
def f_L_first (F n : Nat) (σ : mm_M) : Option Nat :=
  if mm_in (σ 3 0 1) (4 * n * (n - 1)) then
  some (Int32.toNatClampNeg (σ 3 0 1))
  else none
def f_L_takeFirst (F n : Nat) (σ : mm_M) : Option mm_M :=
  Option.bind (if (σ 3 0 2) ≤ (0 : Int32) then
  some σ
  else
  Option.bind (f_L_wrapped F n σ ((σ 3 0 1) + (1 : Int32))) fun u2 =>
  some (mm_st (mm_st σ 3 0 1 u2) 3 0 2 ((σ 3 0 2) - (1 : Int32)))) fun u1 =>
  some u1
def f_X_isProcess (F n : Nat) (σ : mm_M) (a1 : Int32) : Option Int32 :=
  Option.bind (if a1 < (0 : Int32) then
  some (0 : Int32)
  else
  if (σ 0 0 0) ≤ a1 then
  some (0 : Int32)
  else
  some (1 : Int32)) fun u1 =>
  if mm_z u1 then
  some u1
  else none
def f_X_work (F n : Nat) (σ : mm_M) (a1 : Int32) (a2 : Int32) : Option (Int32 × mm_M) :=
  Option.bind (f_X_isProcess F n σ a1) fun u1 =>
  if u1 = (0 : Int32) then
  some ((-1 : Int32), σ)
  else
  if mm_in a1 n then
  if (σ 6 (Int32.toNatClampNeg a1) 3) = (0 : Int32) then
  Option.bind (f_M_isInRollback F n σ (Int32.toNatClampNeg a1)) fun u2 =>
  if u2 = (0 : Int32) then
  some ((0 : Int32), (mm_st σ 7 (3 * (Int32.toNatClampNeg a1)) 0 (((31 : Int32) * (σ 7 (3 * (Int32.toNatClampNeg a1)) 0)) + a2)))
  else
  some ((-3 : Int32), σ)
  else
  some ((-2 : Int32), σ)
  else none
def f_X_isChannel (F n : Nat) (σ : mm_M) (a1 : Int32) (a2 : Int32) : Option Int32 :=
  Option.bind (f_X_isProcess F n σ a1) fun u1 =>
  Option.bind (if u1 = (0 : Int32) then
  some (0 : Int32)
  else
  Option.bind (f_X_isProcess F n σ a2) fun u3 =>
  if u3 = (0 : Int32) then
  some (0 : Int32)
  else
  if a1 = a2 then
  some (0 : Int32)
  else
  some (1 : Int32)) fun u2 =>
  if mm_z u2 then
  some u2
  else none
def f_X_channelOf (F n : Nat) (σ : mm_M) (a1 : Int32) (a2 : Int32) : Option Nat :=
  if mm_in ((a1 * (σ 0 0 0)) + a2) (n * n) then
  some (Int32.toNatClampNeg ((a1 * (σ 0 0 0)) + a2))
  else none
def f_X_send (F n : Nat) (σ : mm_M) (a1 : Int32) (a2 : Int32) : Option (Int32 × mm_M) :=
  Option.bind (f_X_isChannel F n σ a1 a2) fun u1 =>
  if u1 = (0 : Int32) then
  some ((-1 : Int32), σ)
  else
  if mm_in a1 n then
  if (σ 6 (Int32.toNatClampNeg a1) 3) = (0 : Int32) then
  Option.bind (f_M_isInvolved F n σ (Int32.toNatClampNeg a1)) fun u2 =>
  if u2 = (0 : Int32) then
  Option.bind (f_X_channelOf F n σ a1 a2) fun u3 =>
  if (σ 11 u3 2) < (6 : Int32) then
  if mm_in a2 n then
  Option.bind (f_H_put F n (mm_st σ 8 (3 * (Int32.toNatClampNeg a1)) (Int32.toNatClampNeg a2) ((σ 8 (3 * (Int32.toNatClampNeg a1)) (Int32.toNatClampNeg a2)) + (1 : Int32))) u3 ((mm_st σ 8 (3 * (Int32.toNatClampNeg a1)) (Int32.toNatClampNeg a2) ((σ 8 (3 * (Int32.toNatClampNeg a1)) (Int32.toNatClampNeg a2)) + (1 : Int32))) 8 (3 * (Int32.toNatClampNeg a1)) (Int32.toNatClampNeg a2)) (σ 7 (3 * (Int32.toNatClampNeg a1)) 0)) fun u4 =>
  some ((u4 8 (3 * (Int32.toNatClampNeg a1)) (Int32.toNatClampNeg a2)), u4)
  else none
  else
  some ((-4 : Int32), σ)
  else
  some ((-3 : Int32), σ)
  else
  some ((-2 : Int32), σ)
  else none
def f_X_receive (F n : Nat) (σ : mm_M) (a1 : Int32) (a2 : Int32) : Option (Int32 × mm_M) :=
  Option.bind (f_X_isChannel F n σ a1 a2) fun u1 =>
  if u1 = (0 : Int32) then
  some ((-1 : Int32), σ)
  else
  if mm_in a1 n then
  if mm_in a2 n then
  if (σ 6 (Int32.toNatClampNeg a2) 3) = (0 : Int32) then
  Option.bind (f_M_isInRollback F n σ (Int32.toNatClampNeg a2)) fun u2 =>
  if u2 = (0 : Int32) then
  if (σ 6 (Int32.toNatClampNeg a1) 3) = (0 : Int32) then
  Option.bind (f_M_isInRollback F n σ (Int32.toNatClampNeg a1)) fun u3 =>
  if u3 = (0 : Int32) then
  Option.bind (f_X_channelOf F n σ a1 a2) fun u4 =>
  if (σ 11 u4 2) = (0 : Int32) then
  some ((-4 : Int32), σ)
  else
  if mm_in (0 : Int32) 6 then
  Option.bind (f_H_takeFirst F n (mm_st (mm_st σ 9 (3 * (Int32.toNatClampNeg a2)) (Int32.toNatClampNeg a1) (σ 12 u4 (Int32.toNatClampNeg (0 : Int32)))) 7 (3 * (Int32.toNatClampNeg a2)) 0 ((((17 : Int32) * (σ 7 (3 * (Int32.toNatClampNeg a2)) 0)) + (σ 13 u4 (Int32.toNatClampNeg (0 : Int32)))) + (1 : Int32))) u4) fun u5 =>
  some ((σ 12 u4 (Int32.toNatClampNeg (0 : Int32))), u5)
  else none
  else
  some ((-3 : Int32), σ)
  else
  some ((-3 : Int32), σ)
  else
  some ((-3 : Int32), σ)
  else
  some ((-2 : Int32), σ)
  else none
  else none
def f_X_lose (F n : Nat) (σ : mm_M) (a1 : Int32) (a2 : Int32) : Option (Int32 × mm_M) :=
  Option.bind (f_X_isChannel F n σ a1 a2) fun u1 =>
  if u1 = (0 : Int32) then
  some ((-1 : Int32), σ)
  else
  Option.bind (f_X_channelOf F n σ a1 a2) fun u2 =>
  if (σ 11 u2 2) = (0 : Int32) then
  some ((-4 : Int32), σ)
  else
  if mm_in (0 : Int32) 6 then
  Option.bind (f_H_takeFirst F n σ u2) fun u3 =>
  some ((σ 12 u2 (Int32.toNatClampNeg (0 : Int32))), u3)
  else none
def f_X_join_l46 (F n : Nat) (x1 : Int32) (x2 : Int32) (i4 : Nat) (x5 : Int32) : Nat → mm_M → Int32 → Option mm_M
  | 0, _, _ => none
  | K + 1, σ, v6 =>
    if (σ 0 0 0) ≤ v6 then
    some σ
    else
    Option.bind (if v6 = x1 then
    some (0 : Int32)
    else
    if x5 = (0 : Int32) then
    Option.bind (f_M_hasNewReceiptFrom F n σ i4 v6) fun u5 =>
    if u5 = (0 : Int32) then
    some (0 : Int32)
    else
    some (1 : Int32)
    else
    some (1 : Int32)) fun u1 =>
    if mm_in v6 n then
    if mm_z u1 then
    Option.bind (if ((mm_st σ 10 i4 (Int32.toNatClampNeg v6) u1) 10 i4 (Int32.toNatClampNeg v6)) = (0 : Int32) then
    some (mm_st σ 10 i4 (Int32.toNatClampNeg v6) u1)
    else
    Option.bind (if x5 = (0 : Int32) then
    some (σ 9 (3 * i4) (Int32.toNatClampNeg v6))
    else
    some (σ 8 (3 * i4 + 1) (Int32.toNatClampNeg v6))) fun u3 =>
    Option.bind (f_L_add F n (mm_st (mm_st σ 10 i4 (Int32.toNatClampNeg v6) u1) 6 i4 10 ((σ 6 i4 10) + (1 : Int32))) (0 : Int32) x2 x1 v6 u3) fun u4 =>
    some u4) fun u2 =>
    f_X_join_l46 F n x1 x2 i4 x5 K u2 (v6 + (1 : Int32))
    else none
    else none
def f_X_join (F n : Nat) (σ : mm_M) (a1 : Int32) (a2 : Int32) (a3 : Int32) : Option mm_M :=
  if mm_in a1 n then
  if mm_in a2 513 then
  Option.bind (f_M_enter F n σ (Int32.toNatClampNeg a1) a2 (σ 4 0 (Int32.toNatClampNeg a2)) a3) fun u1 =>
  Option.bind (if (σ 4 0 (Int32.toNatClampNeg a2)) = (0 : Int32) then
  Option.bind (f_S_copyFrom F n u1 (3 * (Int32.toNatClampNeg a1) + 2) (3 * (Int32.toNatClampNeg a1))) fun u4 =>
  some u4
  else
  some u1) fun u2 =>
  Option.bind (f_X_join_l46 F n a1 a2 (Int32.toNatClampNeg a1) (σ 4 0 (Int32.toNatClampNeg a2)) F u2 (0 : Int32)) fun u3 =>
  some u3
  else none
  else none
def f_X_rollBack_l20 (F n : Nat) (x1 : Int32) (i2 : Nat) : Nat → mm_M → Int32 → Option mm_M
  | 0, _, _ => none
  | K + 1, σ, v3 =>
    if (σ 0 0 0) ≤ v3 then
    some σ
    else
    Option.bind (f_X_channelOf F n σ x1 v3) fun u1 =>
    if mm_in v3 n then
    Option.bind (f_H_takeAbove F n σ u1 (σ 8 (3 * i2) (Int32.toNatClampNeg v3))) fun u2 =>
    f_X_rollBack_l20 F n x1 i2 K u2 (v3 + (1 : Int32))
    else none
def f_X_rollBack (F n : Nat) (σ : mm_M) (a1 : Int32) : Option mm_M :=
  if mm_in a1 n then
  Option.bind (f_S_copyFrom F n σ (3 * (Int32.toNatClampNeg a1)) (3 * (Int32.toNatClampNeg a1) + 1)) fun u1 =>
  Option.bind (f_X_rollBack_l20 F n a1 (Int32.toNatClampNeg a1) F u1 (0 : Int32)) fun u2 =>
  some (mm_st (mm_st u2 6 (Int32.toNatClampNeg a1) 3 (0 : Int32)) 6 (Int32.toNatClampNeg a1) 5 (((mm_st u2 6 (Int32.toNatClampNeg a1) 3 (0 : Int32)) 6 (Int32.toNatClampNeg a1) 5) + (1 : Int32)))
  else none
def f_X_follow_l16 (F n : Nat) (x1 : Int32) (x2 : Int32) (i3 : Nat) (x4 : Int32) : Nat → mm_M → Int32 → Option mm_M
  | 0, _, _ => none
  | K + 1, σ, v5 =>
    if (σ 0 0 0) ≤ v5 then
    some σ
    else
    if mm_in v5 n then
    Option.bind (if (σ 10 i3 (Int32.toNatClampNeg v5)) = (0 : Int32) then
    some σ
    else
    Option.bind (f_L_add F n σ (2 : Int32) x4 x1 v5 x2) fun u2 =>
    some u2) fun u1 =>
    f_X_follow_l16 F n x1 x2 i3 x4 K u1 (v5 + (1 : Int32))
    else none
def f_X_follow (F n : Nat) (σ : mm_M) (a1 : Int32) (a2 : Int32) : Option mm_M :=
  if mm_in a1 n then
  Option.bind (f_X_follow_l16 F n a1 a2 (Int32.toNatClampNeg a1) (σ 6 (Int32.toNatClampNeg a1) 6) F σ (0 : Int32)) fun u1 =>
  Option.bind (if a2 = (1 : Int32) then
  if mm_in (σ 6 (Int32.toNatClampNeg a1) 6) 513 then
  if (u1 4 0 (Int32.toNatClampNeg (σ 6 (Int32.toNatClampNeg a1) 6))) = (0 : Int32) then
  Option.bind (f_M_makePermanent F n (mm_st u1 6 (Int32.toNatClampNeg a1) 6 (0 : Int32)) (Int32.toNatClampNeg a1)) fun u3 =>
  some u3
  else
  Option.bind (f_X_rollBack F n (mm_st u1 6 (Int32.toNatClampNeg a1) 6 (0 : Int32)) a1) fun u4 =>
  some u4
  else none
  else
  some (mm_st u1 6 (Int32.toNatClampNeg a1) 6 (0 : Int32))) fun u2 =>
  some u2
  else none
def f_X_concludeWhenAnswered (F n : Nat) (σ : mm_M) (a1 : Int32) : Option mm_M :=
  if mm_in a1 n then
  if (σ 6 (Int32.toNatClampNeg a1) 10) ≤ (0 : Int32) then
  if (σ 6 (Int32.toNatClampNeg a1) 8) = (-1 : Int32) then
  Option.bind (if (σ 6 (Int32.toNatClampNeg a1) 11) = (0 : Int32) then
  some (2 : Int32)
  else
  some (1 : Int32)) fun u1 =>
  if mm_in (σ 6 (Int32.toNatClampNeg a1) 6) 513 then
  Option.bind (f_X_follow F n (mm_st σ 5 0 (Int32.toNatClampNeg (σ 6 (Int32.toNatClampNeg a1) 6)) u1) a1 u1) fun u2 =>
  some u2
  else none
  else
  Option.bind (if (σ 6 (Int32.toNatClampNeg a1) 11) = (0 : Int32) then
  some (0 : Int32)
  else
  some (1 : Int32)) fun u3 =>
  Option.bind (f_L_add F n σ (1 : Int32) (σ 6 (Int32.toNatClampNeg a1) 6) a1 (σ 6 (Int32.toNatClampNeg a1) 8) u3) fun u4 =>
  some u4
  else
  some σ
  else none
def f_X_begin (F n : Nat) (σ : mm_M) (a1 : Int32) (a2 : Int32) : Option (Int32 × mm_M) :=
  if (σ 0 0 6) < (512 : Int32) then
  if mm_in ((σ 0 0 6) + (1 : Int32)) 513 then
  if mm_z a2 then
  Option.bind (f_X_join F n (mm_st (mm_st σ 0 0 6 ((σ 0 0 6) + (1 : Int32))) 4 0 (Int32.toNatClampNeg ((σ 0 0 6) + (1 : Int32))) a2) a1 ((σ 0 0 6) + (1 : Int32)) (-1 : Int32)) fun u1 =>
  Option.bind (f_X_concludeWhenAnswered F n u1 a1) fun u2 =>
  some (((σ 0 0 6) + (1 : Int32)), u2)
  else none
  else none
  else
  some ((-3 : Int32), σ)
def f_X_checkpoint (F n : Nat) (σ : mm_M) (a1 : Int32) : Option (Int32 × mm_M) :=
  Option.bind (f_X_isProcess F n σ a1) fun u1 =>
  if u1 = (0 : Int32) then
  some ((-1 : Int32), σ)
  else
  if mm_in a1 n then
  if (σ 6 (Int32.toNatClampNeg a1) 3) = (0 : Int32) then
  Option.bind (f_M_isInvolved F n σ (Int32.toNatClampNeg a1)) fun u2 =>
  if u2 = (0 : Int32) then
  Option.bind (f_X_begin F n σ a1 (0 : Int32)) fun u3 =>
  some (u3.1, u3.2)
  else
  some ((-3 : Int32), σ)
  else
  some ((-2 : Int32), σ)
  else none
def f_X_crash (F n : Nat) (σ : mm_M) (a1 : Int32) : Option (Int32 × mm_M) :=
  Option.bind (f_X_isProcess F n σ a1) fun u1 =>
  if u1 = (0 : Int32) then
  some ((-1 : Int32), σ)
  else
  if mm_in a1 n then
  if (σ 6 (Int32.toNatClampNeg a1) 3) = (0 : Int32) then
  Option.bind (f_M_isInvolved F n σ (Int32.toNatClampNeg a1)) fun u2 =>
  if u2 = (0 : Int32) then
  some ((0 : Int32), (mm_st σ 6 (Int32.toNatClampNeg a1) 3 (1 : Int32)))
  else
  some ((-3 : Int32), σ)
  else
  some ((-2 : Int32), σ)
  else none
def f_X_restart (F n : Nat) (σ : mm_M) (a1 : Int32) : Option (Int32 × mm_M) :=
  Option.bind (f_X_isProcess F n σ a1) fun u1 =>
  if u1 = (0 : Int32) then
  some ((-1 : Int32), σ)
  else
  if mm_in a1 n then
  if (σ 6 (Int32.toNatClampNeg a1) 3) = (0 : Int32) then
  some ((-2 : Int32), σ)
  else
  Option.bind (f_M_isInvolved F n σ (Int32.toNatClampNeg a1)) fun u2 =>
  if u2 = (0 : Int32) then
  Option.bind (f_X_begin F n σ a1 (1 : Int32)) fun u3 =>
  some (u3.1, u3.2)
  else
  some ((-3 : Int32), σ)
  else none
def f_X_reply (F n : Nat) (σ : mm_M) (i1 : Nat) (a2 : Int32) : Option mm_M :=
  Option.bind (f_L_add F n σ (1 : Int32) (σ 15 i1 1) (σ 15 i1 3) (σ 15 i1 2) a2) fun u1 =>
  some u1
def f_X_hearRequest (F n : Nat) (σ : mm_M) (i1 : Nat) : Option mm_M :=
  if mm_in (σ 15 i1 3) n then
  if mm_in (σ 15 i1 1) 513 then
  Option.bind (if (σ 6 (Int32.toNatClampNeg (σ 15 i1 3)) 6) = (σ 15 i1 1) then
  Option.bind (f_X_reply F n σ i1 (1 : Int32)) fun u10 =>
  some u10
  else
  Option.bind (f_M_isInvolved F n σ (Int32.toNatClampNeg (σ 15 i1 3))) fun u2 =>
  if u2 = (0 : Int32) then
  if (σ 6 (Int32.toNatClampNeg (σ 15 i1 3)) 3) = (0 : Int32) then
  Option.bind (f_M_isConcerned F n σ (Int32.toNatClampNeg (σ 15 i1 3)) (σ 4 0 (Int32.toNatClampNeg (σ 15 i1 1))) (σ 15 i1 2) (σ 15 i1 4)) fun u3 =>
  if u3 = (0 : Int32) then
  Option.bind (f_X_reply F n σ i1 (1 : Int32)) fun u6 =>
  some u6
  else
  Option.bind (f_X_join F n σ (σ 15 i1 3) (σ 15 i1 1) (σ 15 i1 2)) fun u4 =>
  Option.bind (f_X_concludeWhenAnswered F n u4 (u4 15 i1 3)) fun u5 =>
  some u5
  else
  Option.bind (if (σ 4 0 (Int32.toNatClampNeg (σ 15 i1 1))) = (0 : Int32) then
  some (0 : Int32)
  else
  some (1 : Int32)) fun u7 =>
  Option.bind (f_X_reply F n σ i1 u7) fun u8 =>
  some u8
  else
  Option.bind (f_X_reply F n σ i1 (0 : Int32)) fun u9 =>
  some u9) fun u1 =>
  some u1
  else none
  else none
def f_X_hearAnswer (F n : Nat) (σ : mm_M) (i1 : Nat) : Option mm_M :=
  if mm_in (σ 15 i1 3) n then
  Option.bind (if (σ 15 i1 4) = (0 : Int32) then
  some (mm_st (mm_st σ 6 (Int32.toNatClampNeg (σ 15 i1 3)) 10 ((σ 6 (Int32.toNatClampNeg (σ 15 i1 3)) 10) - (1 : Int32))) 6 (Int32.toNatClampNeg (σ 15 i1 3)) 11 (0 : Int32))
  else
  some (mm_st σ 6 (Int32.toNatClampNeg (σ 15 i1 3)) 10 ((σ 6 (Int32.toNatClampNeg (σ 15 i1 3)) 10) - (1 : Int32)))) fun u1 =>
  Option.bind (f_X_concludeWhenAnswered F n u1 (u1 15 i1 3)) fun u2 =>
  some u2
  else none
def f_X_hearDecision (F n : Nat) (σ : mm_M) (i1 : Nat) : Option mm_M :=
  if mm_in (σ 15 i1 3) n then
  Option.bind (if (σ 6 (Int32.toNatClampNeg (σ 15 i1 3)) 6) = (σ 15 i1 1) then
  Option.bind (f_X_follow F n σ (σ 15 i1 3) (σ 15 i1 4)) fun u2 =>
  some u2
  else
  some σ) fun u1 =>
  some u1
  else none
def f_X_deliver (F n : Nat) (σ : mm_M) (i1 : Nat) : Option mm_M :=
  Option.bind (if (σ 15 i1 0) = (0 : Int32) then
  Option.bind (f_X_hearRequest F n σ i1) fun u2 =>
  some u2
  else
  if (σ 15 i1 0) = (1 : Int32) then
  Option.bind (f_X_hearAnswer F n σ i1) fun u3 =>
  some u3
  else
  Option.bind (f_X_hearDecision F n σ i1) fun u4 =>
  some u4) fun u1 =>
  some u1
def f_X_tick_l10 (F n : Nat) (x1 : Int32) : Nat → mm_M → Int32 → Option mm_M
  | 0, _, _ => none
  | K + 1, σ, v2 =>
    if x1 ≤ v2 then
    some σ
    else
    Option.bind (f_L_first F n σ) fun u1 =>
    Option.bind (f_X_deliver F n σ u1) fun u2 =>
    Option.bind (f_L_takeFirst F n u2) fun u3 =>
    f_X_tick_l10 F n x1 K u3 (v2 + (1 : Int32))
def f_X_tick (F n : Nat) (σ : mm_M) : Option (Int32 × mm_M) :=
  Option.bind (f_X_tick_l10 F n (σ 3 0 2) F σ (0 : Int32)) fun u1 =>
  some ((σ 3 0 2), u1)
def f_X_value (F n : Nat) (σ : mm_M) (a1 : Int32) : Option Int32 :=
  Option.bind (f_X_isProcess F n σ a1) fun u1 =>
  Option.bind (if u1 = (0 : Int32) then
  some (0 : Int32)
  else
  if mm_in a1 n then
  some (σ 7 (3 * (Int32.toNatClampNeg a1)) 0)
  else none) fun u2 =>
  some u2
def f_X_kept (F n : Nat) (σ : mm_M) (a1 : Int32) : Option Int32 :=
  Option.bind (f_X_isProcess F n σ a1) fun u1 =>
  Option.bind (if u1 = (0 : Int32) then
  some (0 : Int32)
  else
  if mm_in a1 n then
  some (σ 7 (3 * (Int32.toNatClampNeg a1) + 1) 0)
  else none) fun u2 =>
  some u2
def f_X_label (F n : Nat) (σ : mm_M) (a1 : Int32) (a2 : Int32) (a3 : Int32) : Option Int32 :=
  Option.bind (f_X_isChannel F n σ a1 a2) fun u1 =>
  if u1 = (0 : Int32) then
  some (-1 : Int32)
  else
  if a3 = (0 : Int32) then
  if mm_in a1 n then
  if mm_in a2 n then
  some (σ 8 (3 * (Int32.toNatClampNeg a1)) (Int32.toNatClampNeg a2))
  else none
  else none
  else
  if a3 = (1 : Int32) then
  if mm_in a1 n then
  if mm_in a2 n then
  some (σ 9 (3 * (Int32.toNatClampNeg a1)) (Int32.toNatClampNeg a2))
  else none
  else none
  else
  if a3 = (2 : Int32) then
  if mm_in a1 n then
  if mm_in a2 n then
  some (σ 8 (3 * (Int32.toNatClampNeg a1) + 1) (Int32.toNatClampNeg a2))
  else none
  else none
  else
  if a3 = (3 : Int32) then
  if mm_in a1 n then
  if mm_in a2 n then
  some (σ 9 (3 * (Int32.toNatClampNeg a1) + 1) (Int32.toNatClampNeg a2))
  else none
  else none
  else
  some (-1 : Int32)
def f_X_waiting (F n : Nat) (σ : mm_M) (a1 : Int32) (a2 : Int32) : Option Int32 :=
  Option.bind (f_X_isChannel F n σ a1 a2) fun u1 =>
  Option.bind (if u1 = (0 : Int32) then
  some (-1 : Int32)
  else
  Option.bind (f_X_channelOf F n σ a1 a2) fun u3 =>
  some (σ 11 u3 2)) fun u2 =>
  some u2
def f_X_down (F n : Nat) (σ : mm_M) (a1 : Int32) : Option Int32 :=
  Option.bind (f_X_isProcess F n σ a1) fun u1 =>
  Option.bind (if u1 = (0 : Int32) then
  some (0 : Int32)
  else
  if mm_in a1 n then
  if (σ 6 (Int32.toNatClampNeg a1) 3) = (0 : Int32) then
  some (0 : Int32)
  else
  some (1 : Int32)
  else none) fun u2 =>
  if mm_z u2 then
  some u2
  else none
def f_X_instance (F n : Nat) (σ : mm_M) (a1 : Int32) : Option Int32 :=
  Option.bind (f_X_isProcess F n σ a1) fun u1 =>
  Option.bind (if u1 = (0 : Int32) then
  some (-1 : Int32)
  else
  if mm_in a1 n then
  some (σ 6 (Int32.toNatClampNeg a1) 6)
  else none) fun u2 =>
  some u2
def f_X_decision (F n : Nat) (σ : mm_M) (a1 : Int32) : Option Int32 :=
  Option.bind (if a1 < (1 : Int32) then
  some (-1 : Int32)
  else
  if (σ 0 0 6) < a1 then
  some (-1 : Int32)
  else
  if mm_in a1 513 then
  some (σ 5 0 (Int32.toNatClampNeg a1))
  else none) fun u1 =>
  some u1
def f_X_notes (F n : Nat) (σ : mm_M) : Option Int32 :=
  some (σ 3 0 2)
def f_X_times (F n : Nat) (σ : mm_M) (a1 : Int32) (a2 : Int32) : Option Int32 :=
  Option.bind (f_X_isProcess F n σ a1) fun u1 =>
  if u1 = (0 : Int32) then
  some (-1 : Int32)
  else
  if a2 = (0 : Int32) then
  if mm_in a1 n then
  some (σ 6 (Int32.toNatClampNeg a1) 4)
  else none
  else
  if a2 = (1 : Int32) then
  if mm_in a1 n then
  some (σ 6 (Int32.toNatClampNeg a1) 5)
  else none
  else
  some (-1 : Int32)
