def f_R_is (F n : Nat) (σ : mm_M) (a1 : Int32) : Option Int32 :=
  Option.bind (if a1 < (0 : Int32) then
  some (0 : Int32)
  else
  if (σ 0 0 0) ≤ a1 then
  some (0 : Int32)
  else
  some (1 : Int32)) fun u1 =>
  if mm_z u1 then
  some u1
  else none
def f_R_pair (F n : Nat) (σ : mm_M) (a1 : Int32) (a2 : Int32) : Option Int32 :=
  Option.bind (f_R_is F n σ a1) fun u1 =>
  Option.bind (if u1 = (0 : Int32) then
  some (0 : Int32)
  else
  Option.bind (f_R_is F n σ a2) fun u3 =>
  if u3 = (0 : Int32) then
  some (0 : Int32)
  else
  if a1 = a2 then
  some (0 : Int32)
  else
  some (1 : Int32)) fun u2 =>
  if mm_z u2 then
  some u2
  else none
def f_R_valueAt_l9 (F n : Nat) (σ : mm_M) (x1 : Int32) (x2 : Int32) : Nat → Int32 → Int32 → Option Int32
  | 0, _, _ => none
  | K + 1, v3, v4 =>
    if (((512 : Int32) * x1) + x2) ≤ v4 then
    some v3
    else
    if mm_in v4 2560 then
    Option.bind (if (σ 3 0 (Int32.toNatClampNeg v4)) = (0 : Int32) then
    some (((31 : Int32) * v3) + (σ 4 0 (Int32.toNatClampNeg v4)))
    else
    if (σ 3 0 (Int32.toNatClampNeg v4)) = (2 : Int32) then
    some ((((17 : Int32) * v3) + (σ 6 0 (Int32.toNatClampNeg v4))) + (1 : Int32))
    else
    some v3) fun u1 =>
    f_R_valueAt_l9 F n σ x1 x2 K u1 (v4 + (1 : Int32))
    else none
def f_R_valueAt (F n : Nat) (σ : mm_M) (a1 : Int32) (a2 : Int32) : Option Int32 :=
  Option.bind (f_R_valueAt_l9 F n σ a1 a2 F (0 : Int32) ((512 : Int32) * a1)) fun u1 =>
  some u1
def f_R_sentAt_l10 (F n : Nat) (σ : mm_M) (x1 : Int32) (x2 : Int32) (x3 : Int32) : Nat → Int32 → Int32 → Option Int32
  | 0, _, _ => none
  | K + 1, v4, v5 =>
    if (((512 : Int32) * x1) + x3) ≤ v5 then
    some v4
    else
    if mm_in v5 2560 then
    Option.bind (if (σ 3 0 (Int32.toNatClampNeg v5)) = (1 : Int32) then
    if (σ 4 0 (Int32.toNatClampNeg v5)) = x2 then
    some (1 : Int32)
    else
    some (0 : Int32)
    else
    some (0 : Int32)) fun u1 =>
    f_R_sentAt_l10 F n σ x1 x2 x3 K (v4 + u1) (v5 + (1 : Int32))
    else none
def f_R_sentAt (F n : Nat) (σ : mm_M) (a1 : Int32) (a2 : Int32) (a3 : Int32) : Option Int32 :=
  Option.bind (f_R_sentAt_l10 F n σ a1 a2 a3 F (0 : Int32) ((512 : Int32) * a1)) fun u1 =>
  some u1
def f_R_receivedAt_l10 (F n : Nat) (σ : mm_M) (x1 : Int32) (x2 : Int32) (x3 : Int32) : Nat → Int32 → Int32 → Option Int32
  | 0, _, _ => none
  | K + 1, v4, v5 =>
    if (((512 : Int32) * x1) + x3) ≤ v5 then
    some v4
    else
    if mm_in v5 2560 then
    Option.bind (if (σ 3 0 (Int32.toNatClampNeg v5)) = (2 : Int32) then
    if (σ 4 0 (Int32.toNatClampNeg v5)) = x2 then
    some (σ 5 0 (Int32.toNatClampNeg v5))
    else
    some v4
    else
    some v4) fun u1 =>
    f_R_receivedAt_l10 F n σ x1 x2 x3 K u1 (v5 + (1 : Int32))
    else none
def f_R_receivedAt (F n : Nat) (σ : mm_M) (a1 : Int32) (a2 : Int32) (a3 : Int32) : Option Int32 :=
  Option.bind (f_R_receivedAt_l10 F n σ a1 a2 a3 F (0 : Int32) ((512 : Int32) * a1)) fun u1 =>
  some u1
def f_R_sentWith_l9 (F n : Nat) (σ : mm_M) (x1 : Int32) (x2 : Int32) (x3 : Int32) : Nat → Int32 → Int32 → Int32 → Option Int32
  | 0, _, _, _ => none
  | K + 1, v4, v5, v6 =>
    if mm_in x1 5 then
    if (σ 2 0 (Int32.toNatClampNeg x1)) ≤ v6 then
    some v4
    else
    if x3 ≤ v5 then
    some v4
    else
    if mm_in (((512 : Int32) * x1) + v6) 2560 then
    Option.bind (if (σ 3 0 (Int32.toNatClampNeg (((512 : Int32) * x1) + v6))) = (1 : Int32) then
    if (σ 4 0 (Int32.toNatClampNeg (((512 : Int32) * x1) + v6))) = x2 then
    some (1 : Int32)
    else
    some (0 : Int32)
    else
    some (0 : Int32)) fun u1 =>
    f_R_sentWith_l9 F n σ x1 x2 x3 K v6 (v5 + u1) (v6 + (1 : Int32))
    else none
    else none
def f_R_sentWith (F n : Nat) (σ : mm_M) (a1 : Int32) (a2 : Int32) (a3 : Int32) : Option Int32 :=
  Option.bind (f_R_sentWith_l9 F n σ a1 a2 a3 F (0 : Int32) (0 : Int32) (0 : Int32)) fun u1 =>
  Option.bind (f_R_valueAt F n σ a1 u1) fun u2 =>
  some u2
def f_R_inChannel (F n : Nat) (σ : mm_M) (a1 : Int32) (a2 : Int32) : Option Int32 :=
  if mm_in a1 5 then
  Option.bind (f_R_sentAt F n σ a1 a2 (σ 2 0 (Int32.toNatClampNeg a1))) fun u1 =>
  if mm_in (((5 : Int32) * a1) + a2) 25 then
  some (u1 - (σ 9 0 (Int32.toNatClampNeg (((5 : Int32) * a1) + a2))))
  else none
  else none
def f_R_note (F n : Nat) (σ : mm_M) (a1 : Int32) (a2 : Int32) (a3 : Int32) (a4 : Int32) (a5 : Int32) : Option (Int32 × mm_M) :=
  if mm_in a1 5 then
  if mm_in (((512 : Int32) * a1) + (σ 2 0 (Int32.toNatClampNeg a1))) 2560 then
  some ((0 : Int32), (mm_st (mm_st (mm_st (mm_st (mm_st σ 3 0 (Int32.toNatClampNeg (((512 : Int32) * a1) + (σ 2 0 (Int32.toNatClampNeg a1)))) a2) 4 0 (Int32.toNatClampNeg (((512 : Int32) * a1) + (σ 2 0 (Int32.toNatClampNeg a1)))) a3) 5 0 (Int32.toNatClampNeg (((512 : Int32) * a1) + (σ 2 0 (Int32.toNatClampNeg a1)))) a4) 6 0 (Int32.toNatClampNeg (((512 : Int32) * a1) + (σ 2 0 (Int32.toNatClampNeg a1)))) a5) 2 0 (Int32.toNatClampNeg a1) ((σ 2 0 (Int32.toNatClampNeg a1)) + (1 : Int32))))
  else none
  else none
def f_R_stands (F n : Nat) (σ : mm_M) (a1 : Int32) : Option Int32 :=
  if mm_in a1 5 then
  Option.bind (if (σ 11 0 (Int32.toNatClampNeg a1)) ≤ (0 : Int32) then
  some (0 : Int32)
  else
  if (σ 12 0 (Int32.toNatClampNeg a1)) = (0 : Int32) then
  some (0 : Int32)
  else
  some (1 : Int32)) fun u1 =>
  if mm_z u1 then
  some u1
  else none
  else none
def f_R_work (F n : Nat) (σ : mm_M) (a1 : Int32) (a2 : Int32) : Option (Int32 × mm_M) :=
  Option.bind (f_R_is F n σ a1) fun u1 =>
  if u1 = (0 : Int32) then
  some ((-1 : Int32), σ)
  else
  if mm_in a1 5 then
  Option.bind (if (σ 10 0 (Int32.toNatClampNeg a1)) = (0 : Int32) then
  Option.bind (f_R_stands F n σ a1) fun u3 =>
  if u3 = (0 : Int32) then
  Option.bind (f_R_note F n σ a1 (0 : Int32) a2 (0 : Int32) (0 : Int32)) fun u4 =>
  some (u4.2, u4.1)
  else
  some (σ, (-3 : Int32))
  else
  some (σ, (-2 : Int32))) fun u2 =>
  some (u2.2, u2.1)
  else none
def f_R_send (F n : Nat) (σ : mm_M) (a1 : Int32) (a2 : Int32) : Option (Int32 × mm_M) :=
  Option.bind (f_R_pair F n σ a1 a2) fun u1 =>
  if u1 = (0 : Int32) then
  some ((-1 : Int32), σ)
  else
  if mm_in a1 5 then
  if (σ 10 0 (Int32.toNatClampNeg a1)) = (0 : Int32) then
  if (σ 11 0 (Int32.toNatClampNeg a1)) ≤ (0 : Int32) then
  Option.bind (f_R_inChannel F n σ a1 a2) fun u3 =>
  if u3 = (6 : Int32) then
  some ((-4 : Int32), σ)
  else
  Option.bind (f_R_note F n σ a1 (1 : Int32) a2 (0 : Int32) (0 : Int32)) fun u4 =>
  Option.bind (f_R_sentAt F n u4.2 a1 a2 (u4.2 2 0 (Int32.toNatClampNeg a1))) fun u5 =>
  some (u5, u4.2)
  else
  Option.bind (if (σ 10 0 (Int32.toNatClampNeg a1)) = (0 : Int32) then
  some (-3 : Int32)
  else
  some (-2 : Int32)) fun u6 =>
  some (u6, σ)
  else
  Option.bind (if (σ 10 0 (Int32.toNatClampNeg a1)) = (0 : Int32) then
  some (-3 : Int32)
  else
  some (-2 : Int32)) fun u2 =>
  some (u2, σ)
  else none
def f_R_receive (F n : Nat) (σ : mm_M) (a1 : Int32) (a2 : Int32) : Option (Int32 × mm_M) :=
  Option.bind (f_R_pair F n σ a1 a2) fun u1 =>
  if u1 = (0 : Int32) then
  some ((-1 : Int32), σ)
  else
  if mm_in a2 5 then
  if (σ 10 0 (Int32.toNatClampNeg a2)) = (0 : Int32) then
  Option.bind (f_R_stands F n σ a2) fun u3 =>
  if u3 = (0 : Int32) then
  if mm_in a1 5 then
  if (σ 10 0 (Int32.toNatClampNeg a1)) = (0 : Int32) then
  Option.bind (f_R_stands F n σ a1) fun u6 =>
  if u6 = (0 : Int32) then
  Option.bind (f_R_inChannel F n σ a1 a2) fun u7 =>
  if u7 = (0 : Int32) then
  some ((-4 : Int32), σ)
  else
  if mm_in (((5 : Int32) * a1) + a2) 25 then
  Option.bind (f_R_sentWith F n σ a1 a2 ((σ 9 0 (Int32.toNatClampNeg (((5 : Int32) * a1) + a2))) + (1 : Int32))) fun u8 =>
  Option.bind (f_R_note F n σ a2 (2 : Int32) a1 ((σ 9 0 (Int32.toNatClampNeg (((5 : Int32) * a1) + a2))) + (1 : Int32)) u8) fun u9 =>
  some (((σ 9 0 (Int32.toNatClampNeg (((5 : Int32) * a1) + a2))) + (1 : Int32)), (mm_st u9.2 9 0 (Int32.toNatClampNeg (((5 : Int32) * a1) + a2)) ((σ 9 0 (Int32.toNatClampNeg (((5 : Int32) * a1) + a2))) + (1 : Int32))))
  else none
  else
  Option.bind (if (σ 10 0 (Int32.toNatClampNeg a2)) = (0 : Int32) then
  some (-3 : Int32)
  else
  some (-2 : Int32)) fun u10 =>
  some (u10, σ)
  else
  Option.bind (if (σ 10 0 (Int32.toNatClampNeg a2)) = (0 : Int32) then
  some (-3 : Int32)
  else
  some (-2 : Int32)) fun u5 =>
  some (u5, σ)
  else none
  else
  Option.bind (if (σ 10 0 (Int32.toNatClampNeg a2)) = (0 : Int32) then
  some (-3 : Int32)
  else
  some (-2 : Int32)) fun u4 =>
  some (u4, σ)
  else
  Option.bind (if (σ 10 0 (Int32.toNatClampNeg a2)) = (0 : Int32) then
  some (-3 : Int32)
  else
  some (-2 : Int32)) fun u2 =>
  some (u2, σ)
  else none
def f_R_lose (F n : Nat) (σ : mm_M) (a1 : Int32) (a2 : Int32) : Option (Int32 × mm_M) :=
  Option.bind (f_R_pair F n σ a1 a2) fun u1 =>
  if u1 = (0 : Int32) then
  some ((-1 : Int32), σ)
  else
  Option.bind (f_R_inChannel F n σ a1 a2) fun u2 =>
  if u2 = (0 : Int32) then
  some ((-4 : Int32), σ)
  else
  if mm_in (((5 : Int32) * a1) + a2) 25 then
  some (((mm_st σ 9 0 (Int32.toNatClampNeg (((5 : Int32) * a1) + a2)) ((σ 9 0 (Int32.toNatClampNeg (((5 : Int32) * a1) + a2))) + (1 : Int32))) 9 0 (Int32.toNatClampNeg (((5 : Int32) * a1) + a2))), (mm_st σ 9 0 (Int32.toNatClampNeg (((5 : Int32) * a1) + a2)) ((σ 9 0 (Int32.toNatClampNeg (((5 : Int32) * a1) + a2))) + (1 : Int32))))
  else none
def f_R_write (F n : Nat) (σ : mm_M) (a1 : Int32) (a2 : Int32) (a3 : Int32) (a4 : Int32) : Option mm_M :=
  if mm_in (σ 0 0 18) 400 then
  if mm_in a2 5 then
  if mm_z (σ 12 0 (Int32.toNatClampNeg a2)) then
  some (mm_st (mm_st (mm_st (mm_st (mm_st (mm_st (mm_st σ 20 0 (Int32.toNatClampNeg (σ 0 0 18)) a1) 21 0 (Int32.toNatClampNeg (σ 0 0 18)) a2) 22 0 (Int32.toNatClampNeg (σ 0 0 18)) a3) 23 0 (Int32.toNatClampNeg (σ 0 0 18)) (σ 11 0 (Int32.toNatClampNeg a2))) 24 0 (Int32.toNatClampNeg (σ 0 0 18)) (σ 12 0 (Int32.toNatClampNeg a2))) 25 0 (Int32.toNatClampNeg (σ 0 0 18)) a4) 0 0 18 ((σ 0 0 18) + (1 : Int32)))
  else none
  else none
  else none
def f_R_asks (F n : Nat) (σ : mm_M) (a1 : Int32) (a2 : Int32) : Option Int32 :=
  Option.bind (if a1 = a2 then
  some (0 : Int32)
  else
  if mm_in a1 5 then
  if (σ 12 0 (Int32.toNatClampNeg a1)) = (0 : Int32) then
  Option.bind (f_R_receivedAt F n σ a1 a2 (σ 2 0 (Int32.toNatClampNeg a1))) fun u2 =>
  Option.bind (f_R_receivedAt F n σ a1 a2 (σ 7 0 (Int32.toNatClampNeg a1))) fun u3 =>
  if u2 ≤ u3 then
  some (0 : Int32)
  else
  some (1 : Int32)
  else
  some (1 : Int32)
  else none) fun u1 =>
  if mm_z u1 then
  some u1
  else none
def f_R_cut_l31 (F n : Nat) (x1 : Int32) : Nat → mm_M → Int32 → Option mm_M
  | 0, _, _ => none
  | K + 1, σ, v2 =>
    if (σ 0 0 0) ≤ v2 then
    some σ
    else
    if mm_in x1 5 then
    Option.bind (f_R_sentAt F n σ x1 v2 (σ 2 0 (Int32.toNatClampNeg x1))) fun u1 =>
    if mm_in (((5 : Int32) * x1) + v2) 25 then
    Option.bind (if u1 ≤ (σ 9 0 (Int32.toNatClampNeg (((5 : Int32) * x1) + v2))) then
    some u1
    else
    some (σ 9 0 (Int32.toNatClampNeg (((5 : Int32) * x1) + v2)))) fun u2 =>
    f_R_cut_l31 F n x1 K (mm_st σ 9 0 (Int32.toNatClampNeg (((5 : Int32) * x1) + v2)) u2) (v2 + (1 : Int32))
    else none
    else none
def f_R_cut (F n : Nat) (σ : mm_M) (a1 : Int32) : Option mm_M :=
  if mm_in a1 5 then
  Option.bind (f_R_cut_l31 F n a1 F (mm_st (mm_st (mm_st σ 2 0 (Int32.toNatClampNeg a1) (σ 7 0 (Int32.toNatClampNeg a1))) 10 0 (Int32.toNatClampNeg a1) (0 : Int32)) 27 0 (Int32.toNatClampNeg a1) ((σ 27 0 (Int32.toNatClampNeg a1)) + (1 : Int32))) (0 : Int32)) fun u1 =>
  some u1
  else none
def f_R_follow_l2 (F n : Nat) (x1 : Int32) (x2 : Int32) : Nat → mm_M → Int32 → Option mm_M
  | 0, _, _ => none
  | K + 1, σ, v3 =>
    if (σ 0 0 0) ≤ v3 then
    some σ
    else
    if mm_in x1 5 then
    Option.bind (if (((σ 14 0 (Int32.toNatClampNeg x1)) >>> (v3 &&& 31)) &&& (1 : Int32)) = (1 : Int32) then
    Option.bind (if x2 = (0 : Int32) then
    some (0 : Int32)
    else
    some (1 : Int32)) fun u2 =>
    Option.bind (f_R_write F n σ (2 : Int32) x1 v3 u2) fun u3 =>
    some u3
    else
    some σ) fun u1 =>
    f_R_follow_l2 F n x1 x2 K u1 (v3 + (1 : Int32))
    else none
def f_R_follow (F n : Nat) (σ : mm_M) (a1 : Int32) (a2 : Int32) : Option mm_M :=
  Option.bind (f_R_follow_l2 F n a1 a2 F σ (0 : Int32)) fun u1 =>
  if mm_in a1 5 then
  Option.bind (if a2 = (0 : Int32) then
  if a2 = (0 : Int32) then
  some (mm_st u1 11 0 (Int32.toNatClampNeg a1) (0 : Int32))
  else
  some (mm_st (mm_st (mm_st u1 11 0 (Int32.toNatClampNeg a1) (0 : Int32)) 7 0 (Int32.toNatClampNeg a1) (u1 8 0 (Int32.toNatClampNeg a1))) 26 0 (Int32.toNatClampNeg a1) ((u1 26 0 (Int32.toNatClampNeg a1)) + (1 : Int32)))
  else
  if (u1 12 0 (Int32.toNatClampNeg a1)) = (0 : Int32) then
  if a2 = (0 : Int32) then
  some (mm_st u1 11 0 (Int32.toNatClampNeg a1) (0 : Int32))
  else
  some (mm_st (mm_st (mm_st u1 11 0 (Int32.toNatClampNeg a1) (0 : Int32)) 7 0 (Int32.toNatClampNeg a1) (u1 8 0 (Int32.toNatClampNeg a1))) 26 0 (Int32.toNatClampNeg a1) ((u1 26 0 (Int32.toNatClampNeg a1)) + (1 : Int32)))
  else
  Option.bind (f_R_cut F n (mm_st u1 11 0 (Int32.toNatClampNeg a1) (0 : Int32)) a1) fun u3 =>
  some u3) fun u2 =>
  some u2
  else none
def f_R_complete (F n : Nat) (σ : mm_M) (a1 : Int32) : Option mm_M :=
  if mm_in a1 5 then
  if (σ 15 0 (Int32.toNatClampNeg a1)) = (σ 14 0 (Int32.toNatClampNeg a1)) then
  Option.bind (if (σ 16 0 (Int32.toNatClampNeg a1)) = (0 : Int32) then
  some (1 : Int32)
  else
  some (0 : Int32)) fun u1 =>
  Option.bind (if (σ 13 0 (Int32.toNatClampNeg a1)) < (0 : Int32) then
  Option.bind (if u1 = (0 : Int32) then
  some (2 : Int32)
  else
  some (1 : Int32)) fun u3 =>
  if mm_in (σ 11 0 (Int32.toNatClampNeg a1)) 520 then
  Option.bind (f_R_follow F n (mm_st σ 18 0 (Int32.toNatClampNeg (σ 11 0 (Int32.toNatClampNeg a1))) u3) a1 u1) fun u4 =>
  some u4
  else none
  else
  Option.bind (if u1 = (0 : Int32) then
  some (0 : Int32)
  else
  some (1 : Int32)) fun u5 =>
  Option.bind (f_R_write F n σ (1 : Int32) a1 (σ 13 0 (Int32.toNatClampNeg a1)) u5) fun u6 =>
  some u6) fun u2 =>
  some u2
  else
  some σ
  else none
def f_R_join_l58 (F n : Nat) (x1 : Int32) (x3 : Int32) : Nat → mm_M → Int32 → Option mm_M
  | 0, _, _ => none
  | K + 1, σ, v5 =>
    if (σ 0 0 0) ≤ v5 then
    some σ
    else
    Option.bind (f_R_asks F n σ x1 v5) fun u1 =>
    Option.bind (if u1 = (0 : Int32) then
    some σ
    else
    if mm_in x1 5 then
    Option.bind (if x3 = (0 : Int32) then
    Option.bind (f_R_receivedAt F n (mm_st σ 14 0 (Int32.toNatClampNeg x1) ((σ 14 0 (Int32.toNatClampNeg x1)) ||| ((1 : Int32) <<< (v5 &&& 31)))) x1 v5 (σ 2 0 (Int32.toNatClampNeg x1))) fun u5 =>
    some u5
    else
    Option.bind (f_R_sentAt F n (mm_st σ 14 0 (Int32.toNatClampNeg x1) ((σ 14 0 (Int32.toNatClampNeg x1)) ||| ((1 : Int32) <<< (v5 &&& 31)))) x1 v5 (σ 7 0 (Int32.toNatClampNeg x1))) fun u6 =>
    some u6) fun u3 =>
    Option.bind (f_R_write F n (mm_st σ 14 0 (Int32.toNatClampNeg x1) ((σ 14 0 (Int32.toNatClampNeg x1)) ||| ((1 : Int32) <<< (v5 &&& 31)))) (0 : Int32) x1 v5 u3) fun u4 =>
    some u4
    else none) fun u2 =>
    f_R_join_l58 F n x1 x3 K u2 (v5 + (1 : Int32))
def f_R_join (F n : Nat) (σ : mm_M) (a1 : Int32) (a2 : Int32) (a3 : Int32) (a4 : Int32) : Option mm_M :=
  if mm_in a1 5 then
  if mm_z a3 then
  Option.bind (f_R_join_l58 F n a1 a3 F (mm_st (mm_st (mm_st (mm_st (mm_st (mm_st (mm_st σ 11 0 (Int32.toNatClampNeg a1) a2) 12 0 (Int32.toNatClampNeg a1) a3) 13 0 (Int32.toNatClampNeg a1) a4) 14 0 (Int32.toNatClampNeg a1) (0 : Int32)) 15 0 (Int32.toNatClampNeg a1) (0 : Int32)) 16 0 (Int32.toNatClampNeg a1) (0 : Int32)) 8 0 (Int32.toNatClampNeg a1) (σ 2 0 (Int32.toNatClampNeg a1))) (0 : Int32)) fun u1 =>
  Option.bind (f_R_complete F n u1 a1) fun u2 =>
  some u2
  else none
  else none
def f_R_concerned (F n : Nat) (σ : mm_M) (a1 : Int32) (a2 : Int32) : Option Int32 :=
  if mm_in a2 400 then
  Option.bind (if (σ 24 0 (Int32.toNatClampNeg a2)) = (0 : Int32) then
  if mm_in a1 5 then
  Option.bind (f_R_sentAt F n σ a1 (σ 21 0 (Int32.toNatClampNeg a2)) (σ 7 0 (Int32.toNatClampNeg a1))) fun u2 =>
  if (σ 25 0 (Int32.toNatClampNeg a2)) ≤ u2 then
  some (0 : Int32)
  else
  some (1 : Int32)
  else none
  else
  if mm_in a1 5 then
  Option.bind (f_R_receivedAt F n σ a1 (σ 21 0 (Int32.toNatClampNeg a2)) (σ 2 0 (Int32.toNatClampNeg a1))) fun u3 =>
  if u3 ≤ (σ 25 0 (Int32.toNatClampNeg a2)) then
  some (0 : Int32)
  else
  some (1 : Int32)
  else none) fun u1 =>
  if mm_z u1 then
  some u1
  else none
  else none
def f_R_request (F n : Nat) (σ : mm_M) (a1 : Int32) : Option mm_M :=
  if mm_in a1 400 then
  if mm_in (σ 22 0 (Int32.toNatClampNeg a1)) 5 then
  Option.bind (if (σ 11 0 (Int32.toNatClampNeg (σ 22 0 (Int32.toNatClampNeg a1)))) = (0 : Int32) then
  if (σ 10 0 (Int32.toNatClampNeg (σ 22 0 (Int32.toNatClampNeg a1)))) = (0 : Int32) then
  Option.bind (f_R_concerned F n σ (σ 22 0 (Int32.toNatClampNeg a1)) a1) fun u6 =>
  if u6 = (0 : Int32) then
  some (0 : Int32)
  else
  some (1 : Int32)
  else
  some (0 : Int32)
  else
  some (0 : Int32)) fun u1 =>
  if u1 = (0 : Int32) then
  Option.bind (if (σ 11 0 (Int32.toNatClampNeg (σ 22 0 (Int32.toNatClampNeg a1)))) = (σ 23 0 (Int32.toNatClampNeg a1)) then
  some (1 : Int32)
  else
  if (σ 11 0 (Int32.toNatClampNeg (σ 22 0 (Int32.toNatClampNeg a1)))) = (0 : Int32) then
  if (σ 10 0 (Int32.toNatClampNeg (σ 22 0 (Int32.toNatClampNeg a1)))) = (0 : Int32) then
  some (1 : Int32)
  else
  if (σ 24 0 (Int32.toNatClampNeg a1)) = (0 : Int32) then
  some (0 : Int32)
  else
  some (1 : Int32)
  else
  some (0 : Int32)) fun u2 =>
  Option.bind (if u2 = (0 : Int32) then
  some (0 : Int32)
  else
  some (1 : Int32)) fun u3 =>
  Option.bind (f_R_write F n σ (1 : Int32) (σ 22 0 (Int32.toNatClampNeg a1)) (σ 21 0 (Int32.toNatClampNeg a1)) u3) fun u4 =>
  if mm_in ((u4 0 0 18) - (1 : Int32)) 400 then
  if mm_z (u4 24 0 (Int32.toNatClampNeg a1)) then
  some (mm_st (mm_st u4 23 0 (Int32.toNatClampNeg ((u4 0 0 18) - (1 : Int32))) (u4 23 0 (Int32.toNatClampNeg a1))) 24 0 (Int32.toNatClampNeg ((u4 0 0 18) - (1 : Int32))) (u4 24 0 (Int32.toNatClampNeg a1)))
  else none
  else none
  else
  Option.bind (f_R_join F n σ (σ 22 0 (Int32.toNatClampNeg a1)) (σ 23 0 (Int32.toNatClampNeg a1)) (σ 24 0 (Int32.toNatClampNeg a1)) (σ 21 0 (Int32.toNatClampNeg a1))) fun u5 =>
  some u5
  else none
  else none
def f_R_deliver (F n : Nat) (σ : mm_M) (a1 : Int32) : Option mm_M :=
  if mm_in a1 400 then
  Option.bind (if (σ 20 0 (Int32.toNatClampNeg a1)) = (0 : Int32) then
  Option.bind (f_R_request F n σ a1) fun u6 =>
  some u6
  else
  if (σ 20 0 (Int32.toNatClampNeg a1)) = (1 : Int32) then
  if mm_in (σ 22 0 (Int32.toNatClampNeg a1)) 5 then
  Option.bind (if (σ 25 0 (Int32.toNatClampNeg a1)) = (1 : Int32) then
  some (0 : Int32)
  else
  some ((1 : Int32) <<< ((σ 21 0 (Int32.toNatClampNeg a1)) &&& 31))) fun u4 =>
  Option.bind (f_R_complete F n (mm_st (mm_st σ 15 0 (Int32.toNatClampNeg (σ 22 0 (Int32.toNatClampNeg a1))) ((σ 15 0 (Int32.toNatClampNeg (σ 22 0 (Int32.toNatClampNeg a1)))) ||| ((1 : Int32) <<< ((σ 21 0 (Int32.toNatClampNeg a1)) &&& 31)))) 16 0 (Int32.toNatClampNeg (σ 22 0 (Int32.toNatClampNeg a1))) ((σ 16 0 (Int32.toNatClampNeg (σ 22 0 (Int32.toNatClampNeg a1)))) ||| u4)) (σ 22 0 (Int32.toNatClampNeg a1))) fun u5 =>
  some u5
  else none
  else
  if mm_in (σ 22 0 (Int32.toNatClampNeg a1)) 5 then
  if (σ 11 0 (Int32.toNatClampNeg (σ 22 0 (Int32.toNatClampNeg a1)))) = (σ 23 0 (Int32.toNatClampNeg a1)) then
  Option.bind (if (σ 25 0 (Int32.toNatClampNeg a1)) = (1 : Int32) then
  some (1 : Int32)
  else
  some (0 : Int32)) fun u2 =>
  Option.bind (f_R_follow F n σ (σ 22 0 (Int32.toNatClampNeg a1)) u2) fun u3 =>
  some u3
  else
  some σ
  else none) fun u1 =>
  some u1
  else none
def f_R_tick_l7 (F n : Nat) (x1 : Int32) : Nat → mm_M → Int32 → Option mm_M
  | 0, _, _ => none
  | K + 1, σ, v2 =>
    if x1 ≤ v2 then
    some σ
    else
    Option.bind (f_R_deliver F n σ v2) fun u1 =>
    f_R_tick_l7 F n x1 K u1 (v2 + (1 : Int32))
def f_R_tick_l35 (F n : Nat) (x1 : Int32) : Nat → mm_M → Int32 → Option mm_M
  | 0, _, _ => none
  | K + 1, σ, v2 =>
    if (σ 0 0 18) ≤ v2 then
    some σ
    else
    if mm_in (v2 + x1) 400 then
    if mm_in v2 400 then
    if mm_z (σ 24 0 (Int32.toNatClampNeg (v2 + x1))) then
    f_R_tick_l35 F n x1 K (mm_st (mm_st (mm_st (mm_st (mm_st (mm_st σ 20 0 (Int32.toNatClampNeg v2) (σ 20 0 (Int32.toNatClampNeg (v2 + x1)))) 21 0 (Int32.toNatClampNeg v2) (σ 21 0 (Int32.toNatClampNeg (v2 + x1)))) 22 0 (Int32.toNatClampNeg v2) (σ 22 0 (Int32.toNatClampNeg (v2 + x1)))) 23 0 (Int32.toNatClampNeg v2) (σ 23 0 (Int32.toNatClampNeg (v2 + x1)))) 24 0 (Int32.toNatClampNeg v2) (σ 24 0 (Int32.toNatClampNeg (v2 + x1)))) 25 0 (Int32.toNatClampNeg v2) (σ 25 0 (Int32.toNatClampNeg (v2 + x1)))) (v2 + (1 : Int32))
    else none
    else none
    else none
def f_R_tick (F n : Nat) (σ : mm_M) : Option (Int32 × mm_M) :=
  Option.bind (f_R_tick_l7 F n (σ 0 0 18) F σ (0 : Int32)) fun u1 =>
  Option.bind (f_R_tick_l35 F n (σ 0 0 18) F (mm_st u1 0 0 18 ((u1 0 0 18) - (σ 0 0 18))) (0 : Int32)) fun u2 =>
  some ((σ 0 0 18), u2)
def f_R_begin (F n : Nat) (σ : mm_M) (a1 : Int32) (a2 : Int32) : Option (Int32 × mm_M) :=
  Option.bind (f_R_join F n (mm_st σ 0 0 16 ((σ 0 0 16) + (1 : Int32))) a1 ((σ 0 0 16) + (1 : Int32)) a2 (-1 : Int32)) fun u1 =>
  some ((u1 0 0 16), u1)
def f_R_checkpoint (F n : Nat) (σ : mm_M) (a1 : Int32) : Option (Int32 × mm_M) :=
  Option.bind (f_R_is F n σ a1) fun u1 =>
  if u1 = (0 : Int32) then
  some ((-1 : Int32), σ)
  else
  if mm_in a1 5 then
  Option.bind (if (σ 10 0 (Int32.toNatClampNeg a1)) = (0 : Int32) then
  if (σ 11 0 (Int32.toNatClampNeg a1)) ≤ (0 : Int32) then
  Option.bind (f_R_begin F n σ a1 (0 : Int32)) fun u3 =>
  some (u3.2, u3.1)
  else
  some (σ, (-3 : Int32))
  else
  some (σ, (-2 : Int32))) fun u2 =>
  some (u2.2, u2.1)
  else none
def f_R_crash (F n : Nat) (σ : mm_M) (a1 : Int32) : Option (Int32 × mm_M) :=
  Option.bind (f_R_is F n σ a1) fun u1 =>
  if u1 = (0 : Int32) then
  some ((-1 : Int32), σ)
  else
  if mm_in a1 5 then
  if (σ 10 0 (Int32.toNatClampNeg a1)) = (0 : Int32) then
  if (σ 11 0 (Int32.toNatClampNeg a1)) ≤ (0 : Int32) then
  some ((0 : Int32), (mm_st σ 10 0 (Int32.toNatClampNeg a1) (1 : Int32)))
  else
  Option.bind (if (σ 10 0 (Int32.toNatClampNeg a1)) = (0 : Int32) then
  some (-3 : Int32)
  else
  some (-2 : Int32)) fun u3 =>
  some (u3, σ)
  else
  Option.bind (if (σ 10 0 (Int32.toNatClampNeg a1)) = (0 : Int32) then
  some (-3 : Int32)
  else
  some (-2 : Int32)) fun u2 =>
  some (u2, σ)
  else none
def f_R_restart (F n : Nat) (σ : mm_M) (a1 : Int32) : Option (Int32 × mm_M) :=
  Option.bind (f_R_is F n σ a1) fun u1 =>
  if u1 = (0 : Int32) then
  some ((-1 : Int32), σ)
  else
  if mm_in a1 5 then
  Option.bind (if (σ 10 0 (Int32.toNatClampNeg a1)) = (0 : Int32) then
  some (σ, (-2 : Int32))
  else
  if (σ 11 0 (Int32.toNatClampNeg a1)) ≤ (0 : Int32) then
  Option.bind (f_R_begin F n σ a1 (1 : Int32)) fun u3 =>
  some (u3.2, u3.1)
  else
  some (σ, (-3 : Int32))) fun u2 =>
  some (u2.2, u2.1)
  else none
def f_R_value (F n : Nat) (σ : mm_M) (a1 : Int32) : Option Int32 :=
  Option.bind (f_R_is F n σ a1) fun u1 =>
  Option.bind (if u1 = (0 : Int32) then
  some (0 : Int32)
  else
  if mm_in a1 5 then
  Option.bind (f_R_valueAt F n σ a1 (σ 2 0 (Int32.toNatClampNeg a1))) fun u3 =>
  some u3
  else none) fun u2 =>
  some u2
def f_R_kept (F n : Nat) (σ : mm_M) (a1 : Int32) : Option Int32 :=
  Option.bind (f_R_is F n σ a1) fun u1 =>
  Option.bind (if u1 = (0 : Int32) then
  some (0 : Int32)
  else
  if mm_in a1 5 then
  Option.bind (f_R_valueAt F n σ a1 (σ 7 0 (Int32.toNatClampNeg a1))) fun u3 =>
  some u3
  else none) fun u2 =>
  some u2
def f_R_label (F n : Nat) (σ : mm_M) (a1 : Int32) (a2 : Int32) (a3 : Int32) : Option Int32 :=
  Option.bind (f_R_pair F n σ a1 a2) fun u1 =>
  if u1 = (0 : Int32) then
  some (-1 : Int32)
  else
  if a3 < (0 : Int32) then
  some (-1 : Int32)
  else
  if a3 ≤ (3 : Int32) then
  Option.bind (if (2 : Int32) ≤ a3 then
  if mm_in a1 5 then
  some (σ 7 0 (Int32.toNatClampNeg a1))
  else none
  else
  if mm_in a1 5 then
  some (σ 2 0 (Int32.toNatClampNeg a1))
  else none) fun u2 =>
  Option.bind (if (a3 - a3 / (2 : Int32) * (2 : Int32)) = (0 : Int32) then
  Option.bind (f_R_sentAt F n σ a1 a2 u2) fun u5 =>
  some u5
  else
  Option.bind (f_R_receivedAt F n σ a1 a2 u2) fun u4 =>
  some u4) fun u3 =>
  some u3
  else
  some (-1 : Int32)
def f_R_waiting (F n : Nat) (σ : mm_M) (a1 : Int32) (a2 : Int32) : Option Int32 :=
  Option.bind (f_R_pair F n σ a1 a2) fun u1 =>
  Option.bind (if u1 = (0 : Int32) then
  some (-1 : Int32)
  else
  Option.bind (f_R_inChannel F n σ a1 a2) fun u3 =>
  some u3) fun u2 =>
  some u2
def f_R_down (F n : Nat) (σ : mm_M) (a1 : Int32) : Option Int32 :=
  Option.bind (f_R_is F n σ a1) fun u1 =>
  Option.bind (if u1 = (0 : Int32) then
  some (0 : Int32)
  else
  if mm_in a1 5 then
  if (σ 10 0 (Int32.toNatClampNeg a1)) = (0 : Int32) then
  some (0 : Int32)
  else
  some (1 : Int32)
  else none) fun u2 =>
  if mm_z u2 then
  some u2
  else none
def f_R_instance (F n : Nat) (σ : mm_M) (a1 : Int32) : Option Int32 :=
  Option.bind (f_R_is F n σ a1) fun u1 =>
  Option.bind (if u1 = (0 : Int32) then
  some (-1 : Int32)
  else
  if mm_in a1 5 then
  some (σ 11 0 (Int32.toNatClampNeg a1))
  else none) fun u2 =>
  some u2
def f_R_decision (F n : Nat) (σ : mm_M) (a1 : Int32) : Option Int32 :=
  Option.bind (if a1 < (1 : Int32) then
  some (-1 : Int32)
  else
  if (σ 0 0 16) < a1 then
  some (-1 : Int32)
  else
  if mm_in a1 520 then
  some (σ 18 0 (Int32.toNatClampNeg a1))
  else none) fun u1 =>
  some u1
def f_R_notes (F n : Nat) (σ : mm_M) : Option Int32 :=
  some (σ 0 0 18)
def f_R_times (F n : Nat) (σ : mm_M) (a1 : Int32) (a2 : Int32) : Option Int32 :=
  Option.bind (f_R_is F n σ a1) fun u1 =>
  Option.bind (if u1 = (0 : Int32) then
  some (-1 : Int32)
  else
  if a2 < (0 : Int32) then
  some (-1 : Int32)
  else
  if a2 ≤ (1 : Int32) then
  if a2 = (0 : Int32) then
  if mm_in a1 5 then
  some (σ 26 0 (Int32.toNatClampNeg a1))
  else none
  else
  if mm_in a1 5 then
  some (σ 27 0 (Int32.toNatClampNeg a1))
  else none
  else
  some (-1 : Int32)) fun u2 =>
  some u2
