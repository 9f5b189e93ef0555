/-! a memory of ints over fixed cells: kind, place, slot; the world that holds it; rows of the machine over it -/
abbrev mm_M : Type := Nat → Nat → Nat → Int32
abbrev mm_L : Type := Nat → Nat → Nat
abbrev mm_E : Type := Nat → Nat → (Nat → Int32) → va_E
def mm_st (σ : mm_M) (k i j : Nat) (v : Int32) : mm_M := fun k' i' j' => if k' = k ∧ i' = i ∧ j' = j then v else σ k' i' j'
theorem mm_row (σ : mm_M) (k i j : Nat) (v : Int32) : mm_st σ k i j v k i = upd (σ k i) j v := by
  funext j'
  by_cases h : j' = j
  · subst h; simp [mm_st, upd]
  · simp [mm_st, upd, h]
theorem mm_far (σ : mm_M) {k i j k' i' : Nat} (v : Int32) (h : ¬ (k' = k ∧ i' = i)) : mm_st σ k i j v k' i' = σ k' i' := by
  funext j'
  have h2 : ¬ (k' = k ∧ i' = i ∧ j' = j) := fun q => h ⟨q.1, q.2.1⟩
  simp [mm_st, h2]
def mm_W (D : va_G) (cl : List vw_C) (cnt : Nat → Nat) (L : mm_L) (E : mm_E) (σ : mm_M) (H : Heap) : Prop := ∀ k i, i < cnt k → va_at D cl (L k i, E k i (σ k i)) H
def mm_I (cnt : Nat → Nat) (L : mm_L) : Prop := ∀ k i k' i', i < cnt k → i' < cnt k' → L k i = L k' i' → k = k' ∧ i = i'
def mm_A (cnt : Nat → Nat) (L : mm_L) : Nat → Prop := fun q => ∃ k i, i < cnt k ∧ q = L k i
theorem mm_W.one {D : va_G} {cl : List vw_C} {cnt : Nat → Nat} {L : mm_L} {E : mm_E} {σ : mm_M} {H : Heap} (h : mm_W D cl cnt L E σ H) {k i : Nat} (hi : i < cnt k) : va_P D cl [(L k i, E k i (σ k i))] H := by
  intro q x hx
  cases q with
  | zero => cases hx; exact h k i hi
  | succ q => simp at hx
theorem mm_W.put {D : va_G} {cl : List vw_C} {cnt : Nat → Nat} {L : mm_L} {E : mm_E} {σ : mm_M} {H H1 : Heap} (h : mm_W D cl cnt L E σ H) (hI : mm_I cnt L) {k i j : Nat} {v : Int32} (hi : i < cnt k) (e : va_at D cl (L k i, E k i (upd (σ k i) j v)) H1) (oq : ∀ q : Nat, q ≠ L k i → H1[q]? = H[q]?) : mm_W D cl cnt L E (mm_st σ k i j v) H1 := by
  intro k' i' hi'
  by_cases hk : k' = k ∧ i' = i
  · obtain ⟨rfl, rfl⟩ := hk
    rw [mm_row]
    exact e
  · rw [mm_far σ v hk]
    exact (h k' i' hi').kept (oq _ (fun z => hk (hI k' i' k i hi' hi z)))
theorem mm_W.kept {D : va_G} {cl : List vw_C} {cnt : Nat → Nat} {L : mm_L} {E : mm_E} {σ : mm_M} {H H1 : Heap} (h : mm_W D cl cnt L E σ H) (oq : ∀ q : Nat, q < H.size → mm_A cnt L q → H1[q]? = H[q]?) : mm_W D cl cnt L E σ H1 :=
  fun k i hi => (h k i hi).kept (oq _ (h k i hi).lt ⟨k, i, hi, rfl⟩)
abbrev mm_in (i : Int32) (n : Nat) : Prop := 0 ≤ i.toInt ∧ i.toInt < (n : Int)
abbrev mm_z (v : Int32) : Prop := v = 0 ∨ v = 1
theorem mm_vp {i : Int32} {n : Nat} (h : mm_in i n) : vp_in i n := vp_in_iff.mpr h
theorem mm_nat {i : Int32} {n : Nat} (h : mm_in i n) : i.toNatClampNeg < n := Nat.not_le.mp fun q => mm_vp h (Or.inr q)
theorem mm_zn {v : Int32} (h : mm_z v) : narrow .boolean (.int v) = .int v := by
  rcases h with rfl | rfl <;> rfl
theorem mm_zf {v : Int32} (h : mm_z v) : fits .boolean (.int v) = true := by
  rcases h with rfl | rfl <;> rfl
theorem mm_inc (x : Int32) : x + Int32.ofInt 1 = x + 1 := by
  rw [show Int32.ofInt 1 = (1 : Int32) from by decide]
theorem mm_bind {α β : Type} {x : Option α} {g : α → Option β} {r : β} (h : Option.bind x g = some r) : ∃ u, x = some u ∧ g u = some r := by
  cases x with
  | none => cases h
  | some u => exact ⟨u, rfl, h⟩
theorem mm_guard {c : Prop} [Decidable c] {α : Type} {a : Option α} {r : α} (h : (if c then a else none) = some r) : c ∧ a = some r := by
  by_cases hc : c
  · rw [if_pos hc] at h; exact ⟨hc, h⟩
  · rw [if_neg hc] at h; cases h
def mm_pre (D : va_G) (cl : List vw_C) (tys : List (ClassId × FieldType)) (cnt : Nat → Nat) (L : mm_L) (E : mm_E) (σ : mm_M) : State → Prop := fun U => mm_W D cl cnt L E σ U.heap ∧ va_K D cl tys U
theorem mm_blind {D : va_G} {cl : List vw_C} {tys : List (ClassId × FieldType)} {cnt : Nat → Nat} {L : mm_L} {E : mm_E} {σ : mm_M} {av : List Value} : FrameBlind (va_Pc av (mm_pre D cl tys cnt L E σ)) :=
  fun a U g mk q => ⟨q.1, q.2.1, va_K.moved (u := U) (U := U.calling g mk a) (Vm.Alike.refl U.vm) q.2.2⟩
theorem mm_preV {D : va_G} {cl : List vw_C} {tys : List (ClassId × FieldType)} {cnt : Nat → Nat} {L : mm_L} {E : mm_E} {σ : mm_M} {s : State} {H : Heap} (hK : va_K D cl tys s) (hW : mm_W D cl cnt L E σ H) {k i ci : Nat} {q : vw_C} {fs : List Value} (hi : i < cnt k) (he : E k i (σ k i) = .inr (ci, fs)) (hc : cl[ci]? = some q) {As : List Value} : PreV s H q.1 (L k i) (va_Pc (.ref (L k i) :: As) (mm_pre D cl tys cnt L E σ)) As :=
  ⟨mm_blind, va_recv hK (hW.one hi) (ci := ci) (q0 := 0) hc (by rw [he]; rfl), fun U hU hW' => ⟨rfl, by show mm_W D cl cnt L E σ U.heap; rw [hU]; exact hW, va_K.moved hW'.alike hK⟩⟩
theorem mm_back {D : va_G} {cl : List vw_C} {tys : List (ClassId × FieldType)} {cnt : Nat → Nat} {L : mm_L} {E : mm_E} {σ : mm_M} {s t : State} {H : Heap} (ht : t.heap = H) (hw : s.WarmedH t.vm) (hW : mm_W D cl cnt L E σ H) (hK : va_K D cl tys s) : mm_pre D cl tys cnt L E σ t :=
  ⟨by rw [ht]; exact hW, va_K.moved hw.alike hK⟩
section MM
variable {p : Program} {l : Launch} {e : Env} {R : Room} {s : State} {m : MethodId} {args : Array Value} {below : List Frame} {meth : Method} {c : Code} {H : Heap} {locs : List Loc} {cells slots : Nat} {Q : State → Prop}
variable {cc : ByteArray} {pc : Nat} {ls : Array Slot} {rest st0 : List Value} {D : va_G} {cl : List vw_C} {tys : List (ClassId × FieldType)} {H0 : Heap} {cnt : Nat → Nat} {L : mm_L} {E : mm_E} {σ σ1 : mm_M} {A0 A1 : Nat → Prop} {a : Array Value}
theorem mm_put (hexec : p.tables.exec = Jvm.exec) (hb : c.code = cc) {own ref C : String} {T : u_T} {N ci index : Nat} {Ts : List Cond} (hts : ∀ w ∈ Ts, w.before args s = true) (hin : ∀ w ∈ u_ws C T N, w ∈ Ts) (ty0 : Nat → FieldType) (hty : ∀ k, k < N → parseFieldDescriptor (T k).2.2.1 = some (ty0 k)) (hnm : ∀ a, a < N → ∀ b, b < N → a ≠ b → (T a).2.1 ≠ (T b).2.1) (hown : s.vm.findClass own = some m.cls) (hK : va_K D cl tys s) (hI : mm_I cnt L) (hW : mm_W D cl cnt L E σ H) (hS0 : va_S (mm_A cnt L) H0 H locs) {k i : Nat} (hi : i < cnt k) {fs : List Value} (he : E k i (σ k i) = .inr (ci, fs)) (hc : cl[ci]? = some (C, T, N)) (j : Nat) (hj : j < N) (hlink : (Cond.fieldLink own index ref (T j).2.1 (T j).2.2.1).before args s = true) (hsame : ∀ x, s.fieldFound? (T j).1 (T j).2.1 (T j).2.2.1 = some x → s.fieldFound? ref (T j).2.1 (T j).2.2.1 = some x) (hfin : (T j).2.2.2 = false) {ty : FieldType} {x : Int32} (hd : parseFieldDescriptor (T j).2.2.1 = some ty) (hn : narrow ty (.int x) = .int x) (hfit : fits ty (.int x) = true) (hl : j < fs.length) (he2 : E k i (upd (σ k i) j x) = .inr (ci, fs.set j (.int x)))
    (hdg : decode cc pc = .ok (.putfield index, 3)) (kk : ∀ (H1 : Heap) (locs1 : List Loc), mm_W D cl cnt L E (mm_st σ k i j x) H1 → va_S (mm_A cnt L) H0 H1 locs1 → W p l e R s m args below meth c H1 locs1 cells slots Q (F0 m (pc + 3) ls rest)) : W p l e R s m args below meth c H locs cells slots Q (F0 m pc ls (.int x :: .ref (L k i) :: rest)) := by
  have hap := va_apart (own := own) hts hin ty0 hty hnm hK hc
  have hat := hW k i hi
  rw [he] at hat
  obtain ⟨r, h1, cell, q1, q2, q3, q4⟩ := hat
  have hr : r = (C, T, N) := Option.some.inj (h1.symm.trans hc)
  subst hr
  obtain ⟨hS, hfc, kC, hkC, hkind⟩ := hK.1 ci _ hc
  obtain ⟨cf, kf, fi, f, hf, hsl⟩ := hS j hj
  have hlay := hts _ (hin _ (u_in_lay hj))
  unfold u_lay at hlay
  rw [if_neg (by rw [hfin]; decide)] at hlay
  have hst := (u_facts hfc hkC (u_lays hts hin hj) hf).1
  have h6 := u_store hfc hkC hkind hlay hf hd hn hfit
  refine W.putK hexec hb (f := f) ⟨hown, hlink, ⟨_, _, _, hsame _ hf⟩, hst⟩ (by rw [q2]; exact h6) q1 q3 (by rw [hsl]; exact k2_hasslot (q4 j hj)) rfl rfl hdg fun H' e1 e2 e3 => ?_
  rw [hsl] at e1 ⊢
  refine kk H' _ (hW.put hI hi ?_ e3) (hS0.put e2 e3 ⟨k, i, hi, rfl⟩)
  rw [he2]
  exact ⟨_, hc, t_OB.to (V := updV (vp_V fs) j (.int x)) ⟨_, e1, q2, q3, t_set q4 hap hj (.int x)⟩ (fun z _ => vp_updV_set hl (.int x) z)⟩
theorem mm_iast (hexec : p.tables.exec = Jvm.exec) (hb : c.code = cc) (hK : va_K D cl tys s) (hI : mm_I cnt L) (hW : mm_W D cl cnt L E σ H) (hS0 : va_S (mm_A cnt L) H0 H locs) {k i : Nat} (hi : i < cnt k) {cA : ClassId} {n : Nat} (he : ∀ r : Nat → Int32, E k i r = .inl (cA, n, .inl r)) {t0 : Nat} (ht : tys[t0]? = some (cA, .int)) {j : Int32} {x : Int32} (hin : vp_in j n) (hdg : decode cc pc = .ok (.iastore, 1))
    (kk : ∀ (H1 : Heap) (locs1 : List Loc), mm_W D cl cnt L E (mm_st σ k i j.toNatClampNeg x) H1 → va_S (mm_A cnt L) H0 H1 locs1 → W p l e R s m args below meth c H1 locs1 cells slots Q (F0 m (pc + 1) ls rest)) : W p l e R s m args below meth c H locs cells slots Q (F0 m pc ls (.int x :: .int j :: .ref (L k i) :: rest)) := by
  have hat := hW k i hi
  rw [he] at hat
  refine W.iast hexec hb hat ((hK.2 t0 _ ht).1 n (fun z => .int (σ k i z))) (fun q => by cases q) (by show ¬ (j < 0 ∨ (arrV _ _ _).slots.size ≤ _); rw [arrV_size]; exact hin) rfl rfl hdg fun H1 e z oq => ?_
  refine kk H1 _ (hW.put hI hi ?_ oq) (hS0.put z oq ⟨k, i, hi, rfl⟩)
  rw [he]
  show H1[L k i]? = some (vp_cell _ _)
  rw [e]
  rw [vp_cell_i, vp_cell_i, arrV_store]
  congr 2
  funext q
  by_cases hq : q = j.toNatClampNeg
  · subst hq
    simp [updV, upd]
  · simp [updV, upd, hq]
theorem mm_zast (hexec : p.tables.exec = Jvm.exec) (hb : c.code = cc) (hK : va_K D cl tys s) (hI : mm_I cnt L) (hW : mm_W D cl cnt L E σ H) (hS0 : va_S (mm_A cnt L) H0 H locs) {k i : Nat} (hi : i < cnt k) {cA : ClassId} {n : Nat} (he : ∀ r : Nat → Int32, E k i r = .inl (cA, n, .inl r)) {t0 : Nat} (ht : tys[t0]? = some (cA, .boolean)) {j : Int32} {x : Int32} (hin : vp_in j n) (hz : mm_z x) (hdg : decode cc pc = .ok (.bastore, 1))
    (kk : ∀ (H1 : Heap) (locs1 : List Loc), mm_W D cl cnt L E (mm_st σ k i j.toNatClampNeg x) H1 → va_S (mm_A cnt L) H0 H1 locs1 → W p l e R s m args below meth c H1 locs1 cells slots Q (F0 m (pc + 1) ls rest)) : W p l e R s m args below meth c H locs cells slots Q (F0 m pc ls (.int x :: .int j :: .ref (L k i) :: rest)) := by
  have hat := hW k i hi
  rw [he] at hat
  refine W.zast hexec hb hat ((hK.2 t0 _ ht).1 n (fun z => .int (σ k i z))) (fun q => by cases q) (by show ¬ (j < 0 ∨ (arrV _ _ _).slots.size ≤ _); rw [arrV_size]; exact hin) rfl rfl hdg fun H1 e z oq => ?_
  rw [mm_zn hz] at e
  refine kk H1 _ (hW.put hI hi ?_ oq) (hS0.put z oq ⟨k, i, hi, rfl⟩)
  rw [he]
  show H1[L k i]? = some (vp_cell _ _)
  rw [e]
  rw [vp_cell_i, vp_cell_i, arrV_store]
  congr 2
  funext q
  by_cases hq : q = j.toNatClampNeg
  · subst hq
    simp [updV, upd]
  · simp [updV, upd, hq]
theorem mm_calli {v : Int32} (hr : va_Run p l e R s m args below meth c H locs cells slots 0 0 (F0 m pc ls st0) rest (va_Qi (fun r (_ : Unit) => r = v) (fun _ t => mm_pre D cl tys cnt L E σ1 t) A1 a) A1) (hS : va_S A0 H0 H locs) (hA : ∀ q, A1 q → A0 q)
    (kk : ∀ (H1 : Heap) (locs1 : List Loc), mm_W D cl cnt L E σ1 H1 → H.size ≤ H1.size → (∀ q : Nat, q < H.size → ¬ A1 q → H1[q]? = H[q]?) → va_S A0 H0 H1 locs1 → W p l e R s m args below meth c H1 locs1 cells slots Q (F0 m (pc + 3) ls (.int v :: rest))) : W p l e R s m args below meth c H locs cells slots Q (F0 m pc ls st0) := by
  refine va_calli hr hS (fun q _ => hA q) hA (fun r u t H1 locs1 ht hvm hp hB hz hk hS => ?_)
  subst hp
  exact kk H1 locs1 (by rw [← ht]; exact hB.1) hz hk hS
theorem mm_callv (hr : va_Run p l e R s m args below meth c H locs cells slots 0 0 (F0 m pc ls st0) rest (va_Qv (fun (_ : Unit) => True) (fun _ t => mm_pre D cl tys cnt L E σ1 t) A1 a) A1) (hS : va_S A0 H0 H locs) (hA : ∀ q, A1 q → A0 q)
    (kk : ∀ (H1 : Heap) (locs1 : List Loc), mm_W D cl cnt L E σ1 H1 → H.size ≤ H1.size → (∀ q : Nat, q < H.size → ¬ A1 q → H1[q]? = H[q]?) → va_S A0 H0 H1 locs1 → W p l e R s m args below meth c H1 locs1 cells slots Q (F0 m (pc + 3) ls rest)) : W p l e R s m args below meth c H locs cells slots Q (F0 m pc ls st0) := by
  refine va_callv hr hS (fun q _ => hA q) hA (fun u t H1 locs1 ht hvm hp hB hz hk hS => ?_)
  exact kk H1 locs1 (by rw [← ht]; exact hB.1) hz hk hS
theorem mm_callr {kd v : Nat} (hr : va_Run p l e R s m args below meth c H locs cells slots 0 0 (F0 m pc ls st0) rest (va_Qr (fun (_ : Unit) => True) (fun _ ra t => ra = L kd v ∧ v < cnt kd ∧ mm_pre D cl tys cnt L E σ1 t) A1 a) A1) (hS : va_S A0 H0 H locs) (hA : ∀ q, A1 q → A0 q)
    (kk : ∀ (H1 : Heap) (locs1 : List Loc), v < cnt kd → mm_W D cl cnt L E σ1 H1 → H.size ≤ H1.size → (∀ q : Nat, q < H.size → ¬ A1 q → H1[q]? = H[q]?) → va_S A0 H0 H1 locs1 → W p l e R s m args below meth c H1 locs1 cells slots Q (F0 m (pc + 3) ls (.ref (L kd v) :: rest))) : W p l e R s m args below meth c H locs cells slots Q (F0 m pc ls st0) := by
  refine va_callr hr hS (fun q _ => hA q) hA (fun u ra t H1 locs1 ht hvm hp hB hz hk hS => ?_)
  obtain ⟨h1, h2, h3⟩ := hB
  subst h1
  exact kk H1 locs1 h2 (by rw [← ht]; exact h3.1) hz hk hS
theorem mm_top {x y : Int32} (h : x = y) (k : W p l e R s m args below meth c H locs cells slots Q (F0 m pc ls (.int y :: rest))) : W p l e R s m args below meth c H locs cells slots Q (F0 m pc ls (.int x :: rest)) := by
  subst h
  exact k
end MM
theorem mm_tInt {x : Int32} {n : Int} (h : ¬ x = Int32.ofInt n) (h1 : -2147483648 ≤ n) (h2 : n ≤ 2147483647) : x.toInt ≠ n := by
  intro e
  apply h
  rw [← e]
  simp
