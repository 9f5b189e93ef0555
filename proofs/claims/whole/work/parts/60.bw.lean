/-! what has been made since a point: the heap from 'base' on, cell by cell; rows for constructors -/
def bw (D : va_G) (cl : List vw_C) (base : Nat) (f : Nat → va_E) (len : Nat) (H : Heap) : Prop := H.size = base + len ∧ ∀ o, o < len → va_at D cl (base + o, f o) H
def bu (f : Nat → va_E) (o : Nat) (e : va_E) : Nat → va_E := fun x => if x = o then e else f x
theorem bu_s (f : Nat → va_E) (o : Nat) (e : va_E) : bu f o e o = e := by simp [bu]
theorem bu_n (f : Nat → va_E) {o x : Nat} (e : va_E) (h : x ≠ o) : bu f o e x = f x := by simp [bu, h]
theorem bw.one {D : va_G} {cl : List vw_C} {base : Nat} {f : Nat → va_E} {len : Nat} {H : Heap} (h : bw D cl base f len H) {o : Nat} (ho : o < len) {x : va_E} (e : f o = x) : va_P D cl [(base + o, x)] H := by
  intro k q hk
  cases k with
  | zero => cases hk; rw [← e]; exact h.2 o ho
  | succ k => simp at hk
theorem bw.put {D : va_G} {cl : List vw_C} {base : Nat} {f : Nat → va_E} {len : Nat} {H H1 : Heap} (h : bw D cl base f len H) {o : Nat} {x : va_E} (e : va_at D cl (base + o, x) H1) (z : H1.size = H.size) (oq : ∀ q : Nat, q ≠ base + o → H1[q]? = H[q]?) : bw D cl base (bu f o x) len H1 := by
  refine ⟨by rw [z]; exact h.1, fun y hy => ?_⟩
  by_cases hyo : y = o
  · subst hyo; rw [bu_s]; exact e
  · rw [bu_n _ _ hyo]; exact (h.2 y hy).kept (oq _ (by show base + y ≠ base + o; omega))
theorem bw.push {D : va_G} {cl : List vw_C} {base : Nat} {f : Nat → va_E} {len : Nat} {H H1 : Heap} (h : bw D cl base f len H) {x : va_E} (e : va_at D cl (H.size, x) H1) (z : H1.size = H.size + 1) (oq : ∀ q : Nat, q < H.size → H1[q]? = H[q]?) : bw D cl base (bu f len x) (len + 1) H1 := by
  refine ⟨by rw [z, h.1]; rfl, fun y hy => ?_⟩
  by_cases hyo : y = len
  · subst hyo; rw [bu_s, ← h.1]; exact e
  · rw [bu_n _ _ hyo]; exact (h.2 y (by omega)).kept (oq _ (by show base + y < H.size; rw [h.1]; omega))
abbrev nwA : Cond := .methodLinkNest "TwoPhaseCuts" 37 ⟨"TwoPhaseCuts$Channel", "<init>", "()V"⟩ "TwoPhaseCuts"
abbrev nwB : Cond := .methodLinkNest "TwoPhaseCuts$NoteLine" 15 ⟨"TwoPhaseCuts$Note", "<init>", "()V"⟩ "TwoPhaseCuts"
def bp (D : va_G) (cl : List vw_C) (tys : List (ClassId × FieldType)) (base : Nat) (f : Nat → va_E) (len : Nat) : State → Prop := fun U => bw D cl base f len U.heap ∧ va_K D cl tys U ∧ va_Nw nwA U ∧ va_Nw nwB U ∧ va_AO "TwoPhaseCuts$Member" U ∧ va_AO "TwoPhaseCuts$Channel" U ∧ va_AO "TwoPhaseCuts$Note" U
theorem bp_blind {D : va_G} {cl : List vw_C} {tys : List (ClassId × FieldType)} {base : Nat} {f : Nat → va_E} {len : Nat} {av : List Value} : FrameBlind (va_Pc av (bp D cl tys base f len)) :=
  fun a U g mk q => ⟨q.1, q.2.1, va_K.moved (u := U) (U := U.calling g mk a) (Vm.Alike.refl U.vm) q.2.2.1, va_Nw.same rfl rfl q.2.2.2.1, va_Nw.same rfl rfl q.2.2.2.2.1, va_AO.moved (u := U) (U := U.calling g mk a) (Vm.Alike.refl U.vm) q.2.2.2.2.2.1, va_AO.moved (u := U) (U := U.calling g mk a) (Vm.Alike.refl U.vm) q.2.2.2.2.2.2.1, va_AO.moved (u := U) (U := U.calling g mk a) (Vm.Alike.refl U.vm) q.2.2.2.2.2.2.2⟩
theorem bp_preS {D : va_G} {cl : List vw_C} {tys : List (ClassId × FieldType)} {base : Nat} {f : Nat → va_E} {len : Nat} {s : State} {H : Heap} (hK : va_K D cl tys s) (hA : va_Nw nwA s) (hB : va_Nw nwB s) (hO : va_AO "TwoPhaseCuts$Member" s ∧ va_AO "TwoPhaseCuts$Channel" s ∧ va_AO "TwoPhaseCuts$Note" s) (hW : bw D cl base f len H) {av : List Value} : PreS s H (va_Pc av (bp D cl tys base f len)) av :=
  ⟨bp_blind, fun U hU hw => ⟨rfl, by show bw D cl base f len U.heap; rw [hU]; exact hW, va_K.moved hw.alike hK, va_Nw.warmM hw hA, va_Nw.warmM hw hB, va_AO.moved hw.alike hO.1, va_AO.moved hw.alike hO.2.1, va_AO.moved hw.alike hO.2.2⟩⟩
section BW
variable {p : Program} {l : Launch} {e : Env} {R : Room} {s : State} {m : MethodId} {args : Array Value} {below : List Frame} {meth : Method} {c : Code} {H : Heap} {locs : List Loc} {cells slots : Nat} {Q : State → Prop}
variable {cc : ByteArray} {pc : Nat} {ls : Array Slot} {rest st0 : List Value} {D : va_G} {cl : List vw_C} {tys : List (ClassId × FieldType)} {H0 : Heap} {base : Nat} {f : Nat → va_E} {len : Nat} {a : Array Value}
theorem bw_S {H1 : Heap} (hS : va_S (fun q => base ≤ q) H0 H locs) (z : H.size ≤ H1.size) (oq : ∀ q : Nat, q < H.size → H1[q]? = H[q]?) : va_S (fun q => base ≤ q) H0 H1 locs :=
  ⟨Nat.le_trans hS.1 z, fun x h1 h2 => (oq x (Nat.lt_of_lt_of_le h1 hS.1)).trans (hS.2.1 x h1 h2), hS.2.2⟩
theorem bw_new (hexec : p.tables.exec = Jvm.exec) (hb : c.code = cc) {own C : String} {T : u_T} {N ci index : Nat} {Ts : List Cond} (hts : ∀ w ∈ Ts, w.before args s = true) (hin : ∀ w ∈ u_ws C T N, w ∈ Ts) (ty : Nat → FieldType) (hty : ∀ k, k < N → parseFieldDescriptor (T k).2.2.1 = some (ty k)) (hown : s.vm.findClass own = some m.cls) (hcl : (Cond.classLink own index C).before args s = true) (hinst : (Cond.instantiable C N).before args s = true) (hini : (Cond.initialized C).before args s = true)
    (hK : va_K D cl tys s) (hW : bw D cl base f len H) (hS : va_S (fun q => base ≤ q) H0 H locs) (hc : cl[ci]? = some (C, T, N)) {fs : List Value} (hfs : ∀ j, j < N → defaultValue (ty j) = vp_V fs j) (hcells : cells + 1 ≤ R.cells) (hslots : slots + N ≤ R.slots) (hdg : decode cc pc = .ok (.new index, 3))
    (kk : ∀ H1 : Heap, bw D cl base (bu f len (.inr (ci, fs))) (len + 1) H1 → va_S (fun q => base ≤ q) H0 H1 locs → W p l e R s m args below meth c H1 locs (cells + 1) (slots + N) Q (F0 m (pc + 3) ls (.ref (base + len) :: rest))) : W p l e R s m args below meth c H locs cells slots Q (F0 m pc ls rest) := by
  have hKn := hK.1 ci _ hc
  refine W.newcK hexec hb hown hcl hinst hini rfl hdg hcells hslots hKn.2.1 rfl fun H1 kC hkC e1 z1 o1 => ?_
  rw [hW.1]
  exact kk H1 (hW.push ⟨_, hc, (u_born ty hts hin hKn hkC e1 hty).to hfs⟩ z1 o1) (bw_S hS (by omega) o1)
theorem bw_newa (hexec : p.tables.exec = Jvm.exec) (hb : c.code = cc) {atype : ArrayType} (harr : (Cond.arrayClass (newarray.typeOf atype)).before args s = true) {ty : FieldType} (hty : newarray.typeOf atype = ty) (hd : defaultValue ty = .int 0) (hK : va_K D cl tys s) (t0 : Nat) {cA : ClassId} (ht : tys[t0]? = some (cA, ty)) (hra : va_RA s cA ty → s.vm.findClass ("[" ++ ty.toString) = some cA) (hW : bw D cl base f len H) (hS : va_S (fun q => base ≤ q) H0 H locs)
    {n : Int32} {N' : Nat} (hn : ¬ n < 0) (hN : n.toNatClampNeg = N') (hbytes : N' * componentBytes ty ≤ 536870912) (hcells : cells + 1 ≤ R.cells) (hslots : slots + N' ≤ R.slots) (hdg : decode cc pc = .ok (.newarray atype, 2))
    (kk : ∀ H1 : Heap, bw D cl base (bu f len (.inl (cA, N', .inl (fun _ => 0)))) (len + 1) H1 → va_S (fun q => base ≤ q) H0 H1 locs → W p l e R s m args below meth c H1 locs (cells + 1) (slots + N') Q (F0 m (pc + 2) ls (.ref (base + len) :: rest))) : W p l e R s m args below meth c H locs cells slots Q (F0 m pc ls (.int n :: rest)) := by
  subst hty
  refine va_newaK hexec hb harr rfl hdg rfl hn hN hbytes hcells hslots rfl fun H1 cA' e1 z1 o1 hAr hNm => ?_
  have hcA : cA' = cA := Option.some.inj (hNm.symm.trans (hra (hK.2 t0 _ ht).2))
  subst hcA
  rw [hW.1]
  refine kk H1 (hW.push ?_ z1 o1) (bw_S hS (by omega) o1)
  show H1[H.size]? = some (vp_cell _ _)
  rw [vp_cell_i, e1, hd]
theorem bw_anew (hexec : p.tables.exec = Jvm.exec) (hb : c.code = cc) {own C : String} {index : Nat} (hown : s.vm.findClass own = some m.cls) (hclink : (Cond.classLink own index C).before args s = true) (hover : (Cond.arrayOver (.object C)).before args s = true) (hK : va_K D cl tys s) (t0 : Nat) {cA : ClassId} (ht : tys[t0]? = some (cA, .object C)) (hW : bw D cl base f len H) (hS : va_S (fun q => base ≤ q) H0 H locs)
    {n : Int32} {N' : Nat} (hn : ¬ n < 0) (hN : n.toNatClampNeg = N') (hbytes : N' * 4 ≤ 536870912) (hcells : cells + 1 ≤ R.cells) (hslots : slots + N' ≤ R.slots) (hdg : decode cc pc = .ok (.anewarray index, 3))
    (kk : ∀ H1 : Heap, bw D cl base (bu f len (.inl (cA, N', .inr (.inr (.inr (.inr (fun _ => none))))))) (len + 1) H1 → va_S (fun q => base ≤ q) H0 H1 locs → W p l e R s m args below meth c H1 locs (cells + 1) (slots + N') Q (F0 m (pc + 3) ls (.ref (base + len) :: rest))) : W p l e R s m args below meth c H locs cells slots Q (F0 m pc ls (.int n :: rest)) := by
  subst hN
  refine W.anew hexec hb hown hclink hover rfl hdg rfl hn hbytes hcells hslots fun cA' kA comp f1 f2 f3 f4 => ?_
  obtain ⟨kA', comp', g1, g2, g3, g4⟩ := (hK.2 t0 _ ht).2
  have hcA : cA' = cA := Option.some.inj (f1.symm.trans g4)
  subst hcA
  generalize hH1 : H.push ({ cls := cA', slots := Array.replicate n.toNatClampNeg .null, vm := .none } : Cell) = H1
  have z1 : H1.size = H.size + 1 := by rw [← hH1, Array.size_push]
  have e1 : H1[H.size]? = some (arrV cA' n.toNatClampNeg (fun _ => .null)) := by rw [← hH1, Array.getElem?_push_size, ← arrV_new]
  have o1 : ∀ q : Nat, q < H.size → H1[q]? = H[q]? := fun q hq => by rw [← hH1, Array.getElem?_push, if_neg (Nat.ne_of_lt hq)]
  rw [hW.1]
  refine kk H1 (hW.push ?_ z1 o1) (bw_S hS (by omega) o1)
  show H1[H.size]? = some (vp_cell _ _)
  rw [vp_cell_q, e1]
  rfl
theorem bw_putF (hexec : p.tables.exec = Jvm.exec) (hb : c.code = cc) {own ref C : String} {T : u_T} {N ci index : Nat} {Ts : List Cond} (hts : ∀ w ∈ Ts, w.before args s = true) (hin : ∀ w ∈ u_ws C T N, w ∈ Ts) (ty0 : Nat → FieldType) (hty : ∀ k, k < N → parseFieldDescriptor (T k).2.2.1 = some (ty0 k)) (hnm : ∀ a, a < N → ∀ b, b < N → a ≠ b → (T a).2.1 ≠ (T b).2.1) (hown : s.vm.findClass own = some m.cls) (hK : va_K D cl tys s) (hW : bw D cl base f len H) (hS0 : va_S (fun q => base ≤ q) H0 H locs) {o : Nat} (ho : o < len) {fs : List Value} (he : f o = .inr (ci, fs)) (hc : cl[ci]? = some (C, T, N)) (k : Nat) (hk : k < N) (hlink : (Cond.fieldLink own index ref (T k).2.1 (T k).2.2.1).before args s = true) (hsame : ∀ x, s.fieldFound? (T k).1 (T k).2.1 (T k).2.2.1 = some x → s.fieldFound? ref (T k).2.1 (T k).2.2.1 = some x) (hfin : (T k).2.2.2 = true) (hin2 : meth.name = "<init>") (hdecl : (T k).1 = own) {ty : FieldType} {v : Value} (hd : parseFieldDescriptor (T k).2.2.1 = some ty) (hn : narrow ty v = v) (hfit : fits ty v = true) (hl : k < fs.length)
    (hdg : decode cc pc = .ok (.putfield index, 3)) (kk : ∀ (H1 : Heap) (locs1 : List Loc), bw D cl base (bu f o (.inr (ci, fs.set k v))) len H1 → va_S (fun q => base ≤ q) H0 H1 locs1 → W p l e R s m args below meth c H1 locs1 cells slots Q (F0 m (pc + 3) ls rest)) : W p l e R s m args below meth c H locs cells slots Q (F0 m pc ls (v :: .ref (base + o) :: rest)) := by
  have hap := va_apart (own := own) hts hin ty0 hty hnm hK hc
  have hat := hW.2 o ho
  rw [he] at hat
  obtain ⟨r, h1, cell, q1, q2, q3, q4⟩ := hat
  have hr : r = (C, T, N) := Option.some.inj (h1.symm.trans hc)
  subst hr
  obtain ⟨hS, hfc, kC, hkC, hkind⟩ := hK.1 ci _ hc
  obtain ⟨cf, kf, fi, fd, hi, hsl⟩ := hS k hk
  have hlay := hts _ (hin _ (u_in_lay hk))
  unfold u_lay at hlay
  rw [if_pos hfin] at hlay
  have hst := (u_facts hfc hkC (u_lays hts hin hk) hi).1
  have hcf : m.cls = cf := by
    obtain ⟨_, _, c', _, _, _, -, -, hf', -, -, -, hown2, -⟩ := Cond.laysFinal_spec hlay
    have e1 : c' = cf := by have := hi.symm.trans hf'; simp at this; exact this.1.symm
    rw [hdecl] at hown2
    rw [← e1]; exact Option.some.inj (hown.symm.trans hown2)
  have h6 := u_fits hfc hkC hkind (Or.inr hlay) hi hd hn hfit
  refine W.putFinK hexec hb hown hlink (hsame _ hi) hst hcf hin2 (by rw [q2]; exact h6) q1 q3 (by rw [hsl]; exact k2_hasslot (q4 k hk)) rfl rfl hdg fun H' e1 e2 e3 => ?_
  rw [hsl] at e1 ⊢
  exact kk H' _ (hW.put ⟨_, hc, t_OB.to (V := updV (vp_V fs) k v) ⟨_, e1, q2, q3, t_set q4 hap hk v⟩ (fun j _ => vp_updV_set hl v j)⟩ e2 e3) (hS0.put e2 e3 (Nat.le_add_right _ _))
theorem bw_putI (hexec : p.tables.exec = Jvm.exec) (hb : c.code = cc) {own ref C : String} {T : u_T} {N ci index : Nat} {Ts : List Cond} (hts : ∀ w ∈ Ts, w.before args s = true) (hin : ∀ w ∈ u_ws C T N, w ∈ Ts) (ty0 : Nat → FieldType) (hty : ∀ k, k < N → parseFieldDescriptor (T k).2.2.1 = some (ty0 k)) (hnm : ∀ a, a < N → ∀ b, b < N → a ≠ b → (T a).2.1 ≠ (T b).2.1) (hown : s.vm.findClass own = some m.cls) (hK : va_K D cl tys s) (hW : bw D cl base f len H) (hS0 : va_S (fun q => base ≤ q) H0 H locs) {o : Nat} (ho : o < len) {fs : List Value} (he : f o = .inr (ci, fs)) (hc : cl[ci]? = some (C, T, N)) (k : Nat) (hk : k < N) (hlink : (Cond.fieldLink own index ref (T k).2.1 (T k).2.2.1).before args s = true) (hsame : ∀ x, s.fieldFound? (T k).1 (T k).2.1 (T k).2.2.1 = some x → s.fieldFound? ref (T k).2.1 (T k).2.2.1 = some x) (hfin : (T k).2.2.2 = false) {ty : FieldType} {v : Value} (hd : parseFieldDescriptor (T k).2.2.1 = some ty) (hn : narrow ty v = v) (hfit : fits ty v = true) (hl : k < fs.length)
    (hdg : decode cc pc = .ok (.putfield index, 3)) (kk : ∀ (H1 : Heap) (locs1 : List Loc), bw D cl base (bu f o (.inr (ci, fs.set k v))) len H1 → va_S (fun q => base ≤ q) H0 H1 locs1 → W p l e R s m args below meth c H1 locs1 cells slots Q (F0 m (pc + 3) ls rest)) : W p l e R s m args below meth c H locs cells slots Q (F0 m pc ls (v :: .ref (base + o) :: rest)) := by
  have hap := va_apart (own := own) hts hin ty0 hty hnm hK hc
  have hat := hW.2 o ho
  rw [he] at hat
  obtain ⟨r, h1, cell, q1, q2, q3, q4⟩ := hat
  have hr : r = (C, T, N) := Option.some.inj (h1.symm.trans hc)
  subst hr
  obtain ⟨hS, hfc, kC, hkC, hkind⟩ := hK.1 ci _ hc
  obtain ⟨cf, kf, fi, fd, hi, hsl⟩ := hS k hk
  have hlay := hts _ (hin _ (u_in_lay hk))
  unfold u_lay at hlay
  rw [if_neg (by rw [hfin]; decide)] at hlay
  have hst := (u_facts hfc hkC (u_lays hts hin hk) hi).1
  have h6 := u_store hfc hkC hkind hlay hi hd hn hfit
  refine W.putK hexec hb (f := fd) ⟨hown, hlink, ⟨_, _, _, hsame _ hi⟩, hst⟩ (by rw [q2]; exact h6) q1 q3 (by rw [hsl]; exact k2_hasslot (q4 k hk)) rfl rfl hdg fun H' e1 e2 e3 => ?_
  rw [hsl] at e1 ⊢
  exact kk H' _ (hW.put ⟨_, hc, t_OB.to (V := updV (vp_V fs) k v) ⟨_, e1, q2, q3, t_set q4 hap hk v⟩ (fun j _ => vp_updV_set hl v j)⟩ e2 e3) (hS0.put e2 e3 (Nat.le_add_right _ _))
theorem bw_aast (hexec : p.tables.exec = Jvm.exec) (hb : c.code = cc) (hK : va_K D cl tys s) (hW : bw D cl base f len H) (hS : va_S (fun q => base ≤ q) H0 H locs) (t0 ci : Nat) {o1 o2 : Nat} (ho1 : o1 < len) (ho2 : o2 < len) {cA : ClassId} {r : vw_C} {n : Nat} {vs : List Value} {g : Nat → Option Nat} (ha : f o1 = .inl (cA, n, .inr (.inr (.inr (.inr g))))) (ht : tys[t0]? = some (cA, .object r.1)) (hv : f o2 = .inr (ci, vs)) (hc : cl[ci]? = some r) {i : Int32} (hin : vp_in i n) (hdg : decode cc pc = .ok (.aastore, 1))
    (kk : ∀ (H1 : Heap) (locs1 : List Loc), bw D cl base (bu f o1 (.inl (cA, n, .inr (.inr (.inr (.inr (va_up g i.toNatClampNeg (some (base + o2)))))))))  len H1 → va_S (fun q => base ≤ q) H0 H1 locs1 → W p l e R s m args below meth c H1 locs1 cells slots Q (F0 m (pc + 1) ls rest)) : W p l e R s m args below meth c H locs cells slots Q (F0 m pc ls (.ref (base + o2) :: .int i :: .ref (base + o1) :: rest)) := by
  have hlt : i.toNatClampNeg < n := Nat.not_le.mp fun q => hin (Or.inr q)
  have h0 : ¬ i < 0 := fun q => hin (Or.inl q)
  have ha1 := hW.2 o1 ho1
  rw [ha] at ha1
  have hv1 := hW.2 o2 ho2
  rw [hv] at hv1
  obtain ⟨r', hr', cellV, g1, g2, g3, -⟩ := hv1
  have hcls := (hK.1 ci r hc).2
  obtain ⟨kA, comp, k1, k2, k3, -⟩ := (hK.2 t0 _ ht).2
  have hcomp : comp = D.1 ci := Option.some.inj (k3.symm.trans hcls.1)
  subst hcomp
  obtain ⟨kC, hkC, -⟩ := hcls.2
  refine W.aast hexec hb ha1 (fun q h => by cases h) (fun h => by cases h) k1 k2 rfl hkC ⟨h0, by show _ < (arrV _ _ _).slots.size; rw [arrV_size]; exact hlt⟩ g1 (fun q h => by rw [g3] at h; cases h) (by rw [g2]; exact hkC) (by rw [g2]; exact va_assign hcls) rfl rfl hdg fun H1 e z oq => ?_
  refine kk H1 _ (hW.put ?_ z oq) (hS.put z oq (Nat.le_add_right _ _))
  show H1[base + o1]? = some (vp_cell _ _)
  rw [e]
  rw [vp_cell_q, vp_cell_q, arrV_store]
  congr 2
  funext q
  by_cases hq : q = i.toNatClampNeg
  · subst hq
    simp [updV, va_up, va_rf]
  · simp [updV, va_up, hq]
theorem bw_callv {P : (Nat → va_E) → Prop} {len' mc ms : Nat} {A1 : Nat → Prop} (hr : va_Run p l e R s m args below meth c H locs cells slots mc ms (F0 m pc ls st0) rest (va_Qv (fun f' : Nat → va_E => P f') (fun f' t => bw D cl base f' len' t.heap) A1 a) A1) (hA : ∀ q, A1 q → base ≤ q) (hS : va_S (fun q => base ≤ q) H0 H locs)
    (kk : ∀ (f' : Nat → va_E) (H1 : Heap) (locs1 : List Loc), P f' → bw D cl base f' len' H1 → va_S (fun q => base ≤ q) H0 H1 locs1 → W p l e R s m args below meth c H1 locs1 (cells + mc) (slots + ms) Q (F0 m (pc + 3) ls rest)) : W p l e R s m args below meth c H locs cells slots Q (F0 m pc ls st0) := by
  refine va_callv hr hS (fun q _ => hA q) hA (fun u t H1 locs1 ht hvm hp hB hz hk hS => ?_)
  exact kk u H1 locs1 hp (by rw [← ht]; exact hB) hS
end BW
