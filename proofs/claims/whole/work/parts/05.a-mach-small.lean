abbrev rm_H_put : Room := { frames := 0, cells := 0, slots := 0, locals := 0 }
set_option maxHeartbeats 4000000 in
set_option maxRecDepth 100000 in
theorem c_H_put (l : Launch) (G : ec_G) (L : mm_L) (F n : Nat) (hI : mm_I (ec_cnt n) L) (σ : mm_M) (i0 : Nat) (a1 : Int32) (a2 : Int32) (hi0 : i0 < ec_cnt n 11) {out : mm_M} (hf : f_H_put F n σ i0 a1 a2 = some out) :
    Met l y_H_put (Cond.code y_H_put b_H_put 3 none :: tw_tbl) rm_H_put (va_Pc [.ref (L 11 i0), .int a1, .int a2] (mm_pre G.1 ec_cl (ec_T G) (ec_cnt n) L (ec_E G L n) σ))
      (va_Qv (fun (_ : Unit) => True) (fun _ t => mm_pre G.1 ec_cl (ec_T G) (ec_cnt n) L (ec_E G L n) out t) (mm_A (ec_cnt n) L)) 0 0 (mm_A (ec_cnt n) L) := by
  refine Met.ofW (cc := b_H_put) (maxL := 3) (ret := none) (by decide) rfl ?_
  intro p e s m args below meth c s₁ B hml hv
  obtain ⟨rfl, hW, hK⟩ := hv
  have hx := B.exec
  have hb := B.bytes
  have hr := B.returns
  have hts0 := atoms_spec (ws := Cond.code y_H_put b_H_put 3 none :: tw_tbl) B.pre
  have hts : ∀ w ∈ tw_tbl, w.before [.ref (L 11 i0), .int a1, .int a2].toArray s = true := fun w h => hts0 w (List.mem_cons_of_mem _ h)
  clear hts0
  have hown : s.vm.findClass "TwoPhaseCuts$Channel" = some m.cls := findClass_of_methodNamed B.named
  have hlocks := B.notSynchronized
  have hC : CallFix p m c b_H_put 3 s [.ref (L 11 i0), .int a1, .int a2].toArray tw_tbl "TwoPhaseCuts$Channel" := ⟨hx, hb, hml, hown, hts⟩
  have hS : va_S (mm_A (ec_cnt n) L) s.heap s.heap [] := va_S.rf
  have hl := lv_entry ([.ref (L 11 i0), .int a1, .int a2]) (n := 3) (Nat.le_of_ble_eq_true rfl)
  rw [lg_entry_eq]
  generalize (lg_sl ([.ref (L 11 i0), .int a1, .int a2]) ++ List.replicate (3 - (lg_sl ([.ref (L 11 i0), .int a1, .int a2])).length) Slot.unset).toArray = ls at hl ⊢
  have hl : lv_has ls 3 [(0, .ref (L 11 i0)), (1, .int a1), (2, .int a2)] := hl
  have hW : mm_W G.1 ec_cl (ec_cnt n) L (ec_E G L n) σ s.heap := hW
  clear B
  show W p l e rm_H_put s m [.ref (L 11 i0), .int a1, .int a2].toArray below meth c s.heap [] 0 0 (MQ below (va_Qv (fun (_ : Unit) => True) (fun _ t => mm_pre G.1 ec_cl (ec_T G) (ec_cnt n) L (ec_E G L n) out t) (mm_A (ec_cnt n) L)) [.ref (L 11 i0), .int a1, .int a2].toArray s 0 0 (mm_A (ec_cnt n) L)) (F0 m 0 ls [])
  unfold f_H_put at hf
  refine lv_aload_n hx hb d_H_put_0 rfl (lv_at hl 0 rfl) ?_
  refine va_get (D := G.1) (ci := 3) (C := "TwoPhaseCuts$Channel") (T := T_H) (N := 3) (v := .int (σ 11 i0 2)) hx hb hts ui_H hown hK (hW.one (k := 11) (i := i0) hi0) 0 rfl rfl 2 (by decide) (hts _ tw_110) (fun _ h9 => h9) rfl d_H_put_1 ?_
  refine lv_bipush (v := (6 : Int32)) hx hb d_H_put_4 (by decide) ?_
  obtain ⟨u1, hu1, hf⟩ := mm_bind hf
  have jp1 : ∀ (H : Heap) (locs : List Loc) (ls : Array Slot), mm_W G.1 ec_cl (ec_cnt n) L (ec_E G L n) u1 H → va_S (mm_A (ec_cnt n) L) s.heap H locs → lv_has ls 3 [] → W p l e rm_H_put s m [.ref (L 11 i0), .int a1, .int a2].toArray below meth c H locs 0 0 (MQ below (va_Qv (fun (_ : Unit) => True) (fun _ t => mm_pre G.1 ec_cl (ec_T G) (ec_cnt n) L (ec_E G L n) out t) (mm_A (ec_cnt n) L)) [.ref (L 11 i0), .int a1, .int a2].toArray s 0 0 (mm_A (ec_cnt n) L)) (F0 m 39 ls []) := by
    intro H locs ls hW hS hl
    obtain rfl := Option.some.inj hf
    exact W.vret hx hb hr (fun t ht hw => ⟨⟨(), rfl, trivial, (mm_back ht hw hW hK)⟩, hS.F ht⟩) hS.2.2 d_H_put_39
  clear hf
  have hf := hu1
  clear hu1
  refine lv_icmp_ge (tgt := 39) hx hb d_H_put_6 (by decide) (fun hc => ?_) (fun hc => ?_)
  · rw [if_pos hc] at hf
    obtain rfl := Option.some.inj hf
    exact jp1 _ _ _ hW hS (lv_sub hl [] rfl)
  · rw [if_neg hc] at hf
    refine lv_aload_n hx hb d_H_put_9 rfl (lv_at hl 0 rfl) ?_
    refine va_get (D := G.1) (ci := 3) (C := "TwoPhaseCuts$Channel") (T := T_H) (N := 3) (v := .ref (L 12 i0)) hx hb hts ui_H hown hK (hW.one (k := 11) (i := i0) hi0) 0 rfl rfl 0 (by decide) (hts _ tw_106) (fun _ h9 => h9) rfl d_H_put_10 ?_
    refine lv_aload_n hx hb d_H_put_13 rfl (lv_at hl 0 rfl) ?_
    refine va_get (D := G.1) (ci := 3) (C := "TwoPhaseCuts$Channel") (T := T_H) (N := 3) (v := .int (σ 11 i0 2)) hx hb hts ui_H hown hK (hW.one (k := 11) (i := i0) hi0) 0 rfl rfl 2 (by decide) (hts _ tw_110) (fun _ h9 => h9) rfl d_H_put_14 ?_
    refine lv_iload_n hx hb d_H_put_17 rfl (lv_at hl 1 rfl) ?_
    obtain ⟨hg1, hf⟩ := mm_guard hf
    refine mm_iast hx hb hK hI hW hS (k := 12) (i := i0) hi0 (fun _ => rfl) (t0 := 0) rfl (mm_vp hg1) d_H_put_18 (fun H locs hW hS => ?_)
    refine lv_aload_n hx hb d_H_put_19 rfl (lv_at hl 0 rfl) ?_
    refine va_get (D := G.1) (ci := 3) (C := "TwoPhaseCuts$Channel") (T := T_H) (N := 3) (v := .ref (L 13 i0)) hx hb hts ui_H hown hK (hW.one (k := 11) (i := i0) hi0) 0 rfl rfl 1 (by decide) (hts _ tw_108) (fun _ h9 => h9) rfl d_H_put_20 ?_
    refine lv_aload_n hx hb d_H_put_23 rfl (lv_at hl 0 rfl) ?_
    refine va_get (D := G.1) (ci := 3) (C := "TwoPhaseCuts$Channel") (T := T_H) (N := 3) (v := .int (σ 11 i0 2)) hx hb hts ui_H hown hK (hW.one (k := 11) (i := i0) hi0) 0 rfl rfl 2 (by decide) (hts _ tw_110) (fun _ h9 => h9) rfl d_H_put_24 ?_
    refine lv_iload_n hx hb d_H_put_27 rfl (lv_at hl 2 rfl) ?_
    refine mm_iast hx hb hK hI hW hS (k := 13) (i := i0) hi0 (fun _ => rfl) (t0 := 0) rfl (mm_vp hg1) d_H_put_28 (fun H locs hW hS => ?_)
    refine lv_aload_n hx hb d_H_put_29 rfl (lv_at hl 0 rfl) ?_
    refine lv_dup hx hb d_H_put_30 rfl ?_
    refine va_get (D := G.1) (ci := 3) (C := "TwoPhaseCuts$Channel") (T := T_H) (N := 3) (v := .int (σ 11 i0 2)) hx hb hts ui_H hown hK (hW.one (k := 11) (i := i0) hi0) 0 rfl rfl 2 (by decide) (hts _ tw_110) (fun _ h9 => h9) rfl d_H_put_31 ?_
    refine lv_iconst (v := (1 : Int32)) hx hb d_H_put_34 (by decide) ?_
    refine lv_iadd hx hb d_H_put_35 ?_
    refine mm_put (D := G.1) (ci := 3) (C := "TwoPhaseCuts$Channel") (T := T_H) (N := 3) (x := ((σ 11 i0 2) + (1 : Int32))) hx hb hts ui_H ty_H tyo_H nmo_H hown hK hI hW hS (k := 11) (i := i0) hi0 rfl rfl 2 (by decide) (hts _ tw_110) (fun _ h9 => h9) rfl (ty := .int) (by decide +kernel) (vp_nar_int _) rfl (Nat.le_of_ble_eq_true rfl) rfl d_H_put_36 (fun H locs hW hS => ?_)
    obtain rfl := Option.some.inj hf
    exact jp1 _ _ _ hW hS (lv_sub hl [] rfl)
abbrev rm_H_takeFirst : Room := { frames := 1, cells := 0, slots := 0, locals := 21 }
set_option maxHeartbeats 4000000 in
set_option maxRecDepth 100000 in
theorem w_H_takeFirst_l2 (l : Launch) (G : ec_G) (L : mm_L) {p : Program} {e : Env} {s : State} {m : MethodId} {args : Array Value} {below : List Frame} {meth : Method} {c : Code} {H0 : Heap} {Q : State → Prop} (F n : Nat) (hI : mm_I (ec_cnt n) L) (hC : CallFix p m c b_H_takeFirst 2 s args tw_tbl "TwoPhaseCuts$Channel") (hK : va_K G.1 ec_cl (ec_T G) s) (i0 : Nat) (hi0 : i0 < ec_cnt n 11) {out : mm_M} :
    ∀ (K : Nat) (σ : mm_M) (v1 : Int32) (H : Heap) (locs : List Loc) (ls : Array Slot), f_H_takeFirst_l2 F n i0 K σ v1 = some out → mm_W G.1 ec_cl (ec_cnt n) L (ec_E G L n) σ H → va_S (mm_A (ec_cnt n) L) H0 H locs → lv_has ls 2 [(0, .ref (L 11 i0)), (1, .int v1)] →
    (∀ (H : Heap) (locs : List Loc) (ls : Array Slot), mm_W G.1 ec_cl (ec_cnt n) L (ec_E G L n) out H → va_S (mm_A (ec_cnt n) L) H0 H locs → lv_has ls 2 [(0, .ref (L 11 i0))] → W p l e rm_H_takeFirst s m args below meth c H locs 0 0 Q (F0 m 44 ls [])) →
    W p l e rm_H_takeFirst s m args below meth c H locs 0 0 Q (F0 m 2 ls []) := by
  obtain ⟨hx, hb, hml, hown, hts⟩ := id hC
  intro K
  induction K with
  | zero =>
    intro σ v1 H locs ls hf
    simp [f_H_takeFirst_l2] at hf
  | succ K ih =>
    intro σ v1 H locs ls hf hW hS hl kx
    rw [f_H_takeFirst_l2] at hf
    refine lv_iload_n hx hb d_H_takeFirst_2 rfl (lv_at hl 1 rfl) ?_
    refine lv_aload_n hx hb d_H_takeFirst_3 rfl (lv_at hl 0 rfl) ?_
    refine va_get (D := G.1) (ci := 3) (C := "TwoPhaseCuts$Channel") (T := T_H) (N := 3) (v := .int (σ 11 i0 2)) hx hb hts ui_H hown hK (hW.one (k := 11) (i := i0) hi0) 0 rfl rfl 2 (by decide) (hts _ tw_110) (fun _ h9 => h9) rfl d_H_takeFirst_4 ?_
    refine lv_icmp_ge (tgt := 44) hx hb d_H_takeFirst_7 (by decide) (fun hc => ?_) (fun hc => ?_)
    · rw [if_pos hc] at hf
      obtain rfl := Option.some.inj hf
      exact kx _ _ _ hW hS (lv_sub hl [0] rfl)
    · rw [if_neg hc] at hf
      refine lv_aload_n hx hb d_H_takeFirst_10 rfl (lv_at hl 0 rfl) ?_
      refine va_get (D := G.1) (ci := 3) (C := "TwoPhaseCuts$Channel") (T := T_H) (N := 3) (v := .ref (L 12 i0)) hx hb hts ui_H hown hK (hW.one (k := 11) (i := i0) hi0) 0 rfl rfl 0 (by decide) (hts _ tw_106) (fun _ h9 => h9) rfl d_H_takeFirst_11 ?_
      refine lv_iload_n hx hb d_H_takeFirst_14 rfl (lv_at hl 1 rfl) ?_
      refine lv_iconst (v := (1 : Int32)) hx hb d_H_takeFirst_15 (by decide) ?_
      refine lv_isub hx hb d_H_takeFirst_16 ?_
      refine lv_aload_n hx hb d_H_takeFirst_17 rfl (lv_at hl 0 rfl) ?_
      refine va_get (D := G.1) (ci := 3) (C := "TwoPhaseCuts$Channel") (T := T_H) (N := 3) (v := .ref (L 12 i0)) hx hb hts ui_H hown hK (hW.one (k := 11) (i := i0) hi0) 0 rfl rfl 0 (by decide) (hts _ tw_106) (fun _ h9 => h9) rfl d_H_takeFirst_18 ?_
      refine lv_iload_n hx hb d_H_takeFirst_21 rfl (lv_at hl 1 rfl) ?_
      obtain ⟨hg1, hf⟩ := mm_guard hf
      refine va_iald (D := G.1) (cl := ec_cl) hx hb hK (hW.one (k := 12) (i := i0) hi0) 0 0 rfl rfl (mm_vp hg1) d_H_takeFirst_22 ?_
      refine mm_top (y := (σ 12 i0 (Int32.toNatClampNeg v1))) rfl ?_
      obtain ⟨hg2, hf⟩ := mm_guard hf
      refine mm_iast hx hb hK hI hW hS (k := 12) (i := i0) hi0 (fun _ => rfl) (t0 := 0) rfl (mm_vp hg2) d_H_takeFirst_23 (fun H locs hW hS => ?_)
      refine lv_aload_n hx hb d_H_takeFirst_24 rfl (lv_at hl 0 rfl) ?_
      refine va_get (D := G.1) (ci := 3) (C := "TwoPhaseCuts$Channel") (T := T_H) (N := 3) (v := .ref (L 13 i0)) hx hb hts ui_H hown hK (hW.one (k := 11) (i := i0) hi0) 0 rfl rfl 1 (by decide) (hts _ tw_108) (fun _ h9 => h9) rfl d_H_takeFirst_25 ?_
      refine lv_iload_n hx hb d_H_takeFirst_28 rfl (lv_at hl 1 rfl) ?_
      refine lv_iconst (v := (1 : Int32)) hx hb d_H_takeFirst_29 (by decide) ?_
      refine lv_isub hx hb d_H_takeFirst_30 ?_
      refine lv_aload_n hx hb d_H_takeFirst_31 rfl (lv_at hl 0 rfl) ?_
      refine va_get (D := G.1) (ci := 3) (C := "TwoPhaseCuts$Channel") (T := T_H) (N := 3) (v := .ref (L 13 i0)) hx hb hts ui_H hown hK (hW.one (k := 11) (i := i0) hi0) 0 rfl rfl 1 (by decide) (hts _ tw_108) (fun _ h9 => h9) rfl d_H_takeFirst_32 ?_
      refine lv_iload_n hx hb d_H_takeFirst_35 rfl (lv_at hl 1 rfl) ?_
      refine va_iald (D := G.1) (cl := ec_cl) hx hb hK (hW.one (k := 13) (i := i0) hi0) 0 0 rfl rfl (mm_vp hg1) d_H_takeFirst_36 ?_
      refine mm_top (y := (σ 13 i0 (Int32.toNatClampNeg v1))) rfl ?_
      refine mm_iast hx hb hK hI hW hS (k := 13) (i := i0) hi0 (fun _ => rfl) (t0 := 0) rfl (mm_vp hg2) d_H_takeFirst_37 (fun H locs hW hS => ?_)
      refine lv_iinc (v := (v1 + (1 : Int32))) (lv' := [(1, .int (v1 + (1 : Int32))), (0, .ref (L 11 i0))]) hx hb d_H_takeFirst_38 hl (k := 1) rfl (mm_inc _) (by decide) rfl (fun ls hl => ?_)
      refine lv_goto (tgt := 2) hx hb d_H_takeFirst_41 (by decide) ?_
      exact ih _ _ _ _ _ hf hW hS (lv_sub hl [1, 0] rfl) kx
set_option maxHeartbeats 4000000 in
set_option maxRecDepth 100000 in
theorem c_H_takeFirst (l : Launch) (G : ec_G) (L : mm_L) (F n : Nat) (hI : mm_I (ec_cnt n) L) (σ : mm_M) (i0 : Nat) (hi0 : i0 < ec_cnt n 11) {out : mm_M} (hf : f_H_takeFirst F n σ i0 = some out) :
    Met l y_H_takeFirst (Cond.code y_H_takeFirst b_H_takeFirst 2 none :: tw_tbl) rm_H_takeFirst (va_Pc [.ref (L 11 i0)] (mm_pre G.1 ec_cl (ec_T G) (ec_cnt n) L (ec_E G L n) σ))
      (va_Qv (fun (_ : Unit) => True) (fun _ t => mm_pre G.1 ec_cl (ec_T G) (ec_cnt n) L (ec_E G L n) out t) (mm_A (ec_cnt n) L)) 0 0 (mm_A (ec_cnt n) L) := by
  refine Met.ofW (cc := b_H_takeFirst) (maxL := 2) (ret := none) (by decide) rfl ?_
  intro p e s m args below meth c s₁ B hml hv
  obtain ⟨rfl, hW, hK⟩ := hv
  have hx := B.exec
  have hb := B.bytes
  have hr := B.returns
  have hts0 := atoms_spec (ws := Cond.code y_H_takeFirst b_H_takeFirst 2 none :: tw_tbl) B.pre
  have hts : ∀ w ∈ tw_tbl, w.before [.ref (L 11 i0)].toArray s = true := fun w h => hts0 w (List.mem_cons_of_mem _ h)
  clear hts0
  have hown : s.vm.findClass "TwoPhaseCuts$Channel" = some m.cls := findClass_of_methodNamed B.named
  have hlocks := B.notSynchronized
  have hC : CallFix p m c b_H_takeFirst 2 s [.ref (L 11 i0)].toArray tw_tbl "TwoPhaseCuts$Channel" := ⟨hx, hb, hml, hown, hts⟩
  have hS : va_S (mm_A (ec_cnt n) L) s.heap s.heap [] := va_S.rf
  have hl := lv_entry ([.ref (L 11 i0)]) (n := 2) (Nat.le_of_ble_eq_true rfl)
  rw [lg_entry_eq]
  generalize (lg_sl ([.ref (L 11 i0)]) ++ List.replicate (2 - (lg_sl ([.ref (L 11 i0)])).length) Slot.unset).toArray = ls at hl ⊢
  have hl : lv_has ls 2 [(0, .ref (L 11 i0))] := hl
  have hW : mm_W G.1 ec_cl (ec_cnt n) L (ec_E G L n) σ s.heap := hW
  clear B
  show W p l e rm_H_takeFirst s m [.ref (L 11 i0)].toArray below meth c s.heap [] 0 0 (MQ below (va_Qv (fun (_ : Unit) => True) (fun _ t => mm_pre G.1 ec_cl (ec_T G) (ec_cnt n) L (ec_E G L n) out t) (mm_A (ec_cnt n) L)) [.ref (L 11 i0)].toArray s 0 0 (mm_A (ec_cnt n) L)) (F0 m 0 ls [])
  unfold f_H_takeFirst at hf
  refine lv_iconst (v := (1 : Int32)) hx hb d_H_takeFirst_0 (by decide) ?_
  refine lv_istore_n (lv' := [(1, .int (1 : Int32)), (0, .ref (L 11 i0))]) hx hb d_H_takeFirst_1 rfl hl (by decide) rfl (fun ls hl => ?_)
  obtain ⟨u1, hu1, hf⟩ := mm_bind hf
  refine w_H_takeFirst_l2 l G L F n hI hC hK i0 hi0 F σ (1 : Int32) _ _ _ hu1 hW hS (lv_sub hl [1, 0] rfl) (fun H locs ls hW hS hl => ?_)
  refine lv_aload_n hx hb d_H_takeFirst_44 rfl (lv_at hl 0 rfl) ?_
  refine lv_iconst (v := (0 : Int32)) hx hb d_H_takeFirst_45 (by decide) ?_
  refine lv_aload_n hx hb d_H_takeFirst_46 rfl (lv_at hl 0 rfl) ?_
  refine va_get (D := G.1) (ci := 3) (C := "TwoPhaseCuts$Channel") (T := T_H) (N := 3) (v := .int (u1 11 i0 2)) hx hb hts ui_H hown hK (hW.one (k := 11) (i := i0) hi0) 0 rfl rfl 2 (by decide) (hts _ tw_110) (fun _ h9 => h9) rfl d_H_takeFirst_47 ?_
  refine lv_iconst (v := (1 : Int32)) hx hb d_H_takeFirst_50 (by decide) ?_
  refine lv_isub hx hb d_H_takeFirst_51 ?_
  refine va_mmax hx hb (hml.trans hl.1.symm) hown (hts _ tw_227) (hts _ tw_21) (hts _ tw_2) (hts _ tw_22) (Nat.le_of_ble_eq_true rfl) (Nat.le_of_ble_eq_true rfl) (Nat.zero_le _) (Nat.zero_le _) d_H_takeFirst_52 ?_
  refine mm_put (D := G.1) (ci := 3) (C := "TwoPhaseCuts$Channel") (T := T_H) (N := 3) (x := (if (0 : Int32) < ((u1 11 i0 2) - (1 : Int32)) then ((u1 11 i0 2) - (1 : Int32)) else (0 : Int32))) hx hb hts ui_H ty_H tyo_H nmo_H hown hK hI hW hS (k := 11) (i := i0) hi0 rfl rfl 2 (by decide) (hts _ tw_110) (fun _ h9 => h9) rfl (ty := .int) (by decide +kernel) (vp_nar_int _) rfl (Nat.le_of_ble_eq_true rfl) rfl d_H_takeFirst_55 (fun H locs hW hS => ?_)
  obtain rfl := Option.some.inj hf
  exact W.vret hx hb hr (fun t ht hw => ⟨⟨(), rfl, trivial, (mm_back ht hw hW hK)⟩, hS.F ht⟩) hS.2.2 d_H_takeFirst_58
abbrev rm_H_takeAbove : Room := { frames := 0, cells := 0, slots := 0, locals := 0 }
set_option maxHeartbeats 4000000 in
set_option maxRecDepth 100000 in
theorem w_H_takeAbove_l4 (l : Launch) (G : ec_G) (L : mm_L) {p : Program} {e : Env} {s : State} {m : MethodId} {args : Array Value} {below : List Frame} {meth : Method} {c : Code} {H0 : Heap} {Q : State → Prop} (F n : Nat) (hI : mm_I (ec_cnt n) L) (hC : CallFix p m c b_H_takeAbove 4 s args tw_tbl "TwoPhaseCuts$Channel") (hK : va_K G.1 ec_cl (ec_T G) s) (i0 : Nat) (x1 : Int32) (hi0 : i0 < ec_cnt n 11) {out : mm_M × Int32} :
    ∀ (K : Nat) (σ : mm_M) (v2 : Int32) (v3 : Int32) (H : Heap) (locs : List Loc) (ls : Array Slot), f_H_takeAbove_l4 F n i0 x1 K σ v2 v3 = some out → mm_W G.1 ec_cl (ec_cnt n) L (ec_E G L n) σ H → va_S (mm_A (ec_cnt n) L) H0 H locs → lv_has ls 4 [(0, .ref (L 11 i0)), (1, .int x1), (2, .int v2), (3, .int v3)] →
    (∀ (H : Heap) (locs : List Loc) (ls : Array Slot), mm_W G.1 ec_cl (ec_cnt n) L (ec_E G L n) out.1 H → va_S (mm_A (ec_cnt n) L) H0 H locs → lv_has ls 4 [(0, .ref (L 11 i0)), (2, .int out.2)] → W p l e rm_H_takeAbove s m args below meth c H locs 0 0 Q (F0 m 55 ls [])) →
    W p l e rm_H_takeAbove s m args below meth c H locs 0 0 Q (F0 m 4 ls []) := by
  obtain ⟨hx, hb, hml, hown, hts⟩ := id hC
  intro K
  induction K with
  | zero =>
    intro σ v2 v3 H locs ls hf
    simp [f_H_takeAbove_l4] at hf
  | succ K ih =>
    intro σ v2 v3 H locs ls hf hW hS hl kx
    rw [f_H_takeAbove_l4] at hf
    refine lv_iload_n hx hb d_H_takeAbove_4 rfl (lv_at hl 3 rfl) ?_
    refine lv_aload_n hx hb d_H_takeAbove_5 rfl (lv_at hl 0 rfl) ?_
    refine va_get (D := G.1) (ci := 3) (C := "TwoPhaseCuts$Channel") (T := T_H) (N := 3) (v := .int (σ 11 i0 2)) hx hb hts ui_H hown hK (hW.one (k := 11) (i := i0) hi0) 0 rfl rfl 2 (by decide) (hts _ tw_110) (fun _ h9 => h9) rfl d_H_takeAbove_6 ?_
    refine lv_icmp_ge (tgt := 55) hx hb d_H_takeAbove_9 (by decide) (fun hc => ?_) (fun hc => ?_)
    · rw [if_pos hc] at hf
      obtain rfl := Option.some.inj hf
      exact kx _ _ _ hW hS (lv_sub hl [0, 2] rfl)
    · rw [if_neg hc] at hf
      refine lv_aload_n hx hb d_H_takeAbove_12 rfl (lv_at hl 0 rfl) ?_
      refine va_get (D := G.1) (ci := 3) (C := "TwoPhaseCuts$Channel") (T := T_H) (N := 3) (v := .ref (L 12 i0)) hx hb hts ui_H hown hK (hW.one (k := 11) (i := i0) hi0) 0 rfl rfl 0 (by decide) (hts _ tw_106) (fun _ h9 => h9) rfl d_H_takeAbove_13 ?_
      refine lv_iload_n hx hb d_H_takeAbove_16 rfl (lv_at hl 3 rfl) ?_
      obtain ⟨hg1, hf⟩ := mm_guard hf
      refine va_iald (D := G.1) (cl := ec_cl) hx hb hK (hW.one (k := 12) (i := i0) hi0) 0 0 rfl rfl (mm_vp hg1) d_H_takeAbove_17 ?_
      refine mm_top (y := (σ 12 i0 (Int32.toNatClampNeg v3))) rfl ?_
      refine lv_iload_n hx hb d_H_takeAbove_18 rfl (lv_at hl 1 rfl) ?_
      obtain ⟨u1, hu1, hf⟩ := mm_bind hf
      have jp1 : ∀ (H : Heap) (locs : List Loc) (ls : Array Slot), mm_W G.1 ec_cl (ec_cnt n) L (ec_E G L n) u1.1 H → va_S (mm_A (ec_cnt n) L) H0 H locs → lv_has ls 4 [(0, .ref (L 11 i0)), (1, .int x1), (2, .int u1.2), (3, .int v3)] → W p l e rm_H_takeAbove s m args below meth c H locs 0 0 Q (F0 m 49 ls []) := by
        intro H locs ls hW hS hl
        refine lv_iinc (v := (v3 + (1 : Int32))) (lv' := [(3, .int (v3 + (1 : Int32))), (0, .ref (L 11 i0)), (1, .int x1), (2, .int u1.2)]) hx hb d_H_takeAbove_49 hl (k := 3) rfl (mm_inc _) (by decide) rfl (fun ls hl => ?_)
        refine lv_goto (tgt := 4) hx hb d_H_takeAbove_52 (by decide) ?_
        exact ih _ _ _ _ _ _ hf hW hS (lv_sub hl [1, 2, 3, 0] rfl) kx
      clear hf
      have hf := hu1
      clear hu1
      refine lv_icmp_gt (tgt := 49) hx hb d_H_takeAbove_19 (by decide) (fun hc => ?_) (fun hc => ?_)
      · rw [if_pos hc] at hf
        obtain rfl := Option.some.inj hf
        exact jp1 _ _ _ hW hS (lv_sub hl [0, 1, 2, 3] rfl)
      · rw [if_neg hc] at hf
        refine lv_aload_n hx hb d_H_takeAbove_22 rfl (lv_at hl 0 rfl) ?_
        refine va_get (D := G.1) (ci := 3) (C := "TwoPhaseCuts$Channel") (T := T_H) (N := 3) (v := .ref (L 12 i0)) hx hb hts ui_H hown hK (hW.one (k := 11) (i := i0) hi0) 0 rfl rfl 0 (by decide) (hts _ tw_106) (fun _ h9 => h9) rfl d_H_takeAbove_23 ?_
        refine lv_iload_n hx hb d_H_takeAbove_26 rfl (lv_at hl 2 rfl) ?_
        refine lv_aload_n hx hb d_H_takeAbove_27 rfl (lv_at hl 0 rfl) ?_
        refine va_get (D := G.1) (ci := 3) (C := "TwoPhaseCuts$Channel") (T := T_H) (N := 3) (v := .ref (L 12 i0)) hx hb hts ui_H hown hK (hW.one (k := 11) (i := i0) hi0) 0 rfl rfl 0 (by decide) (hts _ tw_106) (fun _ h9 => h9) rfl d_H_takeAbove_28 ?_
        refine lv_iload_n hx hb d_H_takeAbove_31 rfl (lv_at hl 3 rfl) ?_
        refine va_iald (D := G.1) (cl := ec_cl) hx hb hK (hW.one (k := 12) (i := i0) hi0) 0 0 rfl rfl (mm_vp hg1) d_H_takeAbove_32 ?_
        refine mm_top (y := (σ 12 i0 (Int32.toNatClampNeg v3))) rfl ?_
        obtain ⟨hg2, hf⟩ := mm_guard hf
        refine mm_iast hx hb hK hI hW hS (k := 12) (i := i0) hi0 (fun _ => rfl) (t0 := 0) rfl (mm_vp hg2) d_H_takeAbove_33 (fun H locs hW hS => ?_)
        refine lv_aload_n hx hb d_H_takeAbove_34 rfl (lv_at hl 0 rfl) ?_
        refine va_get (D := G.1) (ci := 3) (C := "TwoPhaseCuts$Channel") (T := T_H) (N := 3) (v := .ref (L 13 i0)) hx hb hts ui_H hown hK (hW.one (k := 11) (i := i0) hi0) 0 rfl rfl 1 (by decide) (hts _ tw_108) (fun _ h9 => h9) rfl d_H_takeAbove_35 ?_
        refine lv_iload_n hx hb d_H_takeAbove_38 rfl (lv_at hl 2 rfl) ?_
        refine lv_aload_n hx hb d_H_takeAbove_39 rfl (lv_at hl 0 rfl) ?_
        refine va_get (D := G.1) (ci := 3) (C := "TwoPhaseCuts$Channel") (T := T_H) (N := 3) (v := .ref (L 13 i0)) hx hb hts ui_H hown hK (hW.one (k := 11) (i := i0) hi0) 0 rfl rfl 1 (by decide) (hts _ tw_108) (fun _ h9 => h9) rfl d_H_takeAbove_40 ?_
        refine lv_iload_n hx hb d_H_takeAbove_43 rfl (lv_at hl 3 rfl) ?_
        refine va_iald (D := G.1) (cl := ec_cl) hx hb hK (hW.one (k := 13) (i := i0) hi0) 0 0 rfl rfl (mm_vp hg1) d_H_takeAbove_44 ?_
        refine mm_top (y := (σ 13 i0 (Int32.toNatClampNeg v3))) rfl ?_
        refine mm_iast hx hb hK hI hW hS (k := 13) (i := i0) hi0 (fun _ => rfl) (t0 := 0) rfl (mm_vp hg2) d_H_takeAbove_45 (fun H locs hW hS => ?_)
        refine lv_iinc (v := (v2 + (1 : Int32))) (lv' := [(2, .int (v2 + (1 : Int32))), (0, .ref (L 11 i0)), (1, .int x1), (3, .int v3)]) hx hb d_H_takeAbove_46 hl (k := 2) rfl (mm_inc _) (by decide) rfl (fun ls hl => ?_)
        obtain rfl := Option.some.inj hf
        exact jp1 _ _ _ hW hS (lv_sub hl [1, 2, 0, 3] rfl)
set_option maxHeartbeats 4000000 in
set_option maxRecDepth 100000 in
theorem c_H_takeAbove (l : Launch) (G : ec_G) (L : mm_L) (F n : Nat) (hI : mm_I (ec_cnt n) L) (σ : mm_M) (i0 : Nat) (a1 : Int32) (hi0 : i0 < ec_cnt n 11) {out : mm_M} (hf : f_H_takeAbove F n σ i0 a1 = some out) :
    Met l y_H_takeAbove (Cond.code y_H_takeAbove b_H_takeAbove 4 none :: tw_tbl) rm_H_takeAbove (va_Pc [.ref (L 11 i0), .int a1] (mm_pre G.1 ec_cl (ec_T G) (ec_cnt n) L (ec_E G L n) σ))
      (va_Qv (fun (_ : Unit) => True) (fun _ t => mm_pre G.1 ec_cl (ec_T G) (ec_cnt n) L (ec_E G L n) out t) (mm_A (ec_cnt n) L)) 0 0 (mm_A (ec_cnt n) L) := by
  refine Met.ofW (cc := b_H_takeAbove) (maxL := 4) (ret := none) (by decide) rfl ?_
  intro p e s m args below meth c s₁ B hml hv
  obtain ⟨rfl, hW, hK⟩ := hv
  have hx := B.exec
  have hb := B.bytes
  have hr := B.returns
  have hts0 := atoms_spec (ws := Cond.code y_H_takeAbove b_H_takeAbove 4 none :: tw_tbl) B.pre
  have hts : ∀ w ∈ tw_tbl, w.before [.ref (L 11 i0), .int a1].toArray s = true := fun w h => hts0 w (List.mem_cons_of_mem _ h)
  clear hts0
  have hown : s.vm.findClass "TwoPhaseCuts$Channel" = some m.cls := findClass_of_methodNamed B.named
  have hlocks := B.notSynchronized
  have hC : CallFix p m c b_H_takeAbove 4 s [.ref (L 11 i0), .int a1].toArray tw_tbl "TwoPhaseCuts$Channel" := ⟨hx, hb, hml, hown, hts⟩
  have hS : va_S (mm_A (ec_cnt n) L) s.heap s.heap [] := va_S.rf
  have hl := lv_entry ([.ref (L 11 i0), .int a1]) (n := 4) (Nat.le_of_ble_eq_true rfl)
  rw [lg_entry_eq]
  generalize (lg_sl ([.ref (L 11 i0), .int a1]) ++ List.replicate (4 - (lg_sl ([.ref (L 11 i0), .int a1])).length) Slot.unset).toArray = ls at hl ⊢
  have hl : lv_has ls 4 [(0, .ref (L 11 i0)), (1, .int a1)] := hl
  have hW : mm_W G.1 ec_cl (ec_cnt n) L (ec_E G L n) σ s.heap := hW
  clear B
  show W p l e rm_H_takeAbove s m [.ref (L 11 i0), .int a1].toArray below meth c s.heap [] 0 0 (MQ below (va_Qv (fun (_ : Unit) => True) (fun _ t => mm_pre G.1 ec_cl (ec_T G) (ec_cnt n) L (ec_E G L n) out t) (mm_A (ec_cnt n) L)) [.ref (L 11 i0), .int a1].toArray s 0 0 (mm_A (ec_cnt n) L)) (F0 m 0 ls [])
  unfold f_H_takeAbove at hf
  refine lv_iconst (v := (0 : Int32)) hx hb d_H_takeAbove_0 (by decide) ?_
  refine lv_istore_n (lv' := [(2, .int (0 : Int32)), (0, .ref (L 11 i0)), (1, .int a1)]) hx hb d_H_takeAbove_1 rfl hl (by decide) rfl (fun ls hl => ?_)
  refine lv_iconst (v := (0 : Int32)) hx hb d_H_takeAbove_2 (by decide) ?_
  refine lv_istore_n (lv' := [(3, .int (0 : Int32)), (2, .int (0 : Int32)), (0, .ref (L 11 i0)), (1, .int a1)]) hx hb d_H_takeAbove_3 rfl hl (by decide) rfl (fun ls hl => ?_)
  obtain ⟨u1, hu1, hf⟩ := mm_bind hf
  refine w_H_takeAbove_l4 l G L F n hI hC hK i0 a1 hi0 F σ (0 : Int32) (0 : Int32) _ _ _ hu1 hW hS (lv_sub hl [2, 3, 1, 0] rfl) (fun H locs ls hW hS hl => ?_)
  refine lv_aload_n hx hb d_H_takeAbove_55 rfl (lv_at hl 0 rfl) ?_
  refine lv_iload_n hx hb d_H_takeAbove_56 rfl (lv_at hl 1 rfl) ?_
  refine mm_put (D := G.1) (ci := 3) (C := "TwoPhaseCuts$Channel") (T := T_H) (N := 3) (x := u1.2) hx hb hts ui_H ty_H tyo_H nmo_H hown hK hI hW hS (k := 11) (i := i0) hi0 rfl rfl 2 (by decide) (hts _ tw_110) (fun _ h9 => h9) rfl (ty := .int) (by decide +kernel) (vp_nar_int _) rfl (Nat.le_of_ble_eq_true rfl) rfl d_H_takeAbove_57 (fun H locs hW hS => ?_)
  obtain rfl := Option.some.inj hf
  exact W.vret hx hb hr (fun t ht hw => ⟨⟨(), rfl, trivial, (mm_back ht hw hW hK)⟩, hS.F ht⟩) hS.2.2 d_H_takeAbove_60
abbrev rm_S_copyFrom : Room := { frames := 0, cells := 0, slots := 0, locals := 0 }
set_option maxHeartbeats 4000000 in
set_option maxRecDepth 100000 in
theorem w_S_copyFrom_l10 (l : Launch) (G : ec_G) (L : mm_L) {p : Program} {e : Env} {s : State} {m : MethodId} {args : Array Value} {below : List Frame} {meth : Method} {c : Code} {H0 : Heap} {Q : State → Prop} (F n : Nat) (hI : mm_I (ec_cnt n) L) (hC : CallFix p m c b_S_copyFrom 3 s args tw_tbl "TwoPhaseCuts$State") (hK : va_K G.1 ec_cl (ec_T G) s) (i0 : Nat) (i1 : Nat) (hi0 : i0 < ec_cnt n 7) (hi1 : i1 < ec_cnt n 7) {out : mm_M} :
    ∀ (K : Nat) (σ : mm_M) (v2 : Int32) (H : Heap) (locs : List Loc) (ls : Array Slot), f_S_copyFrom_l10 F n i0 i1 K σ v2 = some out → mm_W G.1 ec_cl (ec_cnt n) L (ec_E G L n) σ H → va_S (mm_A (ec_cnt n) L) H0 H locs → lv_has ls 3 [(0, .ref (L 7 i0)), (1, .ref (L 7 i1)), (2, .int v2)] →
    (∀ (H : Heap) (locs : List Loc) (ls : Array Slot), mm_W G.1 ec_cl (ec_cnt n) L (ec_E G L n) out H → va_S (mm_A (ec_cnt n) L) H0 H locs → lv_has ls 3 [] → W p l e rm_S_copyFrom s m args below meth c H locs 0 0 Q (F0 m 49 ls [])) →
    W p l e rm_S_copyFrom s m args below meth c H locs 0 0 Q (F0 m 10 ls []) := by
  obtain ⟨hx, hb, hml, hown, hts⟩ := id hC
  intro K
  induction K with
  | zero =>
    intro σ v2 H locs ls hf
    simp [f_S_copyFrom_l10] at hf
  | succ K ih =>
    intro σ v2 H locs ls hf hW hS hl kx
    rw [f_S_copyFrom_l10] at hf
    refine lv_iload_n hx hb d_S_copyFrom_10 rfl (lv_at hl 2 rfl) ?_
    refine lv_aload_n hx hb d_S_copyFrom_11 rfl (lv_at hl 0 rfl) ?_
    refine va_get (D := G.1) (ci := 2) (C := "TwoPhaseCuts$State") (T := T_S) (N := 3) (v := .ref (L 8 i0)) hx hb hts ui_S hown hK (hW.one (k := 7) (i := i0) hi0) 0 rfl rfl 1 (by decide) (hts _ tw_38) (fun _ h9 => h9) rfl d_S_copyFrom_12 ?_
    refine va_alen (D := G.1) (cl := ec_cl) hx hb hK (hW.one (k := 8) (i := i0) hi0) 0 0 rfl rfl (v := nI n) rfl d_S_copyFrom_15 ?_
    refine lv_icmp_ge (tgt := 49) hx hb d_S_copyFrom_16 (by decide) (fun hc => ?_) (fun hc => ?_)
    · rw [if_pos hc] at hf
      obtain rfl := Option.some.inj hf
      exact kx _ _ _ hW hS (lv_sub hl [] rfl)
    · rw [if_neg hc] at hf
      refine lv_aload_n hx hb d_S_copyFrom_19 rfl (lv_at hl 0 rfl) ?_
      refine va_get (D := G.1) (ci := 2) (C := "TwoPhaseCuts$State") (T := T_S) (N := 3) (v := .ref (L 8 i0)) hx hb hts ui_S hown hK (hW.one (k := 7) (i := i0) hi0) 0 rfl rfl 1 (by decide) (hts _ tw_38) (fun _ h9 => h9) rfl d_S_copyFrom_20 ?_
      refine lv_iload_n hx hb d_S_copyFrom_23 rfl (lv_at hl 2 rfl) ?_
      refine lv_aload_n hx hb d_S_copyFrom_24 rfl (lv_at hl 1 rfl) ?_
      refine va_get (D := G.1) (ci := 2) (C := "TwoPhaseCuts$State") (T := T_S) (N := 3) (v := .ref (L 8 i1)) hx hb hts ui_S hown hK (hW.one (k := 7) (i := i1) hi1) 0 rfl rfl 1 (by decide) (hts _ tw_38) (fun _ h9 => h9) rfl d_S_copyFrom_25 ?_
      refine lv_iload_n hx hb d_S_copyFrom_28 rfl (lv_at hl 2 rfl) ?_
      obtain ⟨hg1, hf⟩ := mm_guard hf
      refine va_iald (D := G.1) (cl := ec_cl) hx hb hK (hW.one (k := 8) (i := i1) hi1) 0 0 rfl rfl (mm_vp hg1) d_S_copyFrom_29 ?_
      refine mm_top (y := (σ 8 i1 (Int32.toNatClampNeg v2))) rfl ?_
      refine mm_iast hx hb hK hI hW hS (k := 8) (i := i0) hi0 (fun _ => rfl) (t0 := 0) rfl (mm_vp hg1) d_S_copyFrom_30 (fun H locs hW hS => ?_)
      refine lv_aload_n hx hb d_S_copyFrom_31 rfl (lv_at hl 0 rfl) ?_
      refine va_get (D := G.1) (ci := 2) (C := "TwoPhaseCuts$State") (T := T_S) (N := 3) (v := .ref (L 9 i0)) hx hb hts ui_S hown hK (hW.one (k := 7) (i := i0) hi0) 0 rfl rfl 2 (by decide) (hts _ tw_41) (fun _ h9 => h9) rfl d_S_copyFrom_32 ?_
      refine lv_iload_n hx hb d_S_copyFrom_35 rfl (lv_at hl 2 rfl) ?_
      refine lv_aload_n hx hb d_S_copyFrom_36 rfl (lv_at hl 1 rfl) ?_
      refine va_get (D := G.1) (ci := 2) (C := "TwoPhaseCuts$State") (T := T_S) (N := 3) (v := .ref (L 9 i1)) hx hb hts ui_S hown hK (hW.one (k := 7) (i := i1) hi1) 0 rfl rfl 2 (by decide) (hts _ tw_41) (fun _ h9 => h9) rfl d_S_copyFrom_37 ?_
      refine lv_iload_n hx hb d_S_copyFrom_40 rfl (lv_at hl 2 rfl) ?_
      refine va_iald (D := G.1) (cl := ec_cl) hx hb hK (hW.one (k := 9) (i := i1) hi1) 0 0 rfl rfl (mm_vp hg1) d_S_copyFrom_41 ?_
      refine mm_top (y := (σ 9 i1 (Int32.toNatClampNeg v2))) rfl ?_
      refine mm_iast hx hb hK hI hW hS (k := 9) (i := i0) hi0 (fun _ => rfl) (t0 := 0) rfl (mm_vp hg1) d_S_copyFrom_42 (fun H locs hW hS => ?_)
      refine lv_iinc (v := (v2 + (1 : Int32))) (lv' := [(2, .int (v2 + (1 : Int32))), (0, .ref (L 7 i0)), (1, .ref (L 7 i1))]) hx hb d_S_copyFrom_43 hl (k := 2) rfl (mm_inc _) (by decide) rfl (fun ls hl => ?_)
      refine lv_goto (tgt := 10) hx hb d_S_copyFrom_46 (by decide) ?_
      exact ih _ _ _ _ _ hf hW hS (lv_sub hl [1, 2, 0] rfl) kx
set_option maxHeartbeats 4000000 in
set_option maxRecDepth 100000 in
theorem c_S_copyFrom (l : Launch) (G : ec_G) (L : mm_L) (F n : Nat) (hI : mm_I (ec_cnt n) L) (σ : mm_M) (i0 : Nat) (i1 : Nat) (hi0 : i0 < ec_cnt n 7) (hi1 : i1 < ec_cnt n 7) {out : mm_M} (hf : f_S_copyFrom F n σ i0 i1 = some out) :
    Met l y_S_copyFrom (Cond.code y_S_copyFrom b_S_copyFrom 3 none :: tw_tbl) rm_S_copyFrom (va_Pc [.ref (L 7 i0), .ref (L 7 i1)] (mm_pre G.1 ec_cl (ec_T G) (ec_cnt n) L (ec_E G L n) σ))
      (va_Qv (fun (_ : Unit) => True) (fun _ t => mm_pre G.1 ec_cl (ec_T G) (ec_cnt n) L (ec_E G L n) out t) (mm_A (ec_cnt n) L)) 0 0 (mm_A (ec_cnt n) L) := by
  refine Met.ofW (cc := b_S_copyFrom) (maxL := 3) (ret := none) (by decide) rfl ?_
  intro p e s m args below meth c s₁ B hml hv
  obtain ⟨rfl, hW, hK⟩ := hv
  have hx := B.exec
  have hb := B.bytes
  have hr := B.returns
  have hts0 := atoms_spec (ws := Cond.code y_S_copyFrom b_S_copyFrom 3 none :: tw_tbl) B.pre
  have hts : ∀ w ∈ tw_tbl, w.before [.ref (L 7 i0), .ref (L 7 i1)].toArray s = true := fun w h => hts0 w (List.mem_cons_of_mem _ h)
  clear hts0
  have hown : s.vm.findClass "TwoPhaseCuts$State" = some m.cls := findClass_of_methodNamed B.named
  have hlocks := B.notSynchronized
  have hC : CallFix p m c b_S_copyFrom 3 s [.ref (L 7 i0), .ref (L 7 i1)].toArray tw_tbl "TwoPhaseCuts$State" := ⟨hx, hb, hml, hown, hts⟩
  have hS : va_S (mm_A (ec_cnt n) L) s.heap s.heap [] := va_S.rf
  have hl := lv_entry ([.ref (L 7 i0), .ref (L 7 i1)]) (n := 3) (Nat.le_of_ble_eq_true rfl)
  rw [lg_entry_eq]
  generalize (lg_sl ([.ref (L 7 i0), .ref (L 7 i1)]) ++ List.replicate (3 - (lg_sl ([.ref (L 7 i0), .ref (L 7 i1)])).length) Slot.unset).toArray = ls at hl ⊢
  have hl : lv_has ls 3 [(0, .ref (L 7 i0)), (1, .ref (L 7 i1))] := hl
  have hW : mm_W G.1 ec_cl (ec_cnt n) L (ec_E G L n) σ s.heap := hW
  clear B
  show W p l e rm_S_copyFrom s m [.ref (L 7 i0), .ref (L 7 i1)].toArray below meth c s.heap [] 0 0 (MQ below (va_Qv (fun (_ : Unit) => True) (fun _ t => mm_pre G.1 ec_cl (ec_T G) (ec_cnt n) L (ec_E G L n) out t) (mm_A (ec_cnt n) L)) [.ref (L 7 i0), .ref (L 7 i1)].toArray s 0 0 (mm_A (ec_cnt n) L)) (F0 m 0 ls [])
  unfold f_S_copyFrom at hf
  refine lv_aload_n hx hb d_S_copyFrom_0 rfl (lv_at hl 0 rfl) ?_
  refine lv_aload_n hx hb d_S_copyFrom_1 rfl (lv_at hl 1 rfl) ?_
  refine va_get (D := G.1) (ci := 2) (C := "TwoPhaseCuts$State") (T := T_S) (N := 3) (v := .int (σ 7 i1 0)) hx hb hts ui_S hown hK (hW.one (k := 7) (i := i1) hi1) 0 rfl rfl 0 (by decide) (hts _ tw_36) (fun _ h9 => h9) rfl d_S_copyFrom_2 ?_
  refine mm_put (D := G.1) (ci := 2) (C := "TwoPhaseCuts$State") (T := T_S) (N := 3) (x := (σ 7 i1 0)) hx hb hts ui_S ty_S tyo_S nmo_S hown hK hI hW hS (k := 7) (i := i0) hi0 rfl rfl 0 (by decide) (hts _ tw_36) (fun _ h9 => h9) rfl (ty := .int) (by decide +kernel) (vp_nar_int _) rfl (Nat.le_of_ble_eq_true rfl) rfl d_S_copyFrom_5 (fun H locs hW hS => ?_)
  refine lv_iconst (v := (0 : Int32)) hx hb d_S_copyFrom_8 (by decide) ?_
  refine lv_istore_n (lv' := [(2, .int (0 : Int32)), (0, .ref (L 7 i0)), (1, .ref (L 7 i1))]) hx hb d_S_copyFrom_9 rfl hl (by decide) rfl (fun ls hl => ?_)
  obtain ⟨u1, hu1, hf⟩ := mm_bind hf
  refine w_S_copyFrom_l10 l G L F n hI hC hK i0 i1 hi0 hi1 F (mm_st σ 7 i0 0 (σ 7 i1 0)) (0 : Int32) _ _ _ hu1 hW hS (lv_sub hl [1, 2, 0] rfl) (fun H locs ls hW hS hl => ?_)
  obtain rfl := Option.some.inj hf
  exact W.vret hx hb hr (fun t ht hw => ⟨⟨(), rfl, trivial, (mm_back ht hw hW hK)⟩, hS.F ht⟩) hS.2.2 d_S_copyFrom_49
abbrev rm_M_isInvolved : Room := { frames := 0, cells := 0, slots := 0, locals := 0 }
set_option maxHeartbeats 4000000 in
set_option maxRecDepth 100000 in
theorem c_M_isInvolved (l : Launch) (G : ec_G) (L : mm_L) (F n : Nat) (hI : mm_I (ec_cnt n) L) (σ : mm_M) (i0 : Nat) (hi0 : i0 < ec_cnt n 6) {out : Int32} (hf : f_M_isInvolved F n σ i0 = some out) :
    Met l y_M_isInvolved (Cond.code y_M_isInvolved b_M_isInvolved 1 (some .boolean) :: tw_tbl) rm_M_isInvolved (va_Pc [.ref (L 6 i0)] (mm_pre G.1 ec_cl (ec_T G) (ec_cnt n) L (ec_E G L n) σ))
      (va_Qi (fun r (_ : Unit) => r = out) (fun _ t => mm_pre G.1 ec_cl (ec_T G) (ec_cnt n) L (ec_E G L n) σ t) (mm_A (ec_cnt n) L)) 0 0 (mm_A (ec_cnt n) L) := by
  refine Met.ofW (cc := b_M_isInvolved) (maxL := 1) (ret := (some .boolean)) (by decide) rfl ?_
  intro p e s m args below meth c s₁ B hml hv
  obtain ⟨rfl, hW, hK⟩ := hv
  have hx := B.exec
  have hb := B.bytes
  have hr := B.returns
  have hts0 := atoms_spec (ws := Cond.code y_M_isInvolved b_M_isInvolved 1 (some .boolean) :: tw_tbl) B.pre
  have hts : ∀ w ∈ tw_tbl, w.before [.ref (L 6 i0)].toArray s = true := fun w h => hts0 w (List.mem_cons_of_mem _ h)
  clear hts0
  have hown : s.vm.findClass "TwoPhaseCuts$Member" = some m.cls := findClass_of_methodNamed B.named
  have hlocks := B.notSynchronized
  have hC : CallFix p m c b_M_isInvolved 1 s [.ref (L 6 i0)].toArray tw_tbl "TwoPhaseCuts$Member" := ⟨hx, hb, hml, hown, hts⟩
  have hS : va_S (mm_A (ec_cnt n) L) s.heap s.heap [] := va_S.rf
  have hl := lv_entry ([.ref (L 6 i0)]) (n := 1) (Nat.le_of_ble_eq_true rfl)
  rw [lg_entry_eq]
  generalize (lg_sl ([.ref (L 6 i0)]) ++ List.replicate (1 - (lg_sl ([.ref (L 6 i0)])).length) Slot.unset).toArray = ls at hl ⊢
  have hl : lv_has ls 1 [(0, .ref (L 6 i0))] := hl
  have hW : mm_W G.1 ec_cl (ec_cnt n) L (ec_E G L n) σ s.heap := hW
  clear B
  show W p l e rm_M_isInvolved s m [.ref (L 6 i0)].toArray below meth c s.heap [] 0 0 (MQ below (va_Qi (fun r (_ : Unit) => r = out) (fun _ t => mm_pre G.1 ec_cl (ec_T G) (ec_cnt n) L (ec_E G L n) σ t) (mm_A (ec_cnt n) L)) [.ref (L 6 i0)].toArray s 0 0 (mm_A (ec_cnt n) L)) (F0 m 0 ls [])
  unfold f_M_isInvolved at hf
  refine lv_aload_n hx hb d_M_isInvolved_0 rfl (lv_at hl 0 rfl) ?_
  refine va_get (D := G.1) (ci := 1) (C := "TwoPhaseCuts$Member") (T := T_M) (N := 12) (v := .int (σ 6 i0 6)) hx hb hts ui_M hown hK (hW.one (k := 6) (i := i0) hi0) 0 rfl rfl 6 (by decide) (hts _ tw_62) (fun _ h9 => h9) rfl d_M_isInvolved_1 ?_
  obtain ⟨u1, hu1, hf⟩ := mm_bind hf
  have jp1 : ∀ (H : Heap) (locs : List Loc) (ls : Array Slot), mm_W G.1 ec_cl (ec_cnt n) L (ec_E G L n) σ H → va_S (mm_A (ec_cnt n) L) s.heap H locs → lv_has ls 1 [] → W p l e rm_M_isInvolved s m [.ref (L 6 i0)].toArray below meth c H locs 0 0 (MQ below (va_Qi (fun r (_ : Unit) => r = out) (fun _ t => mm_pre G.1 ec_cl (ec_T G) (ec_cnt n) L (ec_E G L n) σ t) (mm_A (ec_cnt n) L)) [.ref (L 6 i0)].toArray s 0 0 (mm_A (ec_cnt n) L)) (F0 m 12 ls [.int u1]) := by
    intro H locs ls hW hS hl
    obtain ⟨hz1, hf⟩ := mm_guard hf
    obtain rfl := Option.some.inj hf
    exact W.zret (v := u1) hx hb hr (mm_zn hz1) (fun t ht hw => ⟨⟨_, (), rfl, rfl, (mm_back ht hw hW hK)⟩, hS.F ht⟩) hS.2.2 d_M_isInvolved_12
  clear hf
  have hf := hu1
  clear hu1
  refine lv_if_eq (tgt := 11) hx hb d_M_isInvolved_4 (by decide) (fun hc => ?_) (fun hc => ?_)
  · rw [if_pos hc] at hf
    refine lv_iconst (v := (0 : Int32)) hx hb d_M_isInvolved_11 (by decide) ?_
    obtain rfl := Option.some.inj hf
    exact jp1 _ _ _ hW hS (lv_sub hl [] rfl)
  · rw [if_neg hc] at hf
    refine lv_iconst (v := (1 : Int32)) hx hb d_M_isInvolved_7 (by decide) ?_
    refine lv_goto (tgt := 12) hx hb d_M_isInvolved_8 (by decide) ?_
    obtain rfl := Option.some.inj hf
    exact jp1 _ _ _ hW hS (lv_sub hl [] rfl)
abbrev rm_M_isInRollback : Room := { frames := 1, cells := 0, slots := 0, locals := 20 }
set_option maxHeartbeats 4000000 in
set_option maxRecDepth 100000 in
theorem c_M_isInRollback (l : Launch) (G : ec_G) (L : mm_L) (F n : Nat) (hI : mm_I (ec_cnt n) L) (σ : mm_M) (i0 : Nat) (hi0 : i0 < ec_cnt n 6) {out : Int32} (hf : f_M_isInRollback F n σ i0 = some out) :
    Met l y_M_isInRollback (Cond.code y_M_isInRollback b_M_isInRollback 1 (some .boolean) :: tw_tbl) rm_M_isInRollback (va_Pc [.ref (L 6 i0)] (mm_pre G.1 ec_cl (ec_T G) (ec_cnt n) L (ec_E G L n) σ))
      (va_Qi (fun r (_ : Unit) => r = out) (fun _ t => mm_pre G.1 ec_cl (ec_T G) (ec_cnt n) L (ec_E G L n) σ t) (mm_A (ec_cnt n) L)) 0 0 (mm_A (ec_cnt n) L) := by
  refine Met.ofW (cc := b_M_isInRollback) (maxL := 1) (ret := (some .boolean)) (by decide) rfl ?_
  intro p e s m args below meth c s₁ B hml hv
  obtain ⟨rfl, hW, hK⟩ := hv
  have hx := B.exec
  have hb := B.bytes
  have hr := B.returns
  have hts0 := atoms_spec (ws := Cond.code y_M_isInRollback b_M_isInRollback 1 (some .boolean) :: tw_tbl) B.pre
  have hts : ∀ w ∈ tw_tbl, w.before [.ref (L 6 i0)].toArray s = true := fun w h => hts0 w (List.mem_cons_of_mem _ h)
  clear hts0
  have hown : s.vm.findClass "TwoPhaseCuts$Member" = some m.cls := findClass_of_methodNamed B.named
  have hlocks := B.notSynchronized
  have hC : CallFix p m c b_M_isInRollback 1 s [.ref (L 6 i0)].toArray tw_tbl "TwoPhaseCuts$Member" := ⟨hx, hb, hml, hown, hts⟩
  have hS : va_S (mm_A (ec_cnt n) L) s.heap s.heap [] := va_S.rf
  have hl := lv_entry ([.ref (L 6 i0)]) (n := 1) (Nat.le_of_ble_eq_true rfl)
  rw [lg_entry_eq]
  generalize (lg_sl ([.ref (L 6 i0)]) ++ List.replicate (1 - (lg_sl ([.ref (L 6 i0)])).length) Slot.unset).toArray = ls at hl ⊢
  have hl : lv_has ls 1 [(0, .ref (L 6 i0))] := hl
  have hW : mm_W G.1 ec_cl (ec_cnt n) L (ec_E G L n) σ s.heap := hW
  clear B
  show W p l e rm_M_isInRollback s m [.ref (L 6 i0)].toArray below meth c s.heap [] 0 0 (MQ below (va_Qi (fun r (_ : Unit) => r = out) (fun _ t => mm_pre G.1 ec_cl (ec_T G) (ec_cnt n) L (ec_E G L n) σ t) (mm_A (ec_cnt n) L)) [.ref (L 6 i0)].toArray s 0 0 (mm_A (ec_cnt n) L)) (F0 m 0 ls [])
  unfold f_M_isInRollback at hf
  refine lv_aload_n hx hb d_M_isInRollback_0 rfl (lv_at hl 0 rfl) ?_
  obtain ⟨u1, hu1, hf⟩ := mm_bind hf
  refine mm_calli (va_runV (As := []) (rest := []) hC (c_M_isInvolved l G L F n hI σ i0 hi0 hu1) (cwV 0 hts (tw_gV tw_198 tw_199 tw_200 tw_3 tw_201) rfl rfl rfl (by decide +kernel) ⟨Nat.le_of_ble_eq_true rfl, Nat.le_of_ble_eq_true rfl⟩) (mm_preV hK hW (k := 6) (i := i0) hi0 rfl rfl) rfl rfl hl.1 rfl (lv_room (Nat.le_of_ble_eq_true rfl)) d_M_isInRollback_1 ⟨Nat.zero_le _, Nat.zero_le _⟩) hS (fun _ h => h) (fun H locs hW _ _ hS => ?_)
  obtain ⟨u2, hu2, hf⟩ := mm_bind hf
  have jp1 : ∀ (H : Heap) (locs : List Loc) (ls : Array Slot), mm_W G.1 ec_cl (ec_cnt n) L (ec_E G L n) σ H → va_S (mm_A (ec_cnt n) L) s.heap H locs → lv_has ls 1 [] → W p l e rm_M_isInRollback s m [.ref (L 6 i0)].toArray below meth c H locs 0 0 (MQ below (va_Qi (fun r (_ : Unit) => r = out) (fun _ t => mm_pre G.1 ec_cl (ec_T G) (ec_cnt n) L (ec_E G L n) σ t) (mm_A (ec_cnt n) L)) [.ref (L 6 i0)].toArray s 0 0 (mm_A (ec_cnt n) L)) (F0 m 19 ls [.int u2]) := by
    intro H locs ls hW hS hl
    obtain ⟨hz1, hf⟩ := mm_guard hf
    obtain rfl := Option.some.inj hf
    exact W.zret (v := u2) hx hb hr (mm_zn hz1) (fun t ht hw => ⟨⟨_, (), rfl, rfl, (mm_back ht hw hW hK)⟩, hS.F ht⟩) hS.2.2 d_M_isInRollback_19
  clear hf
  have hf := hu2
  clear hu2
  refine lv_if_eq (tgt := 18) hx hb d_M_isInRollback_4 (by decide) (fun hc => ?_) (fun hc => ?_)
  · rw [if_pos hc] at hf
    refine lv_iconst (v := (0 : Int32)) hx hb d_M_isInRollback_18 (by decide) ?_
    obtain rfl := Option.some.inj hf
    exact jp1 _ _ _ hW hS (lv_sub hl [] rfl)
  · rw [if_neg hc] at hf
    refine lv_aload_n hx hb d_M_isInRollback_7 rfl (lv_at hl 0 rfl) ?_
    refine va_get (D := G.1) (ci := 1) (C := "TwoPhaseCuts$Member") (T := T_M) (N := 12) (v := .int (σ 6 i0 7)) hx hb hts ui_M hown hK (hW.one (k := 6) (i := i0) hi0) 0 rfl rfl 7 (by decide) (hts _ tw_64) (fun _ h9 => h9) rfl d_M_isInRollback_8 ?_
    refine lv_if_eq (tgt := 18) hx hb d_M_isInRollback_11 (by decide) (fun hc => ?_) (fun hc => ?_)
    · rw [if_pos hc] at hf
      refine lv_iconst (v := (0 : Int32)) hx hb d_M_isInRollback_18 (by decide) ?_
      obtain rfl := Option.some.inj hf
      exact jp1 _ _ _ hW hS (lv_sub hl [] rfl)
    · rw [if_neg hc] at hf
      refine lv_iconst (v := (1 : Int32)) hx hb d_M_isInRollback_14 (by decide) ?_
      refine lv_goto (tgt := 19) hx hb d_M_isInRollback_15 (by decide) ?_
      obtain rfl := Option.some.inj hf
      exact jp1 _ _ _ hW hS (lv_sub hl [] rfl)
abbrev rm_M_hasNewReceiptFrom : Room := { frames := 0, cells := 0, slots := 0, locals := 0 }
set_option maxHeartbeats 4000000 in
set_option maxRecDepth 100000 in
theorem c_M_hasNewReceiptFrom (l : Launch) (G : ec_G) (L : mm_L) (F n : Nat) (hI : mm_I (ec_cnt n) L) (σ : mm_M) (i0 : Nat) (a1 : Int32) (hi0 : i0 < ec_cnt n 6) {out : Int32} (hf : f_M_hasNewReceiptFrom F n σ i0 a1 = some out) :
    Met l y_M_hasNewReceiptFrom (Cond.code y_M_hasNewReceiptFrom b_M_hasNewReceiptFrom 2 (some .boolean) :: tw_tbl) rm_M_hasNewReceiptFrom (va_Pc [.ref (L 6 i0), .int a1] (mm_pre G.1 ec_cl (ec_T G) (ec_cnt n) L (ec_E G L n) σ))
      (va_Qi (fun r (_ : Unit) => r = out) (fun _ t => mm_pre G.1 ec_cl (ec_T G) (ec_cnt n) L (ec_E G L n) σ t) (mm_A (ec_cnt n) L)) 0 0 (mm_A (ec_cnt n) L) := by
  refine Met.ofW (cc := b_M_hasNewReceiptFrom) (maxL := 2) (ret := (some .boolean)) (by decide) rfl ?_
  intro p e s m args below meth c s₁ B hml hv
  obtain ⟨rfl, hW, hK⟩ := hv
  have hx := B.exec
  have hb := B.bytes
  have hr := B.returns
  have hts0 := atoms_spec (ws := Cond.code y_M_hasNewReceiptFrom b_M_hasNewReceiptFrom 2 (some .boolean) :: tw_tbl) B.pre
  have hts : ∀ w ∈ tw_tbl, w.before [.ref (L 6 i0), .int a1].toArray s = true := fun w h => hts0 w (List.mem_cons_of_mem _ h)
  clear hts0
  have hown : s.vm.findClass "TwoPhaseCuts$Member" = some m.cls := findClass_of_methodNamed B.named
  have hlocks := B.notSynchronized
  have hC : CallFix p m c b_M_hasNewReceiptFrom 2 s [.ref (L 6 i0), .int a1].toArray tw_tbl "TwoPhaseCuts$Member" := ⟨hx, hb, hml, hown, hts⟩
  have hS : va_S (mm_A (ec_cnt n) L) s.heap s.heap [] := va_S.rf
  have hl := lv_entry ([.ref (L 6 i0), .int a1]) (n := 2) (Nat.le_of_ble_eq_true rfl)
  rw [lg_entry_eq]
  generalize (lg_sl ([.ref (L 6 i0), .int a1]) ++ List.replicate (2 - (lg_sl ([.ref (L 6 i0), .int a1])).length) Slot.unset).toArray = ls at hl ⊢
  have hl : lv_has ls 2 [(0, .ref (L 6 i0)), (1, .int a1)] := hl
  have hW : mm_W G.1 ec_cl (ec_cnt n) L (ec_E G L n) σ s.heap := hW
  clear B
  show W p l e rm_M_hasNewReceiptFrom s m [.ref (L 6 i0), .int a1].toArray below meth c s.heap [] 0 0 (MQ below (va_Qi (fun r (_ : Unit) => r = out) (fun _ t => mm_pre G.1 ec_cl (ec_T G) (ec_cnt n) L (ec_E G L n) σ t) (mm_A (ec_cnt n) L)) [.ref (L 6 i0), .int a1].toArray s 0 0 (mm_A (ec_cnt n) L)) (F0 m 0 ls [])
  unfold f_M_hasNewReceiptFrom at hf
  refine lv_aload_n hx hb d_M_hasNewReceiptFrom_0 rfl (lv_at hl 0 rfl) ?_
  refine va_get (D := G.1) (ci := 1) (C := "TwoPhaseCuts$Member") (T := T_M) (N := 12) (v := .ref (L 7 (3 * i0))) hx hb hts ui_M hown hK (hW.one (k := 6) (i := i0) hi0) 0 rfl rfl 0 (by decide) (hts _ tw_52) (fun _ h9 => h9) rfl d_M_hasNewReceiptFrom_1 ?_
  refine va_get (D := G.1) (ci := 2) (C := "TwoPhaseCuts$State") (T := T_S) (N := 3) (v := .ref (L 9 (3 * i0))) hx hb hts ui_S hown hK (hW.one (k := 7) (i := (3 * i0)) (ec_h0 hi0)) 0 rfl rfl 2 (by decide) (hts _ tw_42) (fun _ h9 => h9) rfl d_M_hasNewReceiptFrom_4 ?_
  refine lv_iload_n hx hb d_M_hasNewReceiptFrom_7 rfl (lv_at hl 1 rfl) ?_
  obtain ⟨hg1, hf⟩ := mm_guard hf
  refine va_iald (D := G.1) (cl := ec_cl) hx hb hK (hW.one (k := 9) (i := (3 * i0)) (ec_h0 hi0)) 0 0 rfl rfl (mm_vp hg1) d_M_hasNewReceiptFrom_8 ?_
  refine mm_top (y := (σ 9 (3 * i0) (Int32.toNatClampNeg a1))) rfl ?_
  refine lv_aload_n hx hb d_M_hasNewReceiptFrom_9 rfl (lv_at hl 0 rfl) ?_
  refine va_get (D := G.1) (ci := 1) (C := "TwoPhaseCuts$Member") (T := T_M) (N := 12) (v := .ref (L 7 (3 * i0 + 1))) hx hb hts ui_M hown hK (hW.one (k := 6) (i := i0) hi0) 0 rfl rfl 1 (by decide) (hts _ tw_54) (fun _ h9 => h9) rfl d_M_hasNewReceiptFrom_10 ?_
  refine va_get (D := G.1) (ci := 2) (C := "TwoPhaseCuts$State") (T := T_S) (N := 3) (v := .ref (L 9 (3 * i0 + 1))) hx hb hts ui_S hown hK (hW.one (k := 7) (i := (3 * i0 + 1)) (ec_h1 hi0)) 0 rfl rfl 2 (by decide) (hts _ tw_42) (fun _ h9 => h9) rfl d_M_hasNewReceiptFrom_13 ?_
  refine lv_iload_n hx hb d_M_hasNewReceiptFrom_16 rfl (lv_at hl 1 rfl) ?_
  refine va_iald (D := G.1) (cl := ec_cl) hx hb hK (hW.one (k := 9) (i := (3 * i0 + 1)) (ec_h1 hi0)) 0 0 rfl rfl (mm_vp hg1) d_M_hasNewReceiptFrom_17 ?_
  refine mm_top (y := (σ 9 (3 * i0 + 1) (Int32.toNatClampNeg a1))) rfl ?_
  obtain ⟨u1, hu1, hf⟩ := mm_bind hf
  have jp1 : ∀ (H : Heap) (locs : List Loc) (ls : Array Slot), mm_W G.1 ec_cl (ec_cnt n) L (ec_E G L n) σ H → va_S (mm_A (ec_cnt n) L) s.heap H locs → lv_has ls 2 [] → W p l e rm_M_hasNewReceiptFrom s m [.ref (L 6 i0), .int a1].toArray below meth c H locs 0 0 (MQ below (va_Qi (fun r (_ : Unit) => r = out) (fun _ t => mm_pre G.1 ec_cl (ec_T G) (ec_cnt n) L (ec_E G L n) σ t) (mm_A (ec_cnt n) L)) [.ref (L 6 i0), .int a1].toArray s 0 0 (mm_A (ec_cnt n) L)) (F0 m 26 ls [.int u1]) := by
    intro H locs ls hW hS hl
    obtain ⟨hz2, hf⟩ := mm_guard hf
    obtain rfl := Option.some.inj hf
    exact W.zret (v := u1) hx hb hr (mm_zn hz2) (fun t ht hw => ⟨⟨_, (), rfl, rfl, (mm_back ht hw hW hK)⟩, hS.F ht⟩) hS.2.2 d_M_hasNewReceiptFrom_26
  clear hf
  have hf := hu1
  clear hu1
  refine lv_icmp_le (tgt := 25) hx hb d_M_hasNewReceiptFrom_18 (by decide) (fun hc => ?_) (fun hc => ?_)
  · rw [if_pos hc] at hf
    refine lv_iconst (v := (0 : Int32)) hx hb d_M_hasNewReceiptFrom_25 (by decide) ?_
    obtain rfl := Option.some.inj hf
    exact jp1 _ _ _ hW hS (lv_sub hl [] rfl)
  · rw [if_neg hc] at hf
    refine lv_iconst (v := (1 : Int32)) hx hb d_M_hasNewReceiptFrom_21 (by decide) ?_
    refine lv_goto (tgt := 26) hx hb d_M_hasNewReceiptFrom_22 (by decide) ?_
    obtain rfl := Option.some.inj hf
    exact jp1 _ _ _ hW hS (lv_sub hl [] rfl)
abbrev rm_M_isConcerned : Room := { frames := 0, cells := 0, slots := 0, locals := 0 }
set_option maxHeartbeats 4000000 in
set_option maxRecDepth 100000 in
theorem c_M_isConcerned (l : Launch) (G : ec_G) (L : mm_L) (F n : Nat) (hI : mm_I (ec_cnt n) L) (σ : mm_M) (i0 : Nat) (a1 : Int32) (a2 : Int32) (a3 : Int32) (hi0 : i0 < ec_cnt n 6) {out : Int32} (hf : f_M_isConcerned F n σ i0 a1 a2 a3 = some out) :
    Met l y_M_isConcerned (Cond.code y_M_isConcerned b_M_isConcerned 4 (some .boolean) :: tw_tbl) rm_M_isConcerned (va_Pc [.ref (L 6 i0), .int a1, .int a2, .int a3] (mm_pre G.1 ec_cl (ec_T G) (ec_cnt n) L (ec_E G L n) σ))
      (va_Qi (fun r (_ : Unit) => r = out) (fun _ t => mm_pre G.1 ec_cl (ec_T G) (ec_cnt n) L (ec_E G L n) σ t) (mm_A (ec_cnt n) L)) 0 0 (mm_A (ec_cnt n) L) := by
  refine Met.ofW (cc := b_M_isConcerned) (maxL := 4) (ret := (some .boolean)) (by decide) rfl ?_
  intro p e s m args below meth c s₁ B hml hv
  obtain ⟨rfl, hW, hK⟩ := hv
  have hx := B.exec
  have hb := B.bytes
  have hr := B.returns
  have hts0 := atoms_spec (ws := Cond.code y_M_isConcerned b_M_isConcerned 4 (some .boolean) :: tw_tbl) B.pre
  have hts : ∀ w ∈ tw_tbl, w.before [.ref (L 6 i0), .int a1, .int a2, .int a3].toArray s = true := fun w h => hts0 w (List.mem_cons_of_mem _ h)
  clear hts0
  have hown : s.vm.findClass "TwoPhaseCuts$Member" = some m.cls := findClass_of_methodNamed B.named
  have hlocks := B.notSynchronized
  have hC : CallFix p m c b_M_isConcerned 4 s [.ref (L 6 i0), .int a1, .int a2, .int a3].toArray tw_tbl "TwoPhaseCuts$Member" := ⟨hx, hb, hml, hown, hts⟩
  have hS : va_S (mm_A (ec_cnt n) L) s.heap s.heap [] := va_S.rf
  have hl := lv_entry ([.ref (L 6 i0), .int a1, .int a2, .int a3]) (n := 4) (Nat.le_of_ble_eq_true rfl)
  rw [lg_entry_eq]
  generalize (lg_sl ([.ref (L 6 i0), .int a1, .int a2, .int a3]) ++ List.replicate (4 - (lg_sl ([.ref (L 6 i0), .int a1, .int a2, .int a3])).length) Slot.unset).toArray = ls at hl ⊢
  have hl : lv_has ls 4 [(0, .ref (L 6 i0)), (1, .int a1), (2, .int a2), (3, .int a3)] := hl
  have hW : mm_W G.1 ec_cl (ec_cnt n) L (ec_E G L n) σ s.heap := hW
  clear B
  show W p l e rm_M_isConcerned s m [.ref (L 6 i0), .int a1, .int a2, .int a3].toArray below meth c s.heap [] 0 0 (MQ below (va_Qi (fun r (_ : Unit) => r = out) (fun _ t => mm_pre G.1 ec_cl (ec_T G) (ec_cnt n) L (ec_E G L n) σ t) (mm_A (ec_cnt n) L)) [.ref (L 6 i0), .int a1, .int a2, .int a3].toArray s 0 0 (mm_A (ec_cnt n) L)) (F0 m 0 ls [])
  unfold f_M_isConcerned at hf
  refine lv_iload_n hx hb d_M_isConcerned_0 rfl (lv_at hl 1 rfl) ?_
  obtain ⟨u1, hu1, hf⟩ := mm_bind hf
  have jp1 : ∀ (H : Heap) (locs : List Loc) (ls : Array Slot), mm_W G.1 ec_cl (ec_cnt n) L (ec_E G L n) σ H → va_S (mm_A (ec_cnt n) L) s.heap H locs → lv_has ls 4 [] → W p l e rm_M_isConcerned s m [.ref (L 6 i0), .int a1, .int a2, .int a3].toArray below meth c H locs 0 0 (MQ below (va_Qi (fun r (_ : Unit) => r = out) (fun _ t => mm_pre G.1 ec_cl (ec_T G) (ec_cnt n) L (ec_E G L n) σ t) (mm_A (ec_cnt n) L)) [.ref (L 6 i0), .int a1, .int a2, .int a3].toArray s 0 0 (mm_A (ec_cnt n) L)) (F0 m 43 ls [.int u1]) := by
    intro H locs ls hW hS hl
    obtain ⟨hz1, hf⟩ := mm_guard hf
    obtain rfl := Option.some.inj hf
    exact W.zret (v := u1) hx hb hr (mm_zn hz1) (fun t ht hw => ⟨⟨_, (), rfl, rfl, (mm_back ht hw hW hK)⟩, hS.F ht⟩) hS.2.2 d_M_isConcerned_43
  clear hf
  have hf := hu1
  clear hu1
  refine lv_if_eq (tgt := 25) hx hb d_M_isConcerned_1 (by decide) (fun hc => ?_) (fun hc => ?_)
  · rw [if_pos hc] at hf
    refine lv_iload_n hx hb d_M_isConcerned_25 rfl (lv_at hl 3 rfl) ?_
    refine lv_aload_n hx hb d_M_isConcerned_26 rfl (lv_at hl 0 rfl) ?_
    refine va_get (D := G.1) (ci := 1) (C := "TwoPhaseCuts$Member") (T := T_M) (N := 12) (v := .ref (L 7 (3 * i0 + 1))) hx hb hts ui_M hown hK (hW.one (k := 6) (i := i0) hi0) 0 rfl rfl 1 (by decide) (hts _ tw_54) (fun _ h9 => h9) rfl d_M_isConcerned_27 ?_
    refine va_get (D := G.1) (ci := 2) (C := "TwoPhaseCuts$State") (T := T_S) (N := 3) (v := .ref (L 8 (3 * i0 + 1))) hx hb hts ui_S hown hK (hW.one (k := 7) (i := (3 * i0 + 1)) (ec_h1 hi0)) 0 rfl rfl 1 (by decide) (hts _ tw_40) (fun _ h9 => h9) rfl d_M_isConcerned_30 ?_
    refine lv_iload_n hx hb d_M_isConcerned_33 rfl (lv_at hl 2 rfl) ?_
    obtain ⟨hg2, hf⟩ := mm_guard hf
    refine va_iald (D := G.1) (cl := ec_cl) hx hb hK (hW.one (k := 8) (i := (3 * i0 + 1)) (ec_h1 hi0)) 0 0 rfl rfl (mm_vp hg2) d_M_isConcerned_34 ?_
    refine mm_top (y := (σ 8 (3 * i0 + 1) (Int32.toNatClampNeg a2))) rfl ?_
    refine lv_icmp_le (tgt := 42) hx hb d_M_isConcerned_35 (by decide) (fun hc => ?_) (fun hc => ?_)
    · rw [if_pos hc] at hf
      refine lv_iconst (v := (0 : Int32)) hx hb d_M_isConcerned_42 (by decide) ?_
      obtain rfl := Option.some.inj hf
      exact jp1 _ _ _ hW hS (lv_sub hl [] rfl)
    · rw [if_neg hc] at hf
      refine lv_iconst (v := (1 : Int32)) hx hb d_M_isConcerned_38 (by decide) ?_
      refine lv_goto (tgt := 43) hx hb d_M_isConcerned_39 (by decide) ?_
      obtain rfl := Option.some.inj hf
      exact jp1 _ _ _ hW hS (lv_sub hl [] rfl)
  · rw [if_neg hc] at hf
    refine lv_aload_n hx hb d_M_isConcerned_4 rfl (lv_at hl 0 rfl) ?_
    refine va_get (D := G.1) (ci := 1) (C := "TwoPhaseCuts$Member") (T := T_M) (N := 12) (v := .ref (L 7 (3 * i0))) hx hb hts ui_M hown hK (hW.one (k := 6) (i := i0) hi0) 0 rfl rfl 0 (by decide) (hts _ tw_52) (fun _ h9 => h9) rfl d_M_isConcerned_5 ?_
    refine va_get (D := G.1) (ci := 2) (C := "TwoPhaseCuts$State") (T := T_S) (N := 3) (v := .ref (L 9 (3 * i0))) hx hb hts ui_S hown hK (hW.one (k := 7) (i := (3 * i0)) (ec_h0 hi0)) 0 rfl rfl 2 (by decide) (hts _ tw_42) (fun _ h9 => h9) rfl d_M_isConcerned_8 ?_
    refine lv_iload_n hx hb d_M_isConcerned_11 rfl (lv_at hl 2 rfl) ?_
    obtain ⟨hg3, hf⟩ := mm_guard hf
    refine va_iald (D := G.1) (cl := ec_cl) hx hb hK (hW.one (k := 9) (i := (3 * i0)) (ec_h0 hi0)) 0 0 rfl rfl (mm_vp hg3) d_M_isConcerned_12 ?_
    refine mm_top (y := (σ 9 (3 * i0) (Int32.toNatClampNeg a2))) rfl ?_
    refine lv_iload_n hx hb d_M_isConcerned_13 rfl (lv_at hl 3 rfl) ?_
    refine lv_icmp_le (tgt := 21) hx hb d_M_isConcerned_14 (by decide) (fun hc => ?_) (fun hc => ?_)
    · rw [if_pos hc] at hf
      refine lv_iconst (v := (0 : Int32)) hx hb d_M_isConcerned_21 (by decide) ?_
      refine lv_goto (tgt := 43) hx hb d_M_isConcerned_22 (by decide) ?_
      obtain rfl := Option.some.inj hf
      exact jp1 _ _ _ hW hS (lv_sub hl [] rfl)
    · rw [if_neg hc] at hf
      refine lv_iconst (v := (1 : Int32)) hx hb d_M_isConcerned_17 (by decide) ?_
      refine lv_goto (tgt := 43) hx hb d_M_isConcerned_18 (by decide) ?_
      obtain rfl := Option.some.inj hf
      exact jp1 _ _ _ hW hS (lv_sub hl [] rfl)
abbrev rm_M_enter : Room := { frames := 0, cells := 0, slots := 0, locals := 0 }
set_option maxHeartbeats 4000000 in
set_option maxRecDepth 100000 in
theorem c_M_enter (l : Launch) (G : ec_G) (L : mm_L) (F n : Nat) (hI : mm_I (ec_cnt n) L) (σ : mm_M) (i0 : Nat) (a1 : Int32) (a2 : Int32) (a3 : Int32) (hi0 : i0 < ec_cnt n 6) {out : mm_M} (hf : f_M_enter F n σ i0 a1 a2 a3 = some out) :
    Met l y_M_enter (Cond.code y_M_enter b_M_enter 4 none :: tw_tbl) rm_M_enter (va_Pc [.ref (L 6 i0), .int a1, .int a2, .int a3] (mm_pre G.1 ec_cl (ec_T G) (ec_cnt n) L (ec_E G L n) σ))
      (va_Qv (fun (_ : Unit) => True) (fun _ t => mm_pre G.1 ec_cl (ec_T G) (ec_cnt n) L (ec_E G L n) out t) (mm_A (ec_cnt n) L)) 0 0 (mm_A (ec_cnt n) L) := by
  refine Met.ofW (cc := b_M_enter) (maxL := 4) (ret := none) (by decide) rfl ?_
  intro p e s m args below meth c s₁ B hml hv
  obtain ⟨rfl, hW, hK⟩ := hv
  have hx := B.exec
  have hb := B.bytes
  have hr := B.returns
  have hts0 := atoms_spec (ws := Cond.code y_M_enter b_M_enter 4 none :: tw_tbl) B.pre
  have hts : ∀ w ∈ tw_tbl, w.before [.ref (L 6 i0), .int a1, .int a2, .int a3].toArray s = true := fun w h => hts0 w (List.mem_cons_of_mem _ h)
  clear hts0
  have hown : s.vm.findClass "TwoPhaseCuts$Member" = some m.cls := findClass_of_methodNamed B.named
  have hlocks := B.notSynchronized
  have hC : CallFix p m c b_M_enter 4 s [.ref (L 6 i0), .int a1, .int a2, .int a3].toArray tw_tbl "TwoPhaseCuts$Member" := ⟨hx, hb, hml, hown, hts⟩
  have hS : va_S (mm_A (ec_cnt n) L) s.heap s.heap [] := va_S.rf
  have hl := lv_entry ([.ref (L 6 i0), .int a1, .int a2, .int a3]) (n := 4) (Nat.le_of_ble_eq_true rfl)
  rw [lg_entry_eq]
  generalize (lg_sl ([.ref (L 6 i0), .int a1, .int a2, .int a3]) ++ List.replicate (4 - (lg_sl ([.ref (L 6 i0), .int a1, .int a2, .int a3])).length) Slot.unset).toArray = ls at hl ⊢
  have hl : lv_has ls 4 [(0, .ref (L 6 i0)), (1, .int a1), (2, .int a2), (3, .int a3)] := hl
  have hW : mm_W G.1 ec_cl (ec_cnt n) L (ec_E G L n) σ s.heap := hW
  clear B
  show W p l e rm_M_enter s m [.ref (L 6 i0), .int a1, .int a2, .int a3].toArray below meth c s.heap [] 0 0 (MQ below (va_Qv (fun (_ : Unit) => True) (fun _ t => mm_pre G.1 ec_cl (ec_T G) (ec_cnt n) L (ec_E G L n) out t) (mm_A (ec_cnt n) L)) [.ref (L 6 i0), .int a1, .int a2, .int a3].toArray s 0 0 (mm_A (ec_cnt n) L)) (F0 m 0 ls [])
  unfold f_M_enter at hf
  refine lv_aload_n hx hb d_M_enter_0 rfl (lv_at hl 0 rfl) ?_
  refine lv_iload_n hx hb d_M_enter_1 rfl (lv_at hl 1 rfl) ?_
  refine mm_put (D := G.1) (ci := 1) (C := "TwoPhaseCuts$Member") (T := T_M) (N := 12) (x := a1) hx hb hts ui_M ty_M tyo_M nmo_M hown hK hI hW hS (k := 6) (i := i0) hi0 rfl rfl 6 (by decide) (hts _ tw_62) (fun _ h9 => h9) rfl (ty := .int) (by decide +kernel) (vp_nar_int _) rfl (Nat.le_of_ble_eq_true rfl) rfl d_M_enter_2 (fun H locs hW hS => ?_)
  refine lv_aload_n hx hb d_M_enter_5 rfl (lv_at hl 0 rfl) ?_
  refine lv_iload_n hx hb d_M_enter_6 rfl (lv_at hl 2 rfl) ?_
  obtain ⟨hz1, hf⟩ := mm_guard hf
  refine mm_put (D := G.1) (ci := 1) (C := "TwoPhaseCuts$Member") (T := T_M) (N := 12) (x := a2) hx hb hts ui_M ty_M tyo_M nmo_M hown hK hI hW hS (k := 6) (i := i0) hi0 rfl rfl 7 (by decide) (hts _ tw_64) (fun _ h9 => h9) rfl (ty := .boolean) (by decide +kernel) (mm_zn hz1) (mm_zf hz1) (Nat.le_of_ble_eq_true rfl) rfl d_M_enter_7 (fun H locs hW hS => ?_)
  refine lv_aload_n hx hb d_M_enter_10 rfl (lv_at hl 0 rfl) ?_
  refine lv_iload_n hx hb d_M_enter_11 rfl (lv_at hl 3 rfl) ?_
  refine mm_put (D := G.1) (ci := 1) (C := "TwoPhaseCuts$Member") (T := T_M) (N := 12) (x := a3) hx hb hts ui_M ty_M tyo_M nmo_M hown hK hI hW hS (k := 6) (i := i0) hi0 rfl rfl 8 (by decide) (hts _ tw_65) (fun _ h9 => h9) rfl (ty := .int) (by decide +kernel) (vp_nar_int _) rfl (Nat.le_of_ble_eq_true rfl) rfl d_M_enter_12 (fun H locs hW hS => ?_)
  refine lv_aload_n hx hb d_M_enter_15 rfl (lv_at hl 0 rfl) ?_
  refine lv_iconst (v := (0 : Int32)) hx hb d_M_enter_16 (by decide) ?_
  refine mm_put (D := G.1) (ci := 1) (C := "TwoPhaseCuts$Member") (T := T_M) (N := 12) (x := (0 : Int32)) hx hb hts ui_M ty_M tyo_M nmo_M hown hK hI hW hS (k := 6) (i := i0) hi0 rfl rfl 10 (by decide) (hts _ tw_69) (fun _ h9 => h9) rfl (ty := .int) (by decide +kernel) (vp_nar_int _) rfl (Nat.le_of_ble_eq_true rfl) rfl d_M_enter_17 (fun H locs hW hS => ?_)
  refine lv_aload_n hx hb d_M_enter_20 rfl (lv_at hl 0 rfl) ?_
  refine lv_iconst (v := (1 : Int32)) hx hb d_M_enter_21 (by decide) ?_
  refine mm_put (D := G.1) (ci := 1) (C := "TwoPhaseCuts$Member") (T := T_M) (N := 12) (x := (1 : Int32)) hx hb hts ui_M ty_M tyo_M nmo_M hown hK hI hW hS (k := 6) (i := i0) hi0 rfl rfl 11 (by decide) (hts _ tw_71) (fun _ h9 => h9) rfl (ty := .boolean) (by decide +kernel) (mm_zn (Or.inr rfl)) (mm_zf (Or.inr rfl)) (Nat.le_of_ble_eq_true rfl) rfl d_M_enter_22 (fun H locs hW hS => ?_)
  obtain rfl := Option.some.inj hf
  exact W.vret hx hb hr (fun t ht hw => ⟨⟨(), rfl, trivial, (mm_back ht hw hW hK)⟩, hS.F ht⟩) hS.2.2 d_M_enter_25
abbrev rm_M_makePermanent : Room := { frames := 1, cells := 0, slots := 0, locals := 22 }
set_option maxHeartbeats 4000000 in
set_option maxRecDepth 100000 in
theorem c_M_makePermanent (l : Launch) (G : ec_G) (L : mm_L) (F n : Nat) (hI : mm_I (ec_cnt n) L) (σ : mm_M) (i0 : Nat) (hi0 : i0 < ec_cnt n 6) {out : mm_M} (hf : f_M_makePermanent F n σ i0 = some out) :
    Met l y_M_makePermanent (Cond.code y_M_makePermanent b_M_makePermanent 1 none :: tw_tbl) rm_M_makePermanent (va_Pc [.ref (L 6 i0)] (mm_pre G.1 ec_cl (ec_T G) (ec_cnt n) L (ec_E G L n) σ))
      (va_Qv (fun (_ : Unit) => True) (fun _ t => mm_pre G.1 ec_cl (ec_T G) (ec_cnt n) L (ec_E G L n) out t) (mm_A (ec_cnt n) L)) 0 0 (mm_A (ec_cnt n) L) := by
  refine Met.ofW (cc := b_M_makePermanent) (maxL := 1) (ret := none) (by decide) rfl ?_
  intro p e s m args below meth c s₁ B hml hv
  obtain ⟨rfl, hW, hK⟩ := hv
  have hx := B.exec
  have hb := B.bytes
  have hr := B.returns
  have hts0 := atoms_spec (ws := Cond.code y_M_makePermanent b_M_makePermanent 1 none :: tw_tbl) B.pre
  have hts : ∀ w ∈ tw_tbl, w.before [.ref (L 6 i0)].toArray s = true := fun w h => hts0 w (List.mem_cons_of_mem _ h)
  clear hts0
  have hown : s.vm.findClass "TwoPhaseCuts$Member" = some m.cls := findClass_of_methodNamed B.named
  have hlocks := B.notSynchronized
  have hC : CallFix p m c b_M_makePermanent 1 s [.ref (L 6 i0)].toArray tw_tbl "TwoPhaseCuts$Member" := ⟨hx, hb, hml, hown, hts⟩
  have hS : va_S (mm_A (ec_cnt n) L) s.heap s.heap [] := va_S.rf
  have hl := lv_entry ([.ref (L 6 i0)]) (n := 1) (Nat.le_of_ble_eq_true rfl)
  rw [lg_entry_eq]
  generalize (lg_sl ([.ref (L 6 i0)]) ++ List.replicate (1 - (lg_sl ([.ref (L 6 i0)])).length) Slot.unset).toArray = ls at hl ⊢
  have hl : lv_has ls 1 [(0, .ref (L 6 i0))] := hl
  have hW : mm_W G.1 ec_cl (ec_cnt n) L (ec_E G L n) σ s.heap := hW
  clear B
  show W p l e rm_M_makePermanent s m [.ref (L 6 i0)].toArray below meth c s.heap [] 0 0 (MQ below (va_Qv (fun (_ : Unit) => True) (fun _ t => mm_pre G.1 ec_cl (ec_T G) (ec_cnt n) L (ec_E G L n) out t) (mm_A (ec_cnt n) L)) [.ref (L 6 i0)].toArray s 0 0 (mm_A (ec_cnt n) L)) (F0 m 0 ls [])
  unfold f_M_makePermanent at hf
  refine lv_aload_n hx hb d_M_makePermanent_0 rfl (lv_at hl 0 rfl) ?_
  refine va_get (D := G.1) (ci := 1) (C := "TwoPhaseCuts$Member") (T := T_M) (N := 12) (v := .ref (L 7 (3 * i0 + 1))) hx hb hts ui_M hown hK (hW.one (k := 6) (i := i0) hi0) 0 rfl rfl 1 (by decide) (hts _ tw_54) (fun _ h9 => h9) rfl d_M_makePermanent_1 ?_
  refine lv_aload_n hx hb d_M_makePermanent_4 rfl (lv_at hl 0 rfl) ?_
  refine va_get (D := G.1) (ci := 1) (C := "TwoPhaseCuts$Member") (T := T_M) (N := 12) (v := .ref (L 7 (3 * i0 + 2))) hx hb hts ui_M hown hK (hW.one (k := 6) (i := i0) hi0) 0 rfl rfl 2 (by decide) (hts _ tw_56) (fun _ h9 => h9) rfl d_M_makePermanent_5 ?_
  obtain ⟨u1, hu1, hf⟩ := mm_bind hf
  refine mm_callv (va_runV (As := [.ref (L 7 (3 * i0 + 2))]) (rest := []) hC (c_S_copyFrom l G L F n hI σ (3 * i0 + 1) (3 * i0 + 2) (ec_h1 hi0) (ec_h2 hi0) hu1) (cwV 1 hts (tw_gV tw_284 tw_249 tw_250 tw_4 tw_251) rfl rfl rfl (by decide +kernel) ⟨Nat.le_of_ble_eq_true rfl, Nat.le_of_ble_eq_true rfl⟩) (mm_preV hK hW (k := 7) (i := (3 * i0 + 1)) (ec_h1 hi0) rfl rfl) rfl rfl hl.1 rfl (lv_room (Nat.le_of_ble_eq_true rfl)) d_M_makePermanent_8 ⟨Nat.zero_le _, Nat.zero_le _⟩) hS (fun _ h => h) (fun H locs hW _ _ hS => ?_)
  refine lv_aload_n hx hb d_M_makePermanent_11 rfl (lv_at hl 0 rfl) ?_
  refine lv_dup hx hb d_M_makePermanent_12 rfl ?_
  refine va_get (D := G.1) (ci := 1) (C := "TwoPhaseCuts$Member") (T := T_M) (N := 12) (v := .int (u1 6 i0 4)) hx hb hts ui_M hown hK (hW.one (k := 6) (i := i0) hi0) 0 rfl rfl 4 (by decide) (hts _ tw_59) (fun _ h9 => h9) rfl d_M_makePermanent_13 ?_
  refine lv_iconst (v := (1 : Int32)) hx hb d_M_makePermanent_16 (by decide) ?_
  refine lv_iadd hx hb d_M_makePermanent_17 ?_
  refine mm_put (D := G.1) (ci := 1) (C := "TwoPhaseCuts$Member") (T := T_M) (N := 12) (x := ((u1 6 i0 4) + (1 : Int32))) hx hb hts ui_M ty_M tyo_M nmo_M hown hK hI hW hS (k := 6) (i := i0) hi0 rfl rfl 4 (by decide) (hts _ tw_59) (fun _ h9 => h9) rfl (ty := .int) (by decide +kernel) (vp_nar_int _) rfl (Nat.le_of_ble_eq_true rfl) rfl d_M_makePermanent_18 (fun H locs hW hS => ?_)
  obtain rfl := Option.some.inj hf
  exact W.vret hx hb hr (fun t ht hw => ⟨⟨(), rfl, trivial, (mm_back ht hw hW hK)⟩, hS.F ht⟩) hS.2.2 d_M_makePermanent_21
abbrev rm_L_wrapped : Room := { frames := 0, cells := 0, slots := 0, locals := 0 }
set_option maxHeartbeats 4000000 in
set_option maxRecDepth 100000 in
theorem c_L_wrapped (l : Launch) (G : ec_G) (L : mm_L) (F n : Nat) (hI : mm_I (ec_cnt n) L) (σ : mm_M) (a1 : Int32) {out : Int32} (hf : f_L_wrapped F n σ a1 = some out) :
    Met l y_L_wrapped (Cond.code y_L_wrapped b_L_wrapped 2 (some .int) :: tw_tbl) rm_L_wrapped (va_Pc [.ref (L 3 0), .int a1] (mm_pre G.1 ec_cl (ec_T G) (ec_cnt n) L (ec_E G L n) σ))
      (va_Qi (fun r (_ : Unit) => r = out) (fun _ t => mm_pre G.1 ec_cl (ec_T G) (ec_cnt n) L (ec_E G L n) σ t) (mm_A (ec_cnt n) L)) 0 0 (mm_A (ec_cnt n) L) := by
  refine Met.ofW (cc := b_L_wrapped) (maxL := 2) (ret := (some .int)) (by decide) rfl ?_
  intro p e s m args below meth c s₁ B hml hv
  obtain ⟨rfl, hW, hK⟩ := hv
  have hx := B.exec
  have hb := B.bytes
  have hr := B.returns
  have hts0 := atoms_spec (ws := Cond.code y_L_wrapped b_L_wrapped 2 (some .int) :: tw_tbl) B.pre
  have hts : ∀ w ∈ tw_tbl, w.before [.ref (L 3 0), .int a1].toArray s = true := fun w h => hts0 w (List.mem_cons_of_mem _ h)
  clear hts0
  have hown : s.vm.findClass "TwoPhaseCuts$NoteLine" = some m.cls := findClass_of_methodNamed B.named
  have hlocks := B.notSynchronized
  have hC : CallFix p m c b_L_wrapped 2 s [.ref (L 3 0), .int a1].toArray tw_tbl "TwoPhaseCuts$NoteLine" := ⟨hx, hb, hml, hown, hts⟩
  have hS : va_S (mm_A (ec_cnt n) L) s.heap s.heap [] := va_S.rf
  have hl := lv_entry ([.ref (L 3 0), .int a1]) (n := 2) (Nat.le_of_ble_eq_true rfl)
  rw [lg_entry_eq]
  generalize (lg_sl ([.ref (L 3 0), .int a1]) ++ List.replicate (2 - (lg_sl ([.ref (L 3 0), .int a1])).length) Slot.unset).toArray = ls at hl ⊢
  have hl : lv_has ls 2 [(0, .ref (L 3 0)), (1, .int a1)] := hl
  have hW : mm_W G.1 ec_cl (ec_cnt n) L (ec_E G L n) σ s.heap := hW
  clear B
  show W p l e rm_L_wrapped s m [.ref (L 3 0), .int a1].toArray below meth c s.heap [] 0 0 (MQ below (va_Qi (fun r (_ : Unit) => r = out) (fun _ t => mm_pre G.1 ec_cl (ec_T G) (ec_cnt n) L (ec_E G L n) σ t) (mm_A (ec_cnt n) L)) [.ref (L 3 0), .int a1].toArray s 0 0 (mm_A (ec_cnt n) L)) (F0 m 0 ls [])
  unfold f_L_wrapped at hf
  refine lv_iload_n hx hb d_L_wrapped_0 rfl (lv_at hl 1 rfl) ?_
  refine lv_aload_n hx hb d_L_wrapped_1 rfl (lv_at hl 0 rfl) ?_
  refine va_get (D := G.1) (ci := 4) (C := "TwoPhaseCuts$NoteLine") (T := T_L) (N := 3) (v := .ref (L 14 0)) hx hb hts ui_L hown hK (hW.one (k := 3) (i := 0) (Nat.zero_lt_one)) 0 rfl rfl 0 (by decide) (hts _ tw_153) (fun _ h9 => h9) rfl d_L_wrapped_2 ?_
  refine va_alen (D := G.1) (cl := ec_cl) hx hb hK (hW.one (k := 14) (i := 0) (Nat.zero_lt_one)) 0 4 rfl rfl (v := nI (4 * n * (n - 1))) rfl d_L_wrapped_5 ?_
  obtain ⟨u1, hu1, hf⟩ := mm_bind hf
  have jp1 : ∀ (H : Heap) (locs : List Loc) (ls : Array Slot), mm_W G.1 ec_cl (ec_cnt n) L (ec_E G L n) σ H → va_S (mm_A (ec_cnt n) L) s.heap H locs → lv_has ls 2 [] → W p l e rm_L_wrapped s m [.ref (L 3 0), .int a1].toArray below meth c H locs 0 0 (MQ below (va_Qi (fun r (_ : Unit) => r = out) (fun _ t => mm_pre G.1 ec_cl (ec_T G) (ec_cnt n) L (ec_E G L n) σ t) (mm_A (ec_cnt n) L)) [.ref (L 3 0), .int a1].toArray s 0 0 (mm_A (ec_cnt n) L)) (F0 m 20 ls [.int u1]) := by
    intro H locs ls hW hS hl
    obtain rfl := Option.some.inj hf
    exact W.iret (v := u1) hx hb hr (fun t ht hw => ⟨⟨_, (), rfl, rfl, (mm_back ht hw hW hK)⟩, hS.F ht⟩) hS.2.2 d_L_wrapped_20
  clear hf
  have hf := hu1
  clear hu1
  refine lv_icmp_ge (tgt := 13) hx hb d_L_wrapped_6 (by decide) (fun hc => ?_) (fun hc => ?_)
  · rw [if_pos hc] at hf
    refine lv_iload_n hx hb d_L_wrapped_13 rfl (lv_at hl 1 rfl) ?_
    refine lv_aload_n hx hb d_L_wrapped_14 rfl (lv_at hl 0 rfl) ?_
    refine va_get (D := G.1) (ci := 4) (C := "TwoPhaseCuts$NoteLine") (T := T_L) (N := 3) (v := .ref (L 14 0)) hx hb hts ui_L hown hK (hW.one (k := 3) (i := 0) (Nat.zero_lt_one)) 0 rfl rfl 0 (by decide) (hts _ tw_153) (fun _ h9 => h9) rfl d_L_wrapped_15 ?_
    refine va_alen (D := G.1) (cl := ec_cl) hx hb hK (hW.one (k := 14) (i := 0) (Nat.zero_lt_one)) 0 4 rfl rfl (v := nI (4 * n * (n - 1))) rfl d_L_wrapped_18 ?_
    refine lv_isub hx hb d_L_wrapped_19 ?_
    obtain rfl := Option.some.inj hf
    exact jp1 _ _ _ hW hS (lv_sub hl [] rfl)
  · rw [if_neg hc] at hf
    refine lv_iload_n hx hb d_L_wrapped_9 rfl (lv_at hl 1 rfl) ?_
    refine lv_goto (tgt := 20) hx hb d_L_wrapped_10 (by decide) ?_
    obtain rfl := Option.some.inj hf
    exact jp1 _ _ _ hW hS (lv_sub hl [] rfl)
abbrev rm_L_add : Room := { frames := 1, cells := 0, slots := 0, locals := 21 }
set_option maxHeartbeats 4000000 in
set_option maxRecDepth 100000 in
theorem c_L_add (l : Launch) (G : ec_G) (L : mm_L) (F n : Nat) (hI : mm_I (ec_cnt n) L) (σ : mm_M) (a1 : Int32) (a2 : Int32) (a3 : Int32) (a4 : Int32) (a5 : Int32) {out : mm_M} (hf : f_L_add F n σ a1 a2 a3 a4 a5 = some out) :
    Met l y_L_add (Cond.code y_L_add b_L_add 7 none :: tw_tbl) rm_L_add (va_Pc [.ref (L 3 0), .int a1, .int a2, .int a3, .int a4, .int a5] (mm_pre G.1 ec_cl (ec_T G) (ec_cnt n) L (ec_E G L n) σ))
      (va_Qv (fun (_ : Unit) => True) (fun _ t => mm_pre G.1 ec_cl (ec_T G) (ec_cnt n) L (ec_E G L n) out t) (mm_A (ec_cnt n) L)) 0 0 (mm_A (ec_cnt n) L) := by
  refine Met.ofW (cc := b_L_add) (maxL := 7) (ret := none) (by decide) rfl ?_
  intro p e s m args below meth c s₁ B hml hv
  obtain ⟨rfl, hW, hK⟩ := hv
  have hx := B.exec
  have hb := B.bytes
  have hr := B.returns
  have hts0 := atoms_spec (ws := Cond.code y_L_add b_L_add 7 none :: tw_tbl) B.pre
  have hts : ∀ w ∈ tw_tbl, w.before [.ref (L 3 0), .int a1, .int a2, .int a3, .int a4, .int a5].toArray s = true := fun w h => hts0 w (List.mem_cons_of_mem _ h)
  clear hts0
  have hown : s.vm.findClass "TwoPhaseCuts$NoteLine" = some m.cls := findClass_of_methodNamed B.named
  have hlocks := B.notSynchronized
  have hC : CallFix p m c b_L_add 7 s [.ref (L 3 0), .int a1, .int a2, .int a3, .int a4, .int a5].toArray tw_tbl "TwoPhaseCuts$NoteLine" := ⟨hx, hb, hml, hown, hts⟩
  have hS : va_S (mm_A (ec_cnt n) L) s.heap s.heap [] := va_S.rf
  have hl := lv_entry ([.ref (L 3 0), .int a1, .int a2, .int a3, .int a4, .int a5]) (n := 7) (Nat.le_of_ble_eq_true rfl)
  rw [lg_entry_eq]
  generalize (lg_sl ([.ref (L 3 0), .int a1, .int a2, .int a3, .int a4, .int a5]) ++ List.replicate (7 - (lg_sl ([.ref (L 3 0), .int a1, .int a2, .int a3, .int a4, .int a5])).length) Slot.unset).toArray = ls at hl ⊢
  have hl : lv_has ls 7 [(0, .ref (L 3 0)), (1, .int a1), (2, .int a2), (3, .int a3), (4, .int a4), (5, .int a5)] := hl
  have hW : mm_W G.1 ec_cl (ec_cnt n) L (ec_E G L n) σ s.heap := hW
  clear B
  show W p l e rm_L_add s m [.ref (L 3 0), .int a1, .int a2, .int a3, .int a4, .int a5].toArray below meth c s.heap [] 0 0 (MQ below (va_Qv (fun (_ : Unit) => True) (fun _ t => mm_pre G.1 ec_cl (ec_T G) (ec_cnt n) L (ec_E G L n) out t) (mm_A (ec_cnt n) L)) [.ref (L 3 0), .int a1, .int a2, .int a3, .int a4, .int a5].toArray s 0 0 (mm_A (ec_cnt n) L)) (F0 m 0 ls [])
  unfold f_L_add at hf
  refine lv_aload_n hx hb d_L_add_0 rfl (lv_at hl 0 rfl) ?_
  refine va_get (D := G.1) (ci := 4) (C := "TwoPhaseCuts$NoteLine") (T := T_L) (N := 3) (v := .int (σ 3 0 2)) hx hb hts ui_L hown hK (hW.one (k := 3) (i := 0) (Nat.zero_lt_one)) 0 rfl rfl 2 (by decide) (hts _ tw_155) (fun _ h9 => h9) rfl d_L_add_1 ?_
  refine lv_aload_n hx hb d_L_add_4 rfl (lv_at hl 0 rfl) ?_
  refine va_get (D := G.1) (ci := 4) (C := "TwoPhaseCuts$NoteLine") (T := T_L) (N := 3) (v := .ref (L 14 0)) hx hb hts ui_L hown hK (hW.one (k := 3) (i := 0) (Nat.zero_lt_one)) 0 rfl rfl 0 (by decide) (hts _ tw_153) (fun _ h9 => h9) rfl d_L_add_5 ?_
  refine va_alen (D := G.1) (cl := ec_cl) hx hb hK (hW.one (k := 14) (i := 0) (Nat.zero_lt_one)) 0 4 rfl rfl (v := nI (4 * n * (n - 1))) rfl d_L_add_8 ?_
  refine lv_icmp_lt (tgt := 13) hx hb d_L_add_9 (by decide) (fun hc => ?_) (fun hc => ?_)
  · rw [if_pos hc] at hf
    refine lv_aload_n hx hb d_L_add_13 rfl (lv_at hl 0 rfl) ?_
    refine va_get (D := G.1) (ci := 4) (C := "TwoPhaseCuts$NoteLine") (T := T_L) (N := 3) (v := .ref (L 14 0)) hx hb hts ui_L hown hK (hW.one (k := 3) (i := 0) (Nat.zero_lt_one)) 0 rfl rfl 0 (by decide) (hts _ tw_153) (fun _ h9 => h9) rfl d_L_add_14 ?_
    refine lv_aload_n hx hb d_L_add_17 rfl (lv_at hl 0 rfl) ?_
    refine lv_aload_n hx hb d_L_add_18 rfl (lv_at hl 0 rfl) ?_
    refine va_get (D := G.1) (ci := 4) (C := "TwoPhaseCuts$NoteLine") (T := T_L) (N := 3) (v := .int (σ 3 0 1)) hx hb hts ui_L hown hK (hW.one (k := 3) (i := 0) (Nat.zero_lt_one)) 0 rfl rfl 1 (by decide) (hts _ tw_154) (fun _ h9 => h9) rfl d_L_add_19 ?_
    refine lv_aload_n hx hb d_L_add_22 rfl (lv_at hl 0 rfl) ?_
    refine va_get (D := G.1) (ci := 4) (C := "TwoPhaseCuts$NoteLine") (T := T_L) (N := 3) (v := .int (σ 3 0 2)) hx hb hts ui_L hown hK (hW.one (k := 3) (i := 0) (Nat.zero_lt_one)) 0 rfl rfl 2 (by decide) (hts _ tw_155) (fun _ h9 => h9) rfl d_L_add_23 ?_
    refine lv_iadd hx hb d_L_add_26 ?_
    obtain ⟨u1, hu1, hf⟩ := mm_bind hf
    refine mm_calli (va_runV (As := [.int ((σ 3 0 1) + (σ 3 0 2))]) (rest := [.ref (L 14 0)]) hC (c_L_wrapped l G L F n hI σ ((σ 3 0 1) + (σ 3 0 2)) hu1) (cwV 1 hts (tw_gV tw_260 tw_262 ts_5 tw_6 tw_263) rfl rfl rfl (by decide +kernel) ⟨Nat.le_of_ble_eq_true rfl, Nat.le_of_ble_eq_true rfl⟩) (mm_preV hK hW (k := 3) (i := 0) (Nat.zero_lt_one) rfl rfl) rfl rfl hl.1 rfl (lv_room (Nat.le_of_ble_eq_true rfl)) d_L_add_27 ⟨Nat.zero_le _, Nat.zero_le _⟩) hS (fun _ h => h) (fun H locs hW _ _ hS => ?_)
    obtain ⟨hg1, hf⟩ := mm_guard hf
    refine va_aldq (D := G.1) (cl := ec_cl) hx hb hK (hW.one (k := 14) (i := 0) (Nat.zero_lt_one)) 0 4 rfl rfl (mm_vp hg1) d_L_add_30 ?_
    refine lv_astore (lv' := [(6, .ref (L 15 (Int32.toNatClampNeg u1))), (0, .ref (L 3 0)), (1, .int a1), (2, .int a2), (3, .int a3), (4, .int a4), (5, .int a5)]) hx hb d_L_add_31 hl (by decide) rfl (fun ls hl => ?_)
    refine lv_aload hx hb d_L_add_33 (lv_at hl 0 rfl) ?_
    refine lv_iload_n hx hb d_L_add_35 rfl (lv_at hl 2 rfl) ?_
    refine mm_put (D := G.1) (ci := 5) (C := "TwoPhaseCuts$Note") (T := T_N) (N := 5) (x := a1) hx hb hts ui_N ty_N tyo_N nmo_N hown hK hI hW hS (k := 15) (i := (Int32.toNatClampNeg u1)) (mm_nat hg1) rfl rfl 0 (by decide) (hts _ tw_132) (fun _ h9 => h9) rfl (ty := .int) (by decide +kernel) (vp_nar_int _) rfl (Nat.le_of_ble_eq_true rfl) rfl d_L_add_36 (fun H locs hW hS => ?_)
    refine lv_aload hx hb d_L_add_39 (lv_at hl 0 rfl) ?_
    refine lv_iload_n hx hb d_L_add_41 rfl (lv_at hl 3 rfl) ?_
    refine mm_put (D := G.1) (ci := 5) (C := "TwoPhaseCuts$Note") (T := T_N) (N := 5) (x := a2) hx hb hts ui_N ty_N tyo_N nmo_N hown hK hI hW hS (k := 15) (i := (Int32.toNatClampNeg u1)) (mm_nat hg1) rfl rfl 1 (by decide) (hts _ tw_134) (fun _ h9 => h9) rfl (ty := .int) (by decide +kernel) (vp_nar_int _) rfl (Nat.le_of_ble_eq_true rfl) rfl d_L_add_42 (fun H locs hW hS => ?_)
    refine lv_aload hx hb d_L_add_45 (lv_at hl 0 rfl) ?_
    refine lv_iload_n hx hb d_L_add_47 rfl (lv_at hl 4 rfl) ?_
    refine mm_put (D := G.1) (ci := 5) (C := "TwoPhaseCuts$Note") (T := T_N) (N := 5) (x := a3) hx hb hts ui_N ty_N tyo_N nmo_N hown hK hI hW hS (k := 15) (i := (Int32.toNatClampNeg u1)) (mm_nat hg1) rfl rfl 2 (by decide) (hts _ tw_136) (fun _ h9 => h9) rfl (ty := .int) (by decide +kernel) (vp_nar_int _) rfl (Nat.le_of_ble_eq_true rfl) rfl d_L_add_48 (fun H locs hW hS => ?_)
    refine lv_aload hx hb d_L_add_51 (lv_at hl 0 rfl) ?_
    refine lv_iload hx hb d_L_add_53 (lv_at hl 5 rfl) ?_
    refine mm_put (D := G.1) (ci := 5) (C := "TwoPhaseCuts$Note") (T := T_N) (N := 5) (x := a4) hx hb hts ui_N ty_N tyo_N nmo_N hown hK hI hW hS (k := 15) (i := (Int32.toNatClampNeg u1)) (mm_nat hg1) rfl rfl 3 (by decide) (hts _ tw_138) (fun _ h9 => h9) rfl (ty := .int) (by decide +kernel) (vp_nar_int _) rfl (Nat.le_of_ble_eq_true rfl) rfl d_L_add_55 (fun H locs hW hS => ?_)
    refine lv_aload hx hb d_L_add_58 (lv_at hl 0 rfl) ?_
    refine lv_iload hx hb d_L_add_60 (lv_at hl 6 rfl) ?_
    refine mm_put (D := G.1) (ci := 5) (C := "TwoPhaseCuts$Note") (T := T_N) (N := 5) (x := a5) hx hb hts ui_N ty_N tyo_N nmo_N hown hK hI hW hS (k := 15) (i := (Int32.toNatClampNeg u1)) (mm_nat hg1) rfl rfl 4 (by decide) (hts _ tw_140) (fun _ h9 => h9) rfl (ty := .int) (by decide +kernel) (vp_nar_int _) rfl (Nat.le_of_ble_eq_true rfl) rfl d_L_add_62 (fun H locs hW hS => ?_)
    refine lv_aload_n hx hb d_L_add_65 rfl (lv_at hl 1 rfl) ?_
    refine lv_dup hx hb d_L_add_66 rfl ?_
    refine va_get (D := G.1) (ci := 4) (C := "TwoPhaseCuts$NoteLine") (T := T_L) (N := 3) (v := .int (σ 3 0 2)) hx hb hts ui_L hown hK (hW.one (k := 3) (i := 0) (Nat.zero_lt_one)) 0 rfl rfl 2 (by decide) (hts _ tw_155) (fun _ h9 => h9) rfl d_L_add_67 ?_
    refine lv_iconst (v := (1 : Int32)) hx hb d_L_add_70 (by decide) ?_
    refine lv_iadd hx hb d_L_add_71 ?_
    refine mm_put (D := G.1) (ci := 4) (C := "TwoPhaseCuts$NoteLine") (T := T_L) (N := 3) (x := ((σ 3 0 2) + (1 : Int32))) hx hb hts ui_L ty_L tyo_L nmo_L hown hK hI hW hS (k := 3) (i := 0) (Nat.zero_lt_one) rfl rfl 2 (by decide) (hts _ tw_155) (fun _ h9 => h9) rfl (ty := .int) (by decide +kernel) (vp_nar_int _) rfl (Nat.le_of_ble_eq_true rfl) rfl d_L_add_72 (fun H locs hW hS => ?_)
    obtain rfl := Option.some.inj hf
    exact W.vret hx hb hr (fun t ht hw => ⟨⟨(), rfl, trivial, (mm_back ht hw hW hK)⟩, hS.F ht⟩) hS.2.2 d_L_add_75
  · rw [if_neg hc] at hf
    obtain rfl := Option.some.inj hf
    exact W.vret hx hb hr (fun t ht hw => ⟨⟨(), rfl, trivial, (mm_back ht hw hW hK)⟩, hS.F ht⟩) hS.2.2 d_L_add_12
abbrev rm_L_first : Room := { frames := 0, cells := 0, slots := 0, locals := 0 }
set_option maxHeartbeats 4000000 in
set_option maxRecDepth 100000 in
theorem c_L_first (l : Launch) (G : ec_G) (L : mm_L) (F n : Nat) (hI : mm_I (ec_cnt n) L) (σ : mm_M) {out : Nat} (hf : f_L_first F n σ = some out) :
    Met l y_L_first (Cond.code y_L_first b_L_first 1 (some (.object "TwoPhaseCuts$Note")) :: tw_tbl) rm_L_first (va_Pc [.ref (L 3 0)] (mm_pre G.1 ec_cl (ec_T G) (ec_cnt n) L (ec_E G L n) σ))
      (va_Qr (fun (_ : Unit) => True) (fun _ ra t => ra = L 15 out ∧ out < ec_cnt n 15 ∧ mm_pre G.1 ec_cl (ec_T G) (ec_cnt n) L (ec_E G L n) σ t) (mm_A (ec_cnt n) L)) 0 0 (mm_A (ec_cnt n) L) := by
  refine Met.ofW (cc := b_L_first) (maxL := 1) (ret := (some (.object "TwoPhaseCuts$Note"))) (by decide) rfl ?_
  intro p e s m args below meth c s₁ B hml hv
  obtain ⟨rfl, hW, hK⟩ := hv
  have hx := B.exec
  have hb := B.bytes
  have hr := B.returns
  have hts0 := atoms_spec (ws := Cond.code y_L_first b_L_first 1 (some (.object "TwoPhaseCuts$Note")) :: tw_tbl) B.pre
  have hts : ∀ w ∈ tw_tbl, w.before [.ref (L 3 0)].toArray s = true := fun w h => hts0 w (List.mem_cons_of_mem _ h)
  clear hts0
  have hown : s.vm.findClass "TwoPhaseCuts$NoteLine" = some m.cls := findClass_of_methodNamed B.named
  have hlocks := B.notSynchronized
  have hC : CallFix p m c b_L_first 1 s [.ref (L 3 0)].toArray tw_tbl "TwoPhaseCuts$NoteLine" := ⟨hx, hb, hml, hown, hts⟩
  have hS : va_S (mm_A (ec_cnt n) L) s.heap s.heap [] := va_S.rf
  have hl := lv_entry ([.ref (L 3 0)]) (n := 1) (Nat.le_of_ble_eq_true rfl)
  rw [lg_entry_eq]
  generalize (lg_sl ([.ref (L 3 0)]) ++ List.replicate (1 - (lg_sl ([.ref (L 3 0)])).length) Slot.unset).toArray = ls at hl ⊢
  have hl : lv_has ls 1 [(0, .ref (L 3 0))] := hl
  have hW : mm_W G.1 ec_cl (ec_cnt n) L (ec_E G L n) σ s.heap := hW
  clear B
  show W p l e rm_L_first s m [.ref (L 3 0)].toArray below meth c s.heap [] 0 0 (MQ below (va_Qr (fun (_ : Unit) => True) (fun _ ra t => ra = L 15 out ∧ out < ec_cnt n 15 ∧ mm_pre G.1 ec_cl (ec_T G) (ec_cnt n) L (ec_E G L n) σ t) (mm_A (ec_cnt n) L)) [.ref (L 3 0)].toArray s 0 0 (mm_A (ec_cnt n) L)) (F0 m 0 ls [])
  unfold f_L_first at hf
  refine lv_aload_n hx hb d_L_first_0 rfl (lv_at hl 0 rfl) ?_
  refine va_get (D := G.1) (ci := 4) (C := "TwoPhaseCuts$NoteLine") (T := T_L) (N := 3) (v := .ref (L 14 0)) hx hb hts ui_L hown hK (hW.one (k := 3) (i := 0) (Nat.zero_lt_one)) 0 rfl rfl 0 (by decide) (hts _ tw_153) (fun _ h9 => h9) rfl d_L_first_1 ?_
  refine lv_aload_n hx hb d_L_first_4 rfl (lv_at hl 0 rfl) ?_
  refine va_get (D := G.1) (ci := 4) (C := "TwoPhaseCuts$NoteLine") (T := T_L) (N := 3) (v := .int (σ 3 0 1)) hx hb hts ui_L hown hK (hW.one (k := 3) (i := 0) (Nat.zero_lt_one)) 0 rfl rfl 1 (by decide) (hts _ tw_154) (fun _ h9 => h9) rfl d_L_first_5 ?_
  obtain ⟨hg1, hf⟩ := mm_guard hf
  refine va_aldq (D := G.1) (cl := ec_cl) hx hb hK (hW.one (k := 14) (i := 0) (Nat.zero_lt_one)) 0 4 rfl rfl (mm_vp hg1) d_L_first_8 ?_
  obtain rfl := Option.some.inj hf
  exact W.aret hx hb hr (Or.inl ⟨_, rfl⟩) (Or.inr ⟨_, rfl⟩) (fun t ht hw => ⟨⟨(), _, rfl, trivial, rfl, (mm_nat hg1), (mm_back ht hw hW hK)⟩, hS.F ht⟩) hS.2.2 d_L_first_9
abbrev rm_L_takeFirst : Room := { frames := 1, cells := 0, slots := 0, locals := 21 }
set_option maxHeartbeats 4000000 in
set_option maxRecDepth 100000 in
theorem c_L_takeFirst (l : Launch) (G : ec_G) (L : mm_L) (F n : Nat) (hI : mm_I (ec_cnt n) L) (σ : mm_M) {out : mm_M} (hf : f_L_takeFirst F n σ = some out) :
    Met l y_L_takeFirst (Cond.code y_L_takeFirst b_L_takeFirst 1 none :: tw_tbl) rm_L_takeFirst (va_Pc [.ref (L 3 0)] (mm_pre G.1 ec_cl (ec_T G) (ec_cnt n) L (ec_E G L n) σ))
      (va_Qv (fun (_ : Unit) => True) (fun _ t => mm_pre G.1 ec_cl (ec_T G) (ec_cnt n) L (ec_E G L n) out t) (mm_A (ec_cnt n) L)) 0 0 (mm_A (ec_cnt n) L) := by
  refine Met.ofW (cc := b_L_takeFirst) (maxL := 1) (ret := none) (by decide) rfl ?_
  intro p e s m args below meth c s₁ B hml hv
  obtain ⟨rfl, hW, hK⟩ := hv
  have hx := B.exec
  have hb := B.bytes
  have hr := B.returns
  have hts0 := atoms_spec (ws := Cond.code y_L_takeFirst b_L_takeFirst 1 none :: tw_tbl) B.pre
  have hts : ∀ w ∈ tw_tbl, w.before [.ref (L 3 0)].toArray s = true := fun w h => hts0 w (List.mem_cons_of_mem _ h)
  clear hts0
  have hown : s.vm.findClass "TwoPhaseCuts$NoteLine" = some m.cls := findClass_of_methodNamed B.named
  have hlocks := B.notSynchronized
  have hC : CallFix p m c b_L_takeFirst 1 s [.ref (L 3 0)].toArray tw_tbl "TwoPhaseCuts$NoteLine" := ⟨hx, hb, hml, hown, hts⟩
  have hS : va_S (mm_A (ec_cnt n) L) s.heap s.heap [] := va_S.rf
  have hl := lv_entry ([.ref (L 3 0)]) (n := 1) (Nat.le_of_ble_eq_true rfl)
  rw [lg_entry_eq]
  generalize (lg_sl ([.ref (L 3 0)]) ++ List.replicate (1 - (lg_sl ([.ref (L 3 0)])).length) Slot.unset).toArray = ls at hl ⊢
  have hl : lv_has ls 1 [(0, .ref (L 3 0))] := hl
  have hW : mm_W G.1 ec_cl (ec_cnt n) L (ec_E G L n) σ s.heap := hW
  clear B
  show W p l e rm_L_takeFirst s m [.ref (L 3 0)].toArray below meth c s.heap [] 0 0 (MQ below (va_Qv (fun (_ : Unit) => True) (fun _ t => mm_pre G.1 ec_cl (ec_T G) (ec_cnt n) L (ec_E G L n) out t) (mm_A (ec_cnt n) L)) [.ref (L 3 0)].toArray s 0 0 (mm_A (ec_cnt n) L)) (F0 m 0 ls [])
  unfold f_L_takeFirst at hf
  refine lv_aload_n hx hb d_L_takeFirst_0 rfl (lv_at hl 0 rfl) ?_
  refine va_get (D := G.1) (ci := 4) (C := "TwoPhaseCuts$NoteLine") (T := T_L) (N := 3) (v := .int (σ 3 0 2)) hx hb hts ui_L hown hK (hW.one (k := 3) (i := 0) (Nat.zero_lt_one)) 0 rfl rfl 2 (by decide) (hts _ tw_155) (fun _ h9 => h9) rfl d_L_takeFirst_1 ?_
  obtain ⟨u1, hu1, hf⟩ := mm_bind hf
  have jp1 : ∀ (H : Heap) (locs : List Loc) (ls : Array Slot), mm_W G.1 ec_cl (ec_cnt n) L (ec_E G L n) u1 H → va_S (mm_A (ec_cnt n) L) s.heap H locs → lv_has ls 1 [] → W p l e rm_L_takeFirst s m [.ref (L 3 0)].toArray below meth c H locs 0 0 (MQ below (va_Qv (fun (_ : Unit) => True) (fun _ t => mm_pre G.1 ec_cl (ec_T G) (ec_cnt n) L (ec_E G L n) out t) (mm_A (ec_cnt n) L)) [.ref (L 3 0)].toArray s 0 0 (mm_A (ec_cnt n) L)) (F0 m 31 ls []) := by
    intro H locs ls hW hS hl
    obtain rfl := Option.some.inj hf
    exact W.vret hx hb hr (fun t ht hw => ⟨⟨(), rfl, trivial, (mm_back ht hw hW hK)⟩, hS.F ht⟩) hS.2.2 d_L_takeFirst_31
  clear hf
  have hf := hu1
  clear hu1
  refine lv_if_le (tgt := 31) hx hb d_L_takeFirst_4 (by decide) (fun hc => ?_) (fun hc => ?_)
  · rw [if_pos hc] at hf
    obtain rfl := Option.some.inj hf
    exact jp1 _ _ _ hW hS (lv_sub hl [] rfl)
  · rw [if_neg hc] at hf
    refine lv_aload_n hx hb d_L_takeFirst_7 rfl (lv_at hl 0 rfl) ?_
    refine lv_aload_n hx hb d_L_takeFirst_8 rfl (lv_at hl 0 rfl) ?_
    refine lv_aload_n hx hb d_L_takeFirst_9 rfl (lv_at hl 0 rfl) ?_
    refine va_get (D := G.1) (ci := 4) (C := "TwoPhaseCuts$NoteLine") (T := T_L) (N := 3) (v := .int (σ 3 0 1)) hx hb hts ui_L hown hK (hW.one (k := 3) (i := 0) (Nat.zero_lt_one)) 0 rfl rfl 1 (by decide) (hts _ tw_154) (fun _ h9 => h9) rfl d_L_takeFirst_10 ?_
    refine lv_iconst (v := (1 : Int32)) hx hb d_L_takeFirst_13 (by decide) ?_
    refine lv_iadd hx hb d_L_takeFirst_14 ?_
    obtain ⟨u2, hu2, hf⟩ := mm_bind hf
    refine mm_calli (va_runV (As := [.int ((σ 3 0 1) + (1 : Int32))]) (rest := [.ref (L 3 0)]) hC (c_L_wrapped l G L F n hI σ ((σ 3 0 1) + (1 : Int32)) hu2) (cwV 1 hts (tw_gV tw_260 tw_262 ts_5 tw_6 tw_263) rfl rfl rfl (by decide +kernel) ⟨Nat.le_of_ble_eq_true rfl, Nat.le_of_ble_eq_true rfl⟩) (mm_preV hK hW (k := 3) (i := 0) (Nat.zero_lt_one) rfl rfl) rfl rfl hl.1 rfl (lv_room (Nat.le_of_ble_eq_true rfl)) d_L_takeFirst_15 ⟨Nat.zero_le _, Nat.zero_le _⟩) hS (fun _ h => h) (fun H locs hW _ _ hS => ?_)
    refine mm_put (D := G.1) (ci := 4) (C := "TwoPhaseCuts$NoteLine") (T := T_L) (N := 3) (x := u2) hx hb hts ui_L ty_L tyo_L nmo_L hown hK hI hW hS (k := 3) (i := 0) (Nat.zero_lt_one) rfl rfl 1 (by decide) (hts _ tw_154) (fun _ h9 => h9) rfl (ty := .int) (by decide +kernel) (vp_nar_int _) rfl (Nat.le_of_ble_eq_true rfl) rfl d_L_takeFirst_18 (fun H locs hW hS => ?_)
    refine lv_aload_n hx hb d_L_takeFirst_21 rfl (lv_at hl 0 rfl) ?_
    refine lv_dup hx hb d_L_takeFirst_22 rfl ?_
    refine va_get (D := G.1) (ci := 4) (C := "TwoPhaseCuts$NoteLine") (T := T_L) (N := 3) (v := .int (σ 3 0 2)) hx hb hts ui_L hown hK (hW.one (k := 3) (i := 0) (Nat.zero_lt_one)) 0 rfl rfl 2 (by decide) (hts _ tw_155) (fun _ h9 => h9) rfl d_L_takeFirst_23 ?_
    refine lv_iconst (v := (1 : Int32)) hx hb d_L_takeFirst_26 (by decide) ?_
    refine lv_isub hx hb d_L_takeFirst_27 ?_
    refine mm_put (D := G.1) (ci := 4) (C := "TwoPhaseCuts$NoteLine") (T := T_L) (N := 3) (x := ((σ 3 0 2) - (1 : Int32))) hx hb hts ui_L ty_L tyo_L nmo_L hown hK hI hW hS (k := 3) (i := 0) (Nat.zero_lt_one) rfl rfl 2 (by decide) (hts _ tw_155) (fun _ h9 => h9) rfl (ty := .int) (by decide +kernel) (vp_nar_int _) rfl (Nat.le_of_ble_eq_true rfl) rfl d_L_takeFirst_28 (fun H locs hW hS => ?_)
    obtain rfl := Option.some.inj hf
    exact jp1 _ _ _ hW hS (lv_sub hl [] rfl)
