abbrev rm_R_lose : Room := { frames := 2, cells := 0, slots := 0, locals := 47 }
set_option maxHeartbeats 4000000 in
set_option maxRecDepth 100000 in
theorem c_R_lose (l : Launch) (G : ec_G) (L : mm_L) (F n : Nat) (hI : mm_I (er_cnt n) L) (σ : mm_M) (a1 : Int32) (a2 : Int32) {out : Int32 × mm_M} (hf : f_R_lose F n σ a1 a2 = some out) :
    Met l y_R_lose (Cond.code y_R_lose b_R_lose 3 (some .int) :: tw_tbl) rm_R_lose (va_Pc [.ref (L 0 0), .int a1, .int a2] (mm_pre G.1 ec_cl (ec_T G) (er_cnt n) L (er_E G L n) σ))
      (va_Qi (fun r (_ : Unit) => r = out.1) (fun _ t => mm_pre G.1 ec_cl (ec_T G) (er_cnt n) L (er_E G L n) out.2 t) (mm_A (er_cnt n) L)) 0 0 (mm_A (er_cnt n) L) := by
  refine Met.ofW (cc := b_R_lose) (maxL := 3) (ret := (some .int)) (by decide) rfl ?_
  intro p e s m args below meth c s₁ B hml hv
  obtain ⟨rfl, hW, hK⟩ := hv
  have hx := B.exec
  have hb := B.bytes
  have hr := B.returns
  have hts0 := atoms_spec (ws := Cond.code y_R_lose b_R_lose 3 (some .int) :: tw_tbl) B.pre
  have hts : ∀ w ∈ tw_tbl, w.before [.ref (L 0 0), .int a1, .int a2].toArray s = true := fun w h => hts0 w (List.mem_cons_of_mem _ h)
  clear hts0
  have hown : s.vm.findClass "TwoPhaseCutsModel" = some m.cls := findClass_of_methodNamed B.named
  have hlocks := B.notSynchronized
  have hC : CallFix p m c b_R_lose 3 s [.ref (L 0 0), .int a1, .int a2].toArray tw_tbl "TwoPhaseCutsModel" := ⟨hx, hb, hml, hown, hts⟩
  have hS : va_S (mm_A (er_cnt n) L) s.heap s.heap [] := va_S.rf
  have hl := lv_entry ([.ref (L 0 0), .int a1, .int a2]) (n := 3) (Nat.le_of_ble_eq_true rfl)
  rw [lg_entry_eq]
  generalize (lg_sl ([.ref (L 0 0), .int a1, .int a2]) ++ List.replicate (3 - (lg_sl ([.ref (L 0 0), .int a1, .int a2])).length) Slot.unset).toArray = ls at hl ⊢
  have hl : lv_has ls 3 [(0, .ref (L 0 0)), (1, .int a1), (2, .int a2)] := hl
  have hW : mm_W G.1 ec_cl (er_cnt n) L (er_E G L n) σ s.heap := hW
  clear B
  show W p l e rm_R_lose s m [.ref (L 0 0), .int a1, .int a2].toArray below meth c s.heap [] 0 0 (MQ below (va_Qi (fun r (_ : Unit) => r = out.1) (fun _ t => mm_pre G.1 ec_cl (ec_T G) (er_cnt n) L (er_E G L n) out.2 t) (mm_A (er_cnt n) L)) [.ref (L 0 0), .int a1, .int a2].toArray s 0 0 (mm_A (er_cnt n) L)) (F0 m 0 ls [])
  unfold f_R_lose at hf
  refine lv_aload_n hx hb d_R_lose_0 rfl (lv_at hl 0 rfl) ?_
  refine lv_iload_n hx hb d_R_lose_1 rfl (lv_at hl 1 rfl) ?_
  refine lv_iload_n hx hb d_R_lose_2 rfl (lv_at hl 2 rfl) ?_
  obtain ⟨u1, hu1, hf⟩ := mm_bind hf
  refine mm_calli (va_runV (As := [.int a1, .int a2]) (rest := []) hC (c_R_pair l G L F n hI σ a1 a2 hu1) (cwV 2 hts (tw_gV tw_476 tw_478 ts_17 tw_8 tw_479) rfl rfl rfl (by decide +kernel) ⟨Nat.le_of_ble_eq_true rfl, Nat.le_of_ble_eq_true rfl⟩) (mm_preV hK hW (k := 0) (i := 0) (Nat.zero_lt_one) rfl rfl) rfl rfl hl.1 rfl (lv_room (Nat.le_of_ble_eq_true rfl)) d_R_lose_3 ⟨Nat.zero_le _, Nat.zero_le _⟩) hS (fun _ h => h) (fun H locs hW _ _ hS => ?_)
  refine lv_if_ne (tgt := 11) hx hb d_R_lose_6 (by decide) (fun hc => ?_) (fun hc => ?_)
  · rw [if_neg hc] at hf
    refine lv_aload_n hx hb d_R_lose_11 rfl (lv_at hl 0 rfl) ?_
    refine lv_iload_n hx hb d_R_lose_12 rfl (lv_at hl 1 rfl) ?_
    refine lv_iload_n hx hb d_R_lose_13 rfl (lv_at hl 2 rfl) ?_
    obtain ⟨u2, hu2, hf⟩ := mm_bind hf
    refine mm_calli (va_runV (As := [.int a1, .int a2]) (rest := []) hC (c_R_inChannel l G L F n hI σ a1 a2 hu2) (cwV 2 hts (tw_gV tw_480 tw_482 ts_18 tw_8 tw_483) rfl rfl rfl (by decide +kernel) ⟨Nat.le_of_ble_eq_true rfl, Nat.le_of_ble_eq_true rfl⟩) (mm_preV hK hW (k := 0) (i := 0) (Nat.zero_lt_one) rfl rfl) rfl rfl hl.1 rfl (lv_room (Nat.le_of_ble_eq_true rfl)) d_R_lose_14 ⟨Nat.zero_le _, Nat.zero_le _⟩) hS (fun _ h => h) (fun H locs hW _ _ hS => ?_)
    refine lv_if_ne (tgt := 23) hx hb d_R_lose_17 (by decide) (fun hc => ?_) (fun hc => ?_)
    · rw [if_neg hc] at hf
      refine lv_aload_n hx hb d_R_lose_23 rfl (lv_at hl 0 rfl) ?_
      refine va_get (D := G.1) (ci := 6) (C := "TwoPhaseCutsModel") (T := T_R) (N := 27) (v := .ref (L 9 0)) hx hb hts ui_R hown hK (hW.one (k := 0) (i := 0) (Nat.zero_lt_one)) 0 rfl rfl 8 (by decide) (hts _ tw_382) (fun _ h9 => h9) rfl d_R_lose_24 ?_
      refine lv_iconst (v := (5 : Int32)) hx hb d_R_lose_27 (by decide) ?_
      refine lv_iload_n hx hb d_R_lose_28 rfl (lv_at hl 1 rfl) ?_
      refine lv_imul hx hb d_R_lose_29 ?_
      refine lv_iload_n hx hb d_R_lose_30 rfl (lv_at hl 2 rfl) ?_
      refine lv_iadd hx hb d_R_lose_31 ?_
      refine lv_dup2_11 hx hb d_R_lose_32 rfl rfl ?_
      obtain ⟨hg1, hf⟩ := mm_guard hf
      refine va_iald (D := G.1) (cl := ec_cl) hx hb hK (hW.one (k := 9) (i := 0) (Nat.zero_lt_one)) 0 0 rfl rfl (mm_vp hg1) d_R_lose_33 ?_
      refine mm_top (y := (σ 9 0 (Int32.toNatClampNeg (((5 : Int32) * a1) + a2)))) rfl ?_
      refine lv_iconst (v := (1 : Int32)) hx hb d_R_lose_34 (by decide) ?_
      refine lv_iadd hx hb d_R_lose_35 ?_
      refine mm_iast hx hb hK hI hW hS (k := 9) (i := 0) (Nat.zero_lt_one) (fun _ => rfl) (t0 := 0) rfl (mm_vp hg1) d_R_lose_36 (fun H locs hW hS => ?_)
      refine lv_aload_n hx hb d_R_lose_37 rfl (lv_at hl 0 rfl) ?_
      refine va_get (D := G.1) (ci := 6) (C := "TwoPhaseCutsModel") (T := T_R) (N := 27) (v := .ref (L 9 0)) hx hb hts ui_R hown hK (hW.one (k := 0) (i := 0) (Nat.zero_lt_one)) 0 rfl rfl 8 (by decide) (hts _ tw_382) (fun _ h9 => h9) rfl d_R_lose_38 ?_
      refine lv_iconst (v := (5 : Int32)) hx hb d_R_lose_41 (by decide) ?_
      refine lv_iload_n hx hb d_R_lose_42 rfl (lv_at hl 1 rfl) ?_
      refine lv_imul hx hb d_R_lose_43 ?_
      refine lv_iload_n hx hb d_R_lose_44 rfl (lv_at hl 2 rfl) ?_
      refine lv_iadd hx hb d_R_lose_45 ?_
      refine va_iald (D := G.1) (cl := ec_cl) hx hb hK (hW.one (k := 9) (i := 0) (Nat.zero_lt_one)) 0 0 rfl rfl (mm_vp hg1) d_R_lose_46 ?_
      refine mm_top (y := ((mm_st σ 9 0 (Int32.toNatClampNeg (((5 : Int32) * a1) + a2)) ((σ 9 0 (Int32.toNatClampNeg (((5 : Int32) * a1) + a2))) + (1 : Int32))) 9 0 (Int32.toNatClampNeg (((5 : Int32) * a1) + a2)))) rfl ?_
      obtain rfl := Option.some.inj hf
      exact W.iret (v := ((mm_st σ 9 0 (Int32.toNatClampNeg (((5 : Int32) * a1) + a2)) ((σ 9 0 (Int32.toNatClampNeg (((5 : Int32) * a1) + a2))) + (1 : Int32))) 9 0 (Int32.toNatClampNeg (((5 : Int32) * a1) + a2)))) hx hb hr (fun t ht hw => ⟨⟨_, (), rfl, rfl, (mm_back ht hw hW hK)⟩, hS.F ht⟩) hS.2.2 d_R_lose_47
    · rw [if_pos hc] at hf
      refine lv_bipush (v := (-4 : Int32)) hx hb d_R_lose_20 (by decide) ?_
      obtain rfl := Option.some.inj hf
      exact W.iret (v := (-4 : Int32)) hx hb hr (fun t ht hw => ⟨⟨_, (), rfl, rfl, (mm_back ht hw hW hK)⟩, hS.F ht⟩) hS.2.2 d_R_lose_22
  · rw [if_pos hc] at hf
    refine lv_iconst (v := (-1 : Int32)) hx hb d_R_lose_9 (by decide) ?_
    obtain rfl := Option.some.inj hf
    exact W.iret (v := (-1 : Int32)) hx hb hr (fun t ht hw => ⟨⟨_, (), rfl, rfl, (mm_back ht hw hW hK)⟩, hS.F ht⟩) hS.2.2 d_R_lose_10
abbrev rm_R_write : Room := { frames := 0, cells := 0, slots := 0, locals := 0 }
set_option maxHeartbeats 4000000 in
set_option maxRecDepth 100000 in
theorem c_R_write (l : Launch) (G : ec_G) (L : mm_L) (F n : Nat) (hI : mm_I (er_cnt n) L) (σ : mm_M) (a1 : Int32) (a2 : Int32) (a3 : Int32) (a4 : Int32) {out : mm_M} (hf : f_R_write F n σ a1 a2 a3 a4 = some out) :
    Met l y_R_write (Cond.code y_R_write b_R_write 5 none :: tw_tbl) rm_R_write (va_Pc [.ref (L 0 0), .int a1, .int a2, .int a3, .int a4] (mm_pre G.1 ec_cl (ec_T G) (er_cnt n) L (er_E G L n) σ))
      (va_Qv (fun (_ : Unit) => True) (fun _ t => mm_pre G.1 ec_cl (ec_T G) (er_cnt n) L (er_E G L n) out t) (mm_A (er_cnt n) L)) 0 0 (mm_A (er_cnt n) L) := by
  refine Met.ofW (cc := b_R_write) (maxL := 5) (ret := none) (by decide) rfl ?_
  intro p e s m args below meth c s₁ B hml hv
  obtain ⟨rfl, hW, hK⟩ := hv
  have hx := B.exec
  have hb := B.bytes
  have hr := B.returns
  have hts0 := atoms_spec (ws := Cond.code y_R_write b_R_write 5 none :: tw_tbl) B.pre
  have hts : ∀ w ∈ tw_tbl, w.before [.ref (L 0 0), .int a1, .int a2, .int a3, .int a4].toArray s = true := fun w h => hts0 w (List.mem_cons_of_mem _ h)
  clear hts0
  have hown : s.vm.findClass "TwoPhaseCutsModel" = some m.cls := findClass_of_methodNamed B.named
  have hlocks := B.notSynchronized
  have hC : CallFix p m c b_R_write 5 s [.ref (L 0 0), .int a1, .int a2, .int a3, .int a4].toArray tw_tbl "TwoPhaseCutsModel" := ⟨hx, hb, hml, hown, hts⟩
  have hS : va_S (mm_A (er_cnt n) L) s.heap s.heap [] := va_S.rf
  have hl := lv_entry ([.ref (L 0 0), .int a1, .int a2, .int a3, .int a4]) (n := 5) (Nat.le_of_ble_eq_true rfl)
  rw [lg_entry_eq]
  generalize (lg_sl ([.ref (L 0 0), .int a1, .int a2, .int a3, .int a4]) ++ List.replicate (5 - (lg_sl ([.ref (L 0 0), .int a1, .int a2, .int a3, .int a4])).length) Slot.unset).toArray = ls at hl ⊢
  have hl : lv_has ls 5 [(0, .ref (L 0 0)), (1, .int a1), (2, .int a2), (3, .int a3), (4, .int a4)] := hl
  have hW : mm_W G.1 ec_cl (er_cnt n) L (er_E G L n) σ s.heap := hW
  clear B
  show W p l e rm_R_write s m [.ref (L 0 0), .int a1, .int a2, .int a3, .int a4].toArray below meth c s.heap [] 0 0 (MQ below (va_Qv (fun (_ : Unit) => True) (fun _ t => mm_pre G.1 ec_cl (ec_T G) (er_cnt n) L (er_E G L n) out t) (mm_A (er_cnt n) L)) [.ref (L 0 0), .int a1, .int a2, .int a3, .int a4].toArray s 0 0 (mm_A (er_cnt n) L)) (F0 m 0 ls [])
  unfold f_R_write at hf
  refine lv_aload_n hx hb d_R_write_0 rfl (lv_at hl 0 rfl) ?_
  refine va_get (D := G.1) (ci := 6) (C := "TwoPhaseCutsModel") (T := T_R) (N := 27) (v := .ref (L 20 0)) hx hb hts ui_R hown hK (hW.one (k := 0) (i := 0) (Nat.zero_lt_one)) 0 rfl rfl 19 (by decide) (hts _ tw_393) (fun _ h9 => h9) rfl d_R_write_1 ?_
  refine lv_aload_n hx hb d_R_write_4 rfl (lv_at hl 0 rfl) ?_
  refine va_get (D := G.1) (ci := 6) (C := "TwoPhaseCutsModel") (T := T_R) (N := 27) (v := .int (σ 0 0 18)) hx hb hts ui_R hown hK (hW.one (k := 0) (i := 0) (Nat.zero_lt_one)) 0 rfl rfl 18 (by decide) (hts _ tw_392) (fun _ h9 => h9) rfl d_R_write_5 ?_
  refine lv_iload_n hx hb d_R_write_8 rfl (lv_at hl 1 rfl) ?_
  obtain ⟨hg1, hf⟩ := mm_guard hf
  refine mm_iast hx hb hK hI hW hS (k := 20) (i := 0) (Nat.zero_lt_one) (fun _ => rfl) (t0 := 0) rfl (mm_vp hg1) d_R_write_9 (fun H locs hW hS => ?_)
  refine lv_aload_n hx hb d_R_write_10 rfl (lv_at hl 0 rfl) ?_
  refine va_get (D := G.1) (ci := 6) (C := "TwoPhaseCutsModel") (T := T_R) (N := 27) (v := .ref (L 21 0)) hx hb hts ui_R hown hK (hW.one (k := 0) (i := 0) (Nat.zero_lt_one)) 0 rfl rfl 20 (by decide) (hts _ tw_394) (fun _ h9 => h9) rfl d_R_write_11 ?_
  refine lv_aload_n hx hb d_R_write_14 rfl (lv_at hl 0 rfl) ?_
  refine va_get (D := G.1) (ci := 6) (C := "TwoPhaseCutsModel") (T := T_R) (N := 27) (v := .int (σ 0 0 18)) hx hb hts ui_R hown hK (hW.one (k := 0) (i := 0) (Nat.zero_lt_one)) 0 rfl rfl 18 (by decide) (hts _ tw_392) (fun _ h9 => h9) rfl d_R_write_15 ?_
  refine lv_iload_n hx hb d_R_write_18 rfl (lv_at hl 2 rfl) ?_
  refine mm_iast hx hb hK hI hW hS (k := 21) (i := 0) (Nat.zero_lt_one) (fun _ => rfl) (t0 := 0) rfl (mm_vp hg1) d_R_write_19 (fun H locs hW hS => ?_)
  refine lv_aload_n hx hb d_R_write_20 rfl (lv_at hl 0 rfl) ?_
  refine va_get (D := G.1) (ci := 6) (C := "TwoPhaseCutsModel") (T := T_R) (N := 27) (v := .ref (L 22 0)) hx hb hts ui_R hown hK (hW.one (k := 0) (i := 0) (Nat.zero_lt_one)) 0 rfl rfl 21 (by decide) (hts _ tw_395) (fun _ h9 => h9) rfl d_R_write_21 ?_
  refine lv_aload_n hx hb d_R_write_24 rfl (lv_at hl 0 rfl) ?_
  refine va_get (D := G.1) (ci := 6) (C := "TwoPhaseCutsModel") (T := T_R) (N := 27) (v := .int (σ 0 0 18)) hx hb hts ui_R hown hK (hW.one (k := 0) (i := 0) (Nat.zero_lt_one)) 0 rfl rfl 18 (by decide) (hts _ tw_392) (fun _ h9 => h9) rfl d_R_write_25 ?_
  refine lv_iload_n hx hb d_R_write_28 rfl (lv_at hl 3 rfl) ?_
  refine mm_iast hx hb hK hI hW hS (k := 22) (i := 0) (Nat.zero_lt_one) (fun _ => rfl) (t0 := 0) rfl (mm_vp hg1) d_R_write_29 (fun H locs hW hS => ?_)
  refine lv_aload_n hx hb d_R_write_30 rfl (lv_at hl 0 rfl) ?_
  refine va_get (D := G.1) (ci := 6) (C := "TwoPhaseCutsModel") (T := T_R) (N := 27) (v := .ref (L 23 0)) hx hb hts ui_R hown hK (hW.one (k := 0) (i := 0) (Nat.zero_lt_one)) 0 rfl rfl 22 (by decide) (hts _ tw_396) (fun _ h9 => h9) rfl d_R_write_31 ?_
  refine lv_aload_n hx hb d_R_write_34 rfl (lv_at hl 0 rfl) ?_
  refine va_get (D := G.1) (ci := 6) (C := "TwoPhaseCutsModel") (T := T_R) (N := 27) (v := .int (σ 0 0 18)) hx hb hts ui_R hown hK (hW.one (k := 0) (i := 0) (Nat.zero_lt_one)) 0 rfl rfl 18 (by decide) (hts _ tw_392) (fun _ h9 => h9) rfl d_R_write_35 ?_
  refine lv_aload_n hx hb d_R_write_38 rfl (lv_at hl 0 rfl) ?_
  refine va_get (D := G.1) (ci := 6) (C := "TwoPhaseCutsModel") (T := T_R) (N := 27) (v := .ref (L 11 0)) hx hb hts ui_R hown hK (hW.one (k := 0) (i := 0) (Nat.zero_lt_one)) 0 rfl rfl 10 (by decide) (hts _ tw_384) (fun _ h9 => h9) rfl d_R_write_39 ?_
  refine lv_iload_n hx hb d_R_write_42 rfl (lv_at hl 2 rfl) ?_
  obtain ⟨hg2, hf⟩ := mm_guard hf
  refine va_iald (D := G.1) (cl := ec_cl) hx hb hK (hW.one (k := 11) (i := 0) (Nat.zero_lt_one)) 0 0 rfl rfl (mm_vp hg2) d_R_write_43 ?_
  refine mm_top (y := (σ 11 0 (Int32.toNatClampNeg a2))) rfl ?_
  refine mm_iast hx hb hK hI hW hS (k := 23) (i := 0) (Nat.zero_lt_one) (fun _ => rfl) (t0 := 0) rfl (mm_vp hg1) d_R_write_44 (fun H locs hW hS => ?_)
  refine lv_aload_n hx hb d_R_write_45 rfl (lv_at hl 0 rfl) ?_
  refine va_get (D := G.1) (ci := 6) (C := "TwoPhaseCutsModel") (T := T_R) (N := 27) (v := .ref (L 24 0)) hx hb hts ui_R hown hK (hW.one (k := 0) (i := 0) (Nat.zero_lt_one)) 0 rfl rfl 23 (by decide) (hts _ tw_397) (fun _ h9 => h9) rfl d_R_write_46 ?_
  refine lv_aload_n hx hb d_R_write_49 rfl (lv_at hl 0 rfl) ?_
  refine va_get (D := G.1) (ci := 6) (C := "TwoPhaseCutsModel") (T := T_R) (N := 27) (v := .int (σ 0 0 18)) hx hb hts ui_R hown hK (hW.one (k := 0) (i := 0) (Nat.zero_lt_one)) 0 rfl rfl 18 (by decide) (hts _ tw_392) (fun _ h9 => h9) rfl d_R_write_50 ?_
  refine lv_aload_n hx hb d_R_write_53 rfl (lv_at hl 0 rfl) ?_
  refine va_get (D := G.1) (ci := 6) (C := "TwoPhaseCutsModel") (T := T_R) (N := 27) (v := .ref (L 12 0)) hx hb hts ui_R hown hK (hW.one (k := 0) (i := 0) (Nat.zero_lt_one)) 0 rfl rfl 11 (by decide) (hts _ tw_385) (fun _ h9 => h9) rfl d_R_write_54 ?_
  refine lv_iload_n hx hb d_R_write_57 rfl (lv_at hl 2 rfl) ?_
  refine va_zald (D := G.1) (cl := ec_cl) hx hb hK (hW.one (k := 12) (i := 0) (Nat.zero_lt_one)) 0 1 rfl rfl (mm_vp hg2) d_R_write_58 ?_
  refine mm_top (y := (σ 12 0 (Int32.toNatClampNeg a2))) rfl ?_
  obtain ⟨hz3, hf⟩ := mm_guard hf
  refine mm_zast hx hb hK hI hW hS (k := 24) (i := 0) (Nat.zero_lt_one) (fun _ => rfl) (t0 := 1) rfl (mm_vp hg1) hz3 d_R_write_59 (fun H locs hW hS => ?_)
  refine lv_aload_n hx hb d_R_write_60 rfl (lv_at hl 0 rfl) ?_
  refine va_get (D := G.1) (ci := 6) (C := "TwoPhaseCutsModel") (T := T_R) (N := 27) (v := .ref (L 25 0)) hx hb hts ui_R hown hK (hW.one (k := 0) (i := 0) (Nat.zero_lt_one)) 0 rfl rfl 24 (by decide) (hts _ tw_398) (fun _ h9 => h9) rfl d_R_write_61 ?_
  refine lv_aload_n hx hb d_R_write_64 rfl (lv_at hl 0 rfl) ?_
  refine va_get (D := G.1) (ci := 6) (C := "TwoPhaseCutsModel") (T := T_R) (N := 27) (v := .int (σ 0 0 18)) hx hb hts ui_R hown hK (hW.one (k := 0) (i := 0) (Nat.zero_lt_one)) 0 rfl rfl 18 (by decide) (hts _ tw_392) (fun _ h9 => h9) rfl d_R_write_65 ?_
  refine lv_iload hx hb d_R_write_68 (lv_at hl 4 rfl) ?_
  refine mm_iast hx hb hK hI hW hS (k := 25) (i := 0) (Nat.zero_lt_one) (fun _ => rfl) (t0 := 0) rfl (mm_vp hg1) d_R_write_70 (fun H locs hW hS => ?_)
  refine lv_aload_n hx hb d_R_write_71 rfl (lv_at hl 0 rfl) ?_
  refine lv_dup hx hb d_R_write_72 rfl ?_
  refine va_get (D := G.1) (ci := 6) (C := "TwoPhaseCutsModel") (T := T_R) (N := 27) (v := .int (σ 0 0 18)) hx hb hts ui_R hown hK (hW.one (k := 0) (i := 0) (Nat.zero_lt_one)) 0 rfl rfl 18 (by decide) (hts _ tw_392) (fun _ h9 => h9) rfl d_R_write_73 ?_
  refine lv_iconst (v := (1 : Int32)) hx hb d_R_write_76 (by decide) ?_
  refine lv_iadd hx hb d_R_write_77 ?_
  refine mm_put (D := G.1) (ci := 6) (C := "TwoPhaseCutsModel") (T := T_R) (N := 27) (x := ((σ 0 0 18) + (1 : Int32))) hx hb hts ui_R ty_R tyo_R nmo_R hown hK hI hW hS (k := 0) (i := 0) (Nat.zero_lt_one) rfl rfl 18 (by decide) (hts _ tw_392) (fun _ h9 => h9) rfl (ty := .int) (by decide +kernel) (vp_nar_int _) rfl (Nat.le_of_ble_eq_true rfl) rfl d_R_write_78 (fun H locs hW hS => ?_)
  obtain rfl := Option.some.inj hf
  exact W.vret hx hb hr (fun t ht hw => ⟨⟨(), rfl, trivial, (mm_back ht hw hW hK)⟩, hS.F ht⟩) hS.2.2 d_R_write_81
abbrev rm_R_asks : Room := { frames := 1, cells := 0, slots := 0, locals := 25 }
set_option maxHeartbeats 4000000 in
set_option maxRecDepth 100000 in
theorem c_R_asks (l : Launch) (G : ec_G) (L : mm_L) (F n : Nat) (hI : mm_I (er_cnt n) L) (σ : mm_M) (a1 : Int32) (a2 : Int32) {out : Int32} (hf : f_R_asks F n σ a1 a2 = some out) :
    Met l y_R_asks (Cond.code y_R_asks b_R_asks 3 (some .boolean) :: tw_tbl) rm_R_asks (va_Pc [.ref (L 0 0), .int a1, .int a2] (mm_pre G.1 ec_cl (ec_T G) (er_cnt n) L (er_E G L n) σ))
      (va_Qi (fun r (_ : Unit) => r = out) (fun _ t => mm_pre G.1 ec_cl (ec_T G) (er_cnt n) L (er_E G L n) σ t) (mm_A (er_cnt n) L)) 0 0 (mm_A (er_cnt n) L) := by
  refine Met.ofW (cc := b_R_asks) (maxL := 3) (ret := (some .boolean)) (by decide) rfl ?_
  intro p e s m args below meth c s₁ B hml hv
  obtain ⟨rfl, hW, hK⟩ := hv
  have hx := B.exec
  have hb := B.bytes
  have hr := B.returns
  have hts0 := atoms_spec (ws := Cond.code y_R_asks b_R_asks 3 (some .boolean) :: tw_tbl) B.pre
  have hts : ∀ w ∈ tw_tbl, w.before [.ref (L 0 0), .int a1, .int a2].toArray s = true := fun w h => hts0 w (List.mem_cons_of_mem _ h)
  clear hts0
  have hown : s.vm.findClass "TwoPhaseCutsModel" = some m.cls := findClass_of_methodNamed B.named
  have hlocks := B.notSynchronized
  have hC : CallFix p m c b_R_asks 3 s [.ref (L 0 0), .int a1, .int a2].toArray tw_tbl "TwoPhaseCutsModel" := ⟨hx, hb, hml, hown, hts⟩
  have hS : va_S (mm_A (er_cnt n) L) s.heap s.heap [] := va_S.rf
  have hl := lv_entry ([.ref (L 0 0), .int a1, .int a2]) (n := 3) (Nat.le_of_ble_eq_true rfl)
  rw [lg_entry_eq]
  generalize (lg_sl ([.ref (L 0 0), .int a1, .int a2]) ++ List.replicate (3 - (lg_sl ([.ref (L 0 0), .int a1, .int a2])).length) Slot.unset).toArray = ls at hl ⊢
  have hl : lv_has ls 3 [(0, .ref (L 0 0)), (1, .int a1), (2, .int a2)] := hl
  have hW : mm_W G.1 ec_cl (er_cnt n) L (er_E G L n) σ s.heap := hW
  clear B
  show W p l e rm_R_asks s m [.ref (L 0 0), .int a1, .int a2].toArray below meth c s.heap [] 0 0 (MQ below (va_Qi (fun r (_ : Unit) => r = out) (fun _ t => mm_pre G.1 ec_cl (ec_T G) (er_cnt n) L (er_E G L n) σ t) (mm_A (er_cnt n) L)) [.ref (L 0 0), .int a1, .int a2].toArray s 0 0 (mm_A (er_cnt n) L)) (F0 m 0 ls [])
  unfold f_R_asks at hf
  refine lv_iload_n hx hb d_R_asks_0 rfl (lv_at hl 1 rfl) ?_
  refine lv_iload_n hx hb d_R_asks_1 rfl (lv_at hl 2 rfl) ?_
  obtain ⟨u1, hu1, hf⟩ := mm_bind hf
  have jp1 : ∀ (H : Heap) (locs : List Loc) (ls : Array Slot), mm_W G.1 ec_cl (er_cnt n) L (er_E G L n) σ H → va_S (mm_A (er_cnt n) L) s.heap H locs → lv_has ls 3 [] → W p l e rm_R_asks s m [.ref (L 0 0), .int a1, .int a2].toArray below meth c H locs 0 0 (MQ below (va_Qi (fun r (_ : Unit) => r = out) (fun _ t => mm_pre G.1 ec_cl (ec_T G) (er_cnt n) L (er_E G L n) σ t) (mm_A (er_cnt n) L)) [.ref (L 0 0), .int a1, .int a2].toArray s 0 0 (mm_A (er_cnt n) L)) (F0 m 46 ls [.int u1]) := by
    intro H locs ls hW hS hl
    obtain ⟨hz1, hf⟩ := mm_guard hf
    obtain rfl := Option.some.inj hf
    exact W.zret (v := u1) hx hb hr (mm_zn hz1) (fun t ht hw => ⟨⟨_, (), rfl, rfl, (mm_back ht hw hW hK)⟩, hS.F ht⟩) hS.2.2 d_R_asks_46
  clear hf
  have hf := hu1
  clear hu1
  refine lv_icmp_eq (tgt := 45) hx hb d_R_asks_2 (by decide) (fun hc => ?_) (fun hc => ?_)
  · rw [if_pos hc] at hf
    refine lv_iconst (v := (0 : Int32)) hx hb d_R_asks_45 (by decide) ?_
    obtain rfl := Option.some.inj hf
    exact jp1 _ _ _ hW hS (lv_sub hl [] rfl)
  · rw [if_neg hc] at hf
    refine lv_aload_n hx hb d_R_asks_5 rfl (lv_at hl 0 rfl) ?_
    refine va_get (D := G.1) (ci := 6) (C := "TwoPhaseCutsModel") (T := T_R) (N := 27) (v := .ref (L 12 0)) hx hb hts ui_R hown hK (hW.one (k := 0) (i := 0) (Nat.zero_lt_one)) 0 rfl rfl 11 (by decide) (hts _ tw_385) (fun _ h9 => h9) rfl d_R_asks_6 ?_
    refine lv_iload_n hx hb d_R_asks_9 rfl (lv_at hl 1 rfl) ?_
    obtain ⟨hg2, hf⟩ := mm_guard hf
    refine va_zald (D := G.1) (cl := ec_cl) hx hb hK (hW.one (k := 12) (i := 0) (Nat.zero_lt_one)) 0 1 rfl rfl (mm_vp hg2) d_R_asks_10 ?_
    refine mm_top (y := (σ 12 0 (Int32.toNatClampNeg a1))) rfl ?_
    refine lv_if_ne (tgt := 41) hx hb d_R_asks_11 (by decide) (fun hc => ?_) (fun hc => ?_)
    · rw [if_neg hc] at hf
      refine lv_iconst (v := (1 : Int32)) hx hb d_R_asks_41 (by decide) ?_
      refine lv_goto (tgt := 46) hx hb d_R_asks_42 (by decide) ?_
      obtain rfl := Option.some.inj hf
      exact jp1 _ _ _ hW hS (lv_sub hl [] rfl)
    · rw [if_pos hc] at hf
      refine lv_aload_n hx hb d_R_asks_14 rfl (lv_at hl 0 rfl) ?_
      refine lv_iload_n hx hb d_R_asks_15 rfl (lv_at hl 1 rfl) ?_
      refine lv_iload_n hx hb d_R_asks_16 rfl (lv_at hl 2 rfl) ?_
      refine lv_aload_n hx hb d_R_asks_17 rfl (lv_at hl 0 rfl) ?_
      refine va_get (D := G.1) (ci := 6) (C := "TwoPhaseCutsModel") (T := T_R) (N := 27) (v := .ref (L 2 0)) hx hb hts ui_R hown hK (hW.one (k := 0) (i := 0) (Nat.zero_lt_one)) 0 rfl rfl 1 (by decide) (hts _ tw_375) (fun _ h9 => h9) rfl d_R_asks_18 ?_
      refine lv_iload_n hx hb d_R_asks_21 rfl (lv_at hl 1 rfl) ?_
      refine va_iald (D := G.1) (cl := ec_cl) hx hb hK (hW.one (k := 2) (i := 0) (Nat.zero_lt_one)) 0 0 rfl rfl (mm_vp hg2) d_R_asks_22 ?_
      refine mm_top (y := (σ 2 0 (Int32.toNatClampNeg a1))) rfl ?_
      obtain ⟨u2, hu2, hf⟩ := mm_bind hf
      refine mm_calli (va_runV (As := [.int a1, .int a2, .int (σ 2 0 (Int32.toNatClampNeg a1))]) (rest := []) hC (c_R_receivedAt l G L F n hI σ a1 a2 (σ 2 0 (Int32.toNatClampNeg a1)) hu2) (cwV 3 hts (tw_gV tw_520 tw_522 ts_25 tw_8 tw_523) rfl rfl rfl (by decide +kernel) ⟨Nat.le_of_ble_eq_true rfl, Nat.le_of_ble_eq_true rfl⟩) (mm_preV hK hW (k := 0) (i := 0) (Nat.zero_lt_one) rfl rfl) rfl rfl hl.1 rfl (lv_room (Nat.le_of_ble_eq_true rfl)) d_R_asks_23 ⟨Nat.zero_le _, Nat.zero_le _⟩) hS (fun _ h => h) (fun H locs hW _ _ hS => ?_)
      refine lv_aload_n hx hb d_R_asks_26 rfl (lv_at hl 0 rfl) ?_
      refine lv_iload_n hx hb d_R_asks_27 rfl (lv_at hl 1 rfl) ?_
      refine lv_iload_n hx hb d_R_asks_28 rfl (lv_at hl 2 rfl) ?_
      refine lv_aload_n hx hb d_R_asks_29 rfl (lv_at hl 0 rfl) ?_
      refine va_get (D := G.1) (ci := 6) (C := "TwoPhaseCutsModel") (T := T_R) (N := 27) (v := .ref (L 7 0)) hx hb hts ui_R hown hK (hW.one (k := 0) (i := 0) (Nat.zero_lt_one)) 0 rfl rfl 6 (by decide) (hts _ tw_380) (fun _ h9 => h9) rfl d_R_asks_30 ?_
      refine lv_iload_n hx hb d_R_asks_33 rfl (lv_at hl 1 rfl) ?_
      refine va_iald (D := G.1) (cl := ec_cl) hx hb hK (hW.one (k := 7) (i := 0) (Nat.zero_lt_one)) 0 0 rfl rfl (mm_vp hg2) d_R_asks_34 ?_
      refine mm_top (y := (σ 7 0 (Int32.toNatClampNeg a1))) rfl ?_
      obtain ⟨u3, hu3, hf⟩ := mm_bind hf
      refine mm_calli (va_runV (As := [.int a1, .int a2, .int (σ 7 0 (Int32.toNatClampNeg a1))]) (rest := [.int u2]) hC (c_R_receivedAt l G L F n hI σ a1 a2 (σ 7 0 (Int32.toNatClampNeg a1)) hu3) (cwV 3 hts (tw_gV tw_520 tw_522 ts_25 tw_8 tw_523) rfl rfl rfl (by decide +kernel) ⟨Nat.le_of_ble_eq_true rfl, Nat.le_of_ble_eq_true rfl⟩) (mm_preV hK hW (k := 0) (i := 0) (Nat.zero_lt_one) rfl rfl) rfl rfl hl.1 rfl (lv_room (Nat.le_of_ble_eq_true rfl)) d_R_asks_35 ⟨Nat.zero_le _, Nat.zero_le _⟩) hS (fun _ h => h) (fun H locs hW _ _ hS => ?_)
      refine lv_icmp_le (tgt := 45) hx hb d_R_asks_38 (by decide) (fun hc => ?_) (fun hc => ?_)
      · rw [if_pos hc] at hf
        refine lv_iconst (v := (0 : Int32)) hx hb d_R_asks_45 (by decide) ?_
        obtain rfl := Option.some.inj hf
        exact jp1 _ _ _ hW hS (lv_sub hl [] rfl)
      · rw [if_neg hc] at hf
        refine lv_iconst (v := (1 : Int32)) hx hb d_R_asks_41 (by decide) ?_
        refine lv_goto (tgt := 46) hx hb d_R_asks_42 (by decide) ?_
        obtain rfl := Option.some.inj hf
        exact jp1 _ _ _ hW hS (lv_sub hl [] rfl)
abbrev rm_R_cut : Room := { frames := 1, cells := 0, slots := 0, locals := 25 }
set_option maxHeartbeats 4000000 in
set_option maxRecDepth 100000 in
theorem w_R_cut_l31 (l : Launch) (G : ec_G) (L : mm_L) {p : Program} {e : Env} {s : State} {m : MethodId} {args : Array Value} {below : List Frame} {meth : Method} {c : Code} {H0 : Heap} {Q : State → Prop} (F n : Nat) (hI : mm_I (er_cnt n) L) (hC : CallFix p m c b_R_cut 4 s args tw_tbl "TwoPhaseCutsModel") (hK : va_K G.1 ec_cl (ec_T G) s) (x1 : Int32) {out : mm_M} :
    ∀ (K : Nat) (σ : mm_M) (v2 : Int32) (H : Heap) (locs : List Loc) (ls : Array Slot), f_R_cut_l31 F n x1 K σ v2 = some out → mm_W G.1 ec_cl (er_cnt n) L (er_E G L n) σ H → va_S (mm_A (er_cnt n) L) H0 H locs → lv_has ls 4 [(0, .ref (L 0 0)), (1, .int x1), (2, .int v2)] →
    (∀ (H : Heap) (locs : List Loc) (ls : Array Slot), mm_W G.1 ec_cl (er_cnt n) L (er_E G L n) out H → va_S (mm_A (er_cnt n) L) H0 H locs → lv_has ls 4 [] → W p l e rm_R_cut s m args below meth c H locs 0 0 Q (F0 m 96 ls [])) →
    W p l e rm_R_cut s m args below meth c H locs 0 0 Q (F0 m 31 ls []) := by
  obtain ⟨hx, hb, hml, hown, hts⟩ := id hC
  intro K
  induction K with
  | zero =>
    intro σ v2 H locs ls hf
    simp [f_R_cut_l31] at hf
  | succ K ih =>
    intro σ v2 H locs ls hf hW hS hl kx
    rw [f_R_cut_l31] at hf
    refine lv_iload_n hx hb d_R_cut_31 rfl (lv_at hl 2 rfl) ?_
    refine lv_aload_n hx hb d_R_cut_32 rfl (lv_at hl 0 rfl) ?_
    refine va_get (D := G.1) (ci := 6) (C := "TwoPhaseCutsModel") (T := T_R) (N := 27) (v := .int (σ 0 0 0)) hx hb hts ui_R hown hK (hW.one (k := 0) (i := 0) (Nat.zero_lt_one)) 0 rfl rfl 0 (by decide) (hts _ tw_374) (fun _ h9 => h9) rfl d_R_cut_33 ?_
    refine lv_icmp_ge (tgt := 96) hx hb d_R_cut_36 (by decide) (fun hc => ?_) (fun hc => ?_)
    · rw [if_pos hc] at hf
      obtain rfl := Option.some.inj hf
      exact kx _ _ _ hW hS (lv_sub hl [] rfl)
    · rw [if_neg hc] at hf
      refine lv_aload_n hx hb d_R_cut_39 rfl (lv_at hl 0 rfl) ?_
      refine lv_iload_n hx hb d_R_cut_40 rfl (lv_at hl 1 rfl) ?_
      refine lv_iload_n hx hb d_R_cut_41 rfl (lv_at hl 2 rfl) ?_
      refine lv_aload_n hx hb d_R_cut_42 rfl (lv_at hl 0 rfl) ?_
      refine va_get (D := G.1) (ci := 6) (C := "TwoPhaseCutsModel") (T := T_R) (N := 27) (v := .ref (L 2 0)) hx hb hts ui_R hown hK (hW.one (k := 0) (i := 0) (Nat.zero_lt_one)) 0 rfl rfl 1 (by decide) (hts _ tw_375) (fun _ h9 => h9) rfl d_R_cut_43 ?_
      refine lv_iload_n hx hb d_R_cut_46 rfl (lv_at hl 1 rfl) ?_
      obtain ⟨hg1, hf⟩ := mm_guard hf
      refine va_iald (D := G.1) (cl := ec_cl) hx hb hK (hW.one (k := 2) (i := 0) (Nat.zero_lt_one)) 0 0 rfl rfl (mm_vp hg1) d_R_cut_47 ?_
      refine mm_top (y := (σ 2 0 (Int32.toNatClampNeg x1))) rfl ?_
      obtain ⟨u1, hu1, hf⟩ := mm_bind hf
      refine mm_calli (va_runV (As := [.int x1, .int v2, .int (σ 2 0 (Int32.toNatClampNeg x1))]) (rest := []) hC (c_R_sentAt l G L F n hI σ x1 v2 (σ 2 0 (Int32.toNatClampNeg x1)) hu1) (cwV 3 hts (tw_gV tw_484 tw_486 ts_19 tw_8 tw_487) rfl rfl rfl (by decide +kernel) ⟨Nat.le_of_ble_eq_true rfl, Nat.le_of_ble_eq_true rfl⟩) (mm_preV hK hW (k := 0) (i := 0) (Nat.zero_lt_one) rfl rfl) rfl rfl hl.1 rfl (lv_room (Nat.le_of_ble_eq_true rfl)) d_R_cut_48 ⟨Nat.zero_le _, Nat.zero_le _⟩) hS (fun _ h => h) (fun H locs hW _ _ hS => ?_)
      refine lv_istore_n (lv' := [(3, .int u1), (0, .ref (L 0 0)), (1, .int x1), (2, .int v2)]) hx hb d_R_cut_51 rfl hl (by decide) rfl (fun ls hl => ?_)
      refine lv_aload_n hx hb d_R_cut_52 rfl (lv_at hl 1 rfl) ?_
      refine va_get (D := G.1) (ci := 6) (C := "TwoPhaseCutsModel") (T := T_R) (N := 27) (v := .ref (L 9 0)) hx hb hts ui_R hown hK (hW.one (k := 0) (i := 0) (Nat.zero_lt_one)) 0 rfl rfl 8 (by decide) (hts _ tw_382) (fun _ h9 => h9) rfl d_R_cut_53 ?_
      refine lv_iconst (v := (5 : Int32)) hx hb d_R_cut_56 (by decide) ?_
      refine lv_iload_n hx hb d_R_cut_57 rfl (lv_at hl 2 rfl) ?_
      refine lv_imul hx hb d_R_cut_58 ?_
      refine lv_iload_n hx hb d_R_cut_59 rfl (lv_at hl 3 rfl) ?_
      refine lv_iadd hx hb d_R_cut_60 ?_
      refine lv_aload_n hx hb d_R_cut_61 rfl (lv_at hl 1 rfl) ?_
      refine va_get (D := G.1) (ci := 6) (C := "TwoPhaseCutsModel") (T := T_R) (N := 27) (v := .ref (L 9 0)) hx hb hts ui_R hown hK (hW.one (k := 0) (i := 0) (Nat.zero_lt_one)) 0 rfl rfl 8 (by decide) (hts _ tw_382) (fun _ h9 => h9) rfl d_R_cut_62 ?_
      refine lv_iconst (v := (5 : Int32)) hx hb d_R_cut_65 (by decide) ?_
      refine lv_iload_n hx hb d_R_cut_66 rfl (lv_at hl 2 rfl) ?_
      refine lv_imul hx hb d_R_cut_67 ?_
      refine lv_iload_n hx hb d_R_cut_68 rfl (lv_at hl 3 rfl) ?_
      refine lv_iadd hx hb d_R_cut_69 ?_
      obtain ⟨hg2, hf⟩ := mm_guard hf
      refine va_iald (D := G.1) (cl := ec_cl) hx hb hK (hW.one (k := 9) (i := 0) (Nat.zero_lt_one)) 0 0 rfl rfl (mm_vp hg2) d_R_cut_70 ?_
      refine mm_top (y := (σ 9 0 (Int32.toNatClampNeg (((5 : Int32) * x1) + v2)))) rfl ?_
      refine lv_iload_n hx hb d_R_cut_71 rfl (lv_at hl 0 rfl) ?_
      obtain ⟨u2, hu2, hf⟩ := mm_bind hf
      have jp1 : ∀ (H : Heap) (locs : List Loc) (ls : Array Slot), mm_W G.1 ec_cl (er_cnt n) L (er_E G L n) σ H → va_S (mm_A (er_cnt n) L) H0 H locs → lv_has ls 4 [(0, .ref (L 0 0)), (1, .int x1), (2, .int v2)] → W p l e rm_R_cut s m args below meth c H locs 0 0 Q (F0 m 89 ls [.int u2, .int (((5 : Int32) * x1) + v2), .ref (L 9 0)]) := by
        intro H locs ls hW hS hl
        refine mm_iast hx hb hK hI hW hS (k := 9) (i := 0) (Nat.zero_lt_one) (fun _ => rfl) (t0 := 0) rfl (mm_vp hg2) d_R_cut_89 (fun H locs hW hS => ?_)
        refine lv_iinc (v := (v2 + (1 : Int32))) (lv' := [(2, .int (v2 + (1 : Int32))), (0, .ref (L 0 0)), (1, .int x1)]) hx hb d_R_cut_90 hl (k := 2) rfl (mm_inc _) (by decide) rfl (fun ls hl => ?_)
        refine lv_goto (tgt := 31) hx hb d_R_cut_93 (by decide) ?_
        exact ih _ _ _ _ _ hf hW hS (lv_sub hl [1, 2, 0] rfl) kx
      clear hf
      have hf := hu2
      clear hu2
      refine lv_icmp_ge (tgt := 88) hx hb d_R_cut_72 (by decide) (fun hc => ?_) (fun hc => ?_)
      · rw [if_pos hc] at hf
        refine lv_iload_n hx hb d_R_cut_88 rfl (lv_at hl 0 rfl) ?_
        obtain rfl := Option.some.inj hf
        exact jp1 _ _ _ hW hS (lv_sub hl [1, 2, 3] rfl)
      · rw [if_neg hc] at hf
        refine lv_aload_n hx hb d_R_cut_75 rfl (lv_at hl 1 rfl) ?_
        refine va_get (D := G.1) (ci := 6) (C := "TwoPhaseCutsModel") (T := T_R) (N := 27) (v := .ref (L 9 0)) hx hb hts ui_R hown hK (hW.one (k := 0) (i := 0) (Nat.zero_lt_one)) 0 rfl rfl 8 (by decide) (hts _ tw_382) (fun _ h9 => h9) rfl d_R_cut_76 ?_
        refine lv_iconst (v := (5 : Int32)) hx hb d_R_cut_79 (by decide) ?_
        refine lv_iload_n hx hb d_R_cut_80 rfl (lv_at hl 2 rfl) ?_
        refine lv_imul hx hb d_R_cut_81 ?_
        refine lv_iload_n hx hb d_R_cut_82 rfl (lv_at hl 3 rfl) ?_
        refine lv_iadd hx hb d_R_cut_83 ?_
        refine va_iald (D := G.1) (cl := ec_cl) hx hb hK (hW.one (k := 9) (i := 0) (Nat.zero_lt_one)) 0 0 rfl rfl (mm_vp hg2) d_R_cut_84 ?_
        refine mm_top (y := (σ 9 0 (Int32.toNatClampNeg (((5 : Int32) * x1) + v2)))) rfl ?_
        refine lv_goto (tgt := 89) hx hb d_R_cut_85 (by decide) ?_
        obtain rfl := Option.some.inj hf
        exact jp1 _ _ _ hW hS (lv_sub hl [1, 2, 3] rfl)
set_option maxHeartbeats 4000000 in
set_option maxRecDepth 100000 in
theorem c_R_cut (l : Launch) (G : ec_G) (L : mm_L) (F n : Nat) (hI : mm_I (er_cnt n) L) (σ : mm_M) (a1 : Int32) {out : mm_M} (hf : f_R_cut F n σ a1 = some out) :
    Met l y_R_cut (Cond.code y_R_cut b_R_cut 4 none :: tw_tbl) rm_R_cut (va_Pc [.ref (L 0 0), .int a1] (mm_pre G.1 ec_cl (ec_T G) (er_cnt n) L (er_E G L n) σ))
      (va_Qv (fun (_ : Unit) => True) (fun _ t => mm_pre G.1 ec_cl (ec_T G) (er_cnt n) L (er_E G L n) out t) (mm_A (er_cnt n) L)) 0 0 (mm_A (er_cnt n) L) := by
  refine Met.ofW (cc := b_R_cut) (maxL := 4) (ret := none) (by decide) rfl ?_
  intro p e s m args below meth c s₁ B hml hv
  obtain ⟨rfl, hW, hK⟩ := hv
  have hx := B.exec
  have hb := B.bytes
  have hr := B.returns
  have hts0 := atoms_spec (ws := Cond.code y_R_cut b_R_cut 4 none :: tw_tbl) B.pre
  have hts : ∀ w ∈ tw_tbl, w.before [.ref (L 0 0), .int a1].toArray s = true := fun w h => hts0 w (List.mem_cons_of_mem _ h)
  clear hts0
  have hown : s.vm.findClass "TwoPhaseCutsModel" = some m.cls := findClass_of_methodNamed B.named
  have hlocks := B.notSynchronized
  have hC : CallFix p m c b_R_cut 4 s [.ref (L 0 0), .int a1].toArray tw_tbl "TwoPhaseCutsModel" := ⟨hx, hb, hml, hown, hts⟩
  have hS : va_S (mm_A (er_cnt n) L) s.heap s.heap [] := va_S.rf
  have hl := lv_entry ([.ref (L 0 0), .int a1]) (n := 4) (Nat.le_of_ble_eq_true rfl)
  rw [lg_entry_eq]
  generalize (lg_sl ([.ref (L 0 0), .int a1]) ++ List.replicate (4 - (lg_sl ([.ref (L 0 0), .int a1])).length) Slot.unset).toArray = ls at hl ⊢
  have hl : lv_has ls 4 [(0, .ref (L 0 0)), (1, .int a1)] := hl
  have hW : mm_W G.1 ec_cl (er_cnt n) L (er_E G L n) σ s.heap := hW
  clear B
  show W p l e rm_R_cut s m [.ref (L 0 0), .int a1].toArray below meth c s.heap [] 0 0 (MQ below (va_Qv (fun (_ : Unit) => True) (fun _ t => mm_pre G.1 ec_cl (ec_T G) (er_cnt n) L (er_E G L n) out t) (mm_A (er_cnt n) L)) [.ref (L 0 0), .int a1].toArray s 0 0 (mm_A (er_cnt n) L)) (F0 m 0 ls [])
  unfold f_R_cut at hf
  refine lv_aload_n hx hb d_R_cut_0 rfl (lv_at hl 0 rfl) ?_
  refine va_get (D := G.1) (ci := 6) (C := "TwoPhaseCutsModel") (T := T_R) (N := 27) (v := .ref (L 2 0)) hx hb hts ui_R hown hK (hW.one (k := 0) (i := 0) (Nat.zero_lt_one)) 0 rfl rfl 1 (by decide) (hts _ tw_375) (fun _ h9 => h9) rfl d_R_cut_1 ?_
  refine lv_iload_n hx hb d_R_cut_4 rfl (lv_at hl 1 rfl) ?_
  refine lv_aload_n hx hb d_R_cut_5 rfl (lv_at hl 0 rfl) ?_
  refine va_get (D := G.1) (ci := 6) (C := "TwoPhaseCutsModel") (T := T_R) (N := 27) (v := .ref (L 7 0)) hx hb hts ui_R hown hK (hW.one (k := 0) (i := 0) (Nat.zero_lt_one)) 0 rfl rfl 6 (by decide) (hts _ tw_380) (fun _ h9 => h9) rfl d_R_cut_6 ?_
  refine lv_iload_n hx hb d_R_cut_9 rfl (lv_at hl 1 rfl) ?_
  obtain ⟨hg1, hf⟩ := mm_guard hf
  refine va_iald (D := G.1) (cl := ec_cl) hx hb hK (hW.one (k := 7) (i := 0) (Nat.zero_lt_one)) 0 0 rfl rfl (mm_vp hg1) d_R_cut_10 ?_
  refine mm_top (y := (σ 7 0 (Int32.toNatClampNeg a1))) rfl ?_
  refine mm_iast hx hb hK hI hW hS (k := 2) (i := 0) (Nat.zero_lt_one) (fun _ => rfl) (t0 := 0) rfl (mm_vp hg1) d_R_cut_11 (fun H locs hW hS => ?_)
  refine lv_aload_n hx hb d_R_cut_12 rfl (lv_at hl 0 rfl) ?_
  refine va_get (D := G.1) (ci := 6) (C := "TwoPhaseCutsModel") (T := T_R) (N := 27) (v := .ref (L 10 0)) hx hb hts ui_R hown hK (hW.one (k := 0) (i := 0) (Nat.zero_lt_one)) 0 rfl rfl 9 (by decide) (hts _ tw_383) (fun _ h9 => h9) rfl d_R_cut_13 ?_
  refine lv_iload_n hx hb d_R_cut_16 rfl (lv_at hl 1 rfl) ?_
  refine lv_iconst (v := (0 : Int32)) hx hb d_R_cut_17 (by decide) ?_
  refine mm_zast hx hb hK hI hW hS (k := 10) (i := 0) (Nat.zero_lt_one) (fun _ => rfl) (t0 := 1) rfl (mm_vp hg1) (Or.inl rfl) d_R_cut_18 (fun H locs hW hS => ?_)
  refine lv_aload_n hx hb d_R_cut_19 rfl (lv_at hl 0 rfl) ?_
  refine va_get (D := G.1) (ci := 6) (C := "TwoPhaseCutsModel") (T := T_R) (N := 27) (v := .ref (L 27 0)) hx hb hts ui_R hown hK (hW.one (k := 0) (i := 0) (Nat.zero_lt_one)) 0 rfl rfl 26 (by decide) (hts _ tw_400) (fun _ h9 => h9) rfl d_R_cut_20 ?_
  refine lv_iload_n hx hb d_R_cut_23 rfl (lv_at hl 1 rfl) ?_
  refine lv_dup2_11 hx hb d_R_cut_24 rfl rfl ?_
  refine va_iald (D := G.1) (cl := ec_cl) hx hb hK (hW.one (k := 27) (i := 0) (Nat.zero_lt_one)) 0 0 rfl rfl (mm_vp hg1) d_R_cut_25 ?_
  refine mm_top (y := (σ 27 0 (Int32.toNatClampNeg a1))) rfl ?_
  refine lv_iconst (v := (1 : Int32)) hx hb d_R_cut_26 (by decide) ?_
  refine lv_iadd hx hb d_R_cut_27 ?_
  refine mm_iast hx hb hK hI hW hS (k := 27) (i := 0) (Nat.zero_lt_one) (fun _ => rfl) (t0 := 0) rfl (mm_vp hg1) d_R_cut_28 (fun H locs hW hS => ?_)
  refine lv_iconst (v := (0 : Int32)) hx hb d_R_cut_29 (by decide) ?_
  refine lv_istore_n (lv' := [(2, .int (0 : Int32)), (0, .ref (L 0 0)), (1, .int a1)]) hx hb d_R_cut_30 rfl hl (by decide) rfl (fun ls hl => ?_)
  obtain ⟨u1, hu1, hf⟩ := mm_bind hf
  refine w_R_cut_l31 l G L F n hI hC hK a1 F (mm_st (mm_st (mm_st σ 2 0 (Int32.toNatClampNeg a1) (σ 7 0 (Int32.toNatClampNeg a1))) 10 0 (Int32.toNatClampNeg a1) (0 : Int32)) 27 0 (Int32.toNatClampNeg a1) ((σ 27 0 (Int32.toNatClampNeg a1)) + (1 : Int32))) (0 : Int32) _ _ _ hu1 hW hS (lv_sub hl [1, 2, 0] rfl) (fun H locs ls hW hS hl => ?_)
  obtain rfl := Option.some.inj hf
  exact W.vret hx hb hr (fun t ht hw => ⟨⟨(), rfl, trivial, (mm_back ht hw hW hK)⟩, hS.F ht⟩) hS.2.2 d_R_cut_96
abbrev rm_R_follow : Room := { frames := 2, cells := 0, slots := 0, locals := 48 }
set_option maxHeartbeats 4000000 in
set_option maxRecDepth 100000 in
theorem w_R_follow_l2 (l : Launch) (G : ec_G) (L : mm_L) {p : Program} {e : Env} {s : State} {m : MethodId} {args : Array Value} {below : List Frame} {meth : Method} {c : Code} {H0 : Heap} {Q : State → Prop} (F n : Nat) (hI : mm_I (er_cnt n) L) (hC : CallFix p m c b_R_follow 4 s args tw_tbl "TwoPhaseCutsModel") (hK : va_K G.1 ec_cl (ec_T G) s) (x1 : Int32) (x2 : Int32) {out : mm_M} :
    ∀ (K : Nat) (σ : mm_M) (v3 : Int32) (H : Heap) (locs : List Loc) (ls : Array Slot), f_R_follow_l2 F n x1 x2 K σ v3 = some out → mm_W G.1 ec_cl (er_cnt n) L (er_E G L n) σ H → va_S (mm_A (er_cnt n) L) H0 H locs → lv_has ls 4 [(0, .ref (L 0 0)), (1, .int x1), (2, .int x2), (3, .int v3)] →
    (∀ (H : Heap) (locs : List Loc) (ls : Array Slot), mm_W G.1 ec_cl (er_cnt n) L (er_E G L n) out H → va_S (mm_A (er_cnt n) L) H0 H locs → lv_has ls 4 [(0, .ref (L 0 0)), (1, .int x1), (2, .int x2)] → W p l e rm_R_follow s m args below meth c H locs 0 0 Q (F0 m 46 ls [])) →
    W p l e rm_R_follow s m args below meth c H locs 0 0 Q (F0 m 2 ls []) := by
  obtain ⟨hx, hb, hml, hown, hts⟩ := id hC
  intro K
  induction K with
  | zero =>
    intro σ v3 H locs ls hf
    simp [f_R_follow_l2] at hf
  | succ K ih =>
    intro σ v3 H locs ls hf hW hS hl kx
    rw [f_R_follow_l2] at hf
    refine lv_iload_n hx hb d_R_follow_2 rfl (lv_at hl 3 rfl) ?_
    refine lv_aload_n hx hb d_R_follow_3 rfl (lv_at hl 0 rfl) ?_
    refine va_get (D := G.1) (ci := 6) (C := "TwoPhaseCutsModel") (T := T_R) (N := 27) (v := .int (σ 0 0 0)) hx hb hts ui_R hown hK (hW.one (k := 0) (i := 0) (Nat.zero_lt_one)) 0 rfl rfl 0 (by decide) (hts _ tw_374) (fun _ h9 => h9) rfl d_R_follow_4 ?_
    refine lv_icmp_ge (tgt := 46) hx hb d_R_follow_7 (by decide) (fun hc => ?_) (fun hc => ?_)
    · rw [if_pos hc] at hf
      obtain rfl := Option.some.inj hf
      exact kx _ _ _ hW hS (lv_sub hl [0, 1, 2] rfl)
    · rw [if_neg hc] at hf
      refine lv_aload_n hx hb d_R_follow_10 rfl (lv_at hl 0 rfl) ?_
      refine va_get (D := G.1) (ci := 6) (C := "TwoPhaseCutsModel") (T := T_R) (N := 27) (v := .ref (L 14 0)) hx hb hts ui_R hown hK (hW.one (k := 0) (i := 0) (Nat.zero_lt_one)) 0 rfl rfl 13 (by decide) (hts _ tw_387) (fun _ h9 => h9) rfl d_R_follow_11 ?_
      refine lv_iload_n hx hb d_R_follow_14 rfl (lv_at hl 1 rfl) ?_
      obtain ⟨hg1, hf⟩ := mm_guard hf
      refine va_iald (D := G.1) (cl := ec_cl) hx hb hK (hW.one (k := 14) (i := 0) (Nat.zero_lt_one)) 0 0 rfl rfl (mm_vp hg1) d_R_follow_15 ?_
      refine mm_top (y := (σ 14 0 (Int32.toNatClampNeg x1))) rfl ?_
      refine lv_iload_n hx hb d_R_follow_16 rfl (lv_at hl 3 rfl) ?_
      refine lv_ishr hx hb d_R_follow_17 ?_
      refine lv_iconst (v := (1 : Int32)) hx hb d_R_follow_18 (by decide) ?_
      refine lv_iand hx hb d_R_follow_19 ?_
      refine lv_iconst (v := (1 : Int32)) hx hb d_R_follow_20 (by decide) ?_
      obtain ⟨u1, hu1, hf⟩ := mm_bind hf
      have jp1 : ∀ (H : Heap) (locs : List Loc) (ls : Array Slot), mm_W G.1 ec_cl (er_cnt n) L (er_E G L n) u1 H → va_S (mm_A (er_cnt n) L) H0 H locs → lv_has ls 4 [(0, .ref (L 0 0)), (1, .int x1), (2, .int x2), (3, .int v3)] → W p l e rm_R_follow s m args below meth c H locs 0 0 Q (F0 m 40 ls []) := by
        intro H locs ls hW hS hl
        refine lv_iinc (v := (v3 + (1 : Int32))) (lv' := [(3, .int (v3 + (1 : Int32))), (0, .ref (L 0 0)), (1, .int x1), (2, .int x2)]) hx hb d_R_follow_40 hl (k := 3) rfl (mm_inc _) (by decide) rfl (fun ls hl => ?_)
        refine lv_goto (tgt := 2) hx hb d_R_follow_43 (by decide) ?_
        exact ih _ _ _ _ _ hf hW hS (lv_sub hl [1, 2, 3, 0] rfl) kx
      clear hf
      have hf := hu1
      clear hu1
      refine lv_icmp_ne (tgt := 40) hx hb d_R_follow_21 (by decide) (fun hc => ?_) (fun hc => ?_)
      · rw [if_neg hc] at hf
        obtain rfl := Option.some.inj hf
        exact jp1 _ _ _ hW hS (lv_sub hl [0, 1, 2, 3] rfl)
      · rw [if_pos hc] at hf
        refine lv_aload_n hx hb d_R_follow_24 rfl (lv_at hl 0 rfl) ?_
        refine lv_iconst (v := (2 : Int32)) hx hb d_R_follow_25 (by decide) ?_
        refine lv_iload_n hx hb d_R_follow_26 rfl (lv_at hl 1 rfl) ?_
        refine lv_iload_n hx hb d_R_follow_27 rfl (lv_at hl 3 rfl) ?_
        refine lv_iload_n hx hb d_R_follow_28 rfl (lv_at hl 2 rfl) ?_
        obtain ⟨u2, hu2, hf⟩ := mm_bind hf
        have jp2 : ∀ (H : Heap) (locs : List Loc) (ls : Array Slot), mm_W G.1 ec_cl (er_cnt n) L (er_E G L n) σ H → va_S (mm_A (er_cnt n) L) H0 H locs → lv_has ls 4 [(0, .ref (L 0 0)), (1, .int x1), (2, .int x2), (3, .int v3)] → W p l e rm_R_follow s m args below meth c H locs 0 0 Q (F0 m 37 ls [.int u2, .int v3, .int x1, .int (2 : Int32), .ref (L 0 0)]) := by
          intro H locs ls hW hS hl
          obtain ⟨u3, hu3, hf⟩ := mm_bind hf
          refine mm_callv (va_runV (As := [.int (2 : Int32), .int x1, .int v3, .int u2]) (rest := []) hC (c_R_write l G L F n hI σ (2 : Int32) x1 v3 u2 hu3) (cwV 4 hts (tw_gV tw_532 tw_534 ts_28 tw_8 tw_535) rfl rfl rfl (by decide +kernel) ⟨Nat.le_of_ble_eq_true rfl, Nat.le_of_ble_eq_true rfl⟩) (mm_preV hK hW (k := 0) (i := 0) (Nat.zero_lt_one) rfl rfl) rfl rfl hl.1 rfl (lv_room (Nat.le_of_ble_eq_true rfl)) d_R_follow_37 ⟨Nat.zero_le _, Nat.zero_le _⟩) hS (fun _ h => h) (fun H locs hW _ _ hS => ?_)
          obtain rfl := Option.some.inj hf
          exact jp1 _ _ _ hW hS (lv_sub hl [0, 1, 2, 3] rfl)
        clear hf
        have hf := hu2
        clear hu2
        refine lv_if_eq (tgt := 36) hx hb d_R_follow_29 (by decide) (fun hc => ?_) (fun hc => ?_)
        · rw [if_pos hc] at hf
          refine lv_iconst (v := (0 : Int32)) hx hb d_R_follow_36 (by decide) ?_
          obtain rfl := Option.some.inj hf
          exact jp2 _ _ _ hW hS (lv_sub hl [0, 1, 2, 3] rfl)
        · rw [if_neg hc] at hf
          refine lv_iconst (v := (1 : Int32)) hx hb d_R_follow_32 (by decide) ?_
          refine lv_goto (tgt := 37) hx hb d_R_follow_33 (by decide) ?_
          obtain rfl := Option.some.inj hf
          exact jp2 _ _ _ hW hS (lv_sub hl [0, 1, 2, 3] rfl)
set_option maxHeartbeats 4000000 in
set_option maxRecDepth 100000 in
theorem c_R_follow (l : Launch) (G : ec_G) (L : mm_L) (F n : Nat) (hI : mm_I (er_cnt n) L) (σ : mm_M) (a1 : Int32) (a2 : Int32) {out : mm_M} (hf : f_R_follow F n σ a1 a2 = some out) :
    Met l y_R_follow (Cond.code y_R_follow b_R_follow 4 none :: tw_tbl) rm_R_follow (va_Pc [.ref (L 0 0), .int a1, .int a2] (mm_pre G.1 ec_cl (ec_T G) (er_cnt n) L (er_E G L n) σ))
      (va_Qv (fun (_ : Unit) => True) (fun _ t => mm_pre G.1 ec_cl (ec_T G) (er_cnt n) L (er_E G L n) out t) (mm_A (er_cnt n) L)) 0 0 (mm_A (er_cnt n) L) := by
  refine Met.ofW (cc := b_R_follow) (maxL := 4) (ret := none) (by decide) rfl ?_
  intro p e s m args below meth c s₁ B hml hv
  obtain ⟨rfl, hW, hK⟩ := hv
  have hx := B.exec
  have hb := B.bytes
  have hr := B.returns
  have hts0 := atoms_spec (ws := Cond.code y_R_follow b_R_follow 4 none :: tw_tbl) B.pre
  have hts : ∀ w ∈ tw_tbl, w.before [.ref (L 0 0), .int a1, .int a2].toArray s = true := fun w h => hts0 w (List.mem_cons_of_mem _ h)
  clear hts0
  have hown : s.vm.findClass "TwoPhaseCutsModel" = some m.cls := findClass_of_methodNamed B.named
  have hlocks := B.notSynchronized
  have hC : CallFix p m c b_R_follow 4 s [.ref (L 0 0), .int a1, .int a2].toArray tw_tbl "TwoPhaseCutsModel" := ⟨hx, hb, hml, hown, hts⟩
  have hS : va_S (mm_A (er_cnt n) L) s.heap s.heap [] := va_S.rf
  have hl := lv_entry ([.ref (L 0 0), .int a1, .int a2]) (n := 4) (Nat.le_of_ble_eq_true rfl)
  rw [lg_entry_eq]
  generalize (lg_sl ([.ref (L 0 0), .int a1, .int a2]) ++ List.replicate (4 - (lg_sl ([.ref (L 0 0), .int a1, .int a2])).length) Slot.unset).toArray = ls at hl ⊢
  have hl : lv_has ls 4 [(0, .ref (L 0 0)), (1, .int a1), (2, .int a2)] := hl
  have hW : mm_W G.1 ec_cl (er_cnt n) L (er_E G L n) σ s.heap := hW
  clear B
  show W p l e rm_R_follow s m [.ref (L 0 0), .int a1, .int a2].toArray below meth c s.heap [] 0 0 (MQ below (va_Qv (fun (_ : Unit) => True) (fun _ t => mm_pre G.1 ec_cl (ec_T G) (er_cnt n) L (er_E G L n) out t) (mm_A (er_cnt n) L)) [.ref (L 0 0), .int a1, .int a2].toArray s 0 0 (mm_A (er_cnt n) L)) (F0 m 0 ls [])
  unfold f_R_follow at hf
  refine lv_iconst (v := (0 : Int32)) hx hb d_R_follow_0 (by decide) ?_
  refine lv_istore_n (lv' := [(3, .int (0 : Int32)), (0, .ref (L 0 0)), (1, .int a1), (2, .int a2)]) hx hb d_R_follow_1 rfl hl (by decide) rfl (fun ls hl => ?_)
  obtain ⟨u1, hu1, hf⟩ := mm_bind hf
  refine w_R_follow_l2 l G L F n hI hC hK a1 a2 F σ (0 : Int32) _ _ _ hu1 hW hS (lv_sub hl [1, 2, 3, 0] rfl) (fun H locs ls hW hS hl => ?_)
  refine lv_aload_n hx hb d_R_follow_46 rfl (lv_at hl 0 rfl) ?_
  refine va_get (D := G.1) (ci := 6) (C := "TwoPhaseCutsModel") (T := T_R) (N := 27) (v := .ref (L 11 0)) hx hb hts ui_R hown hK (hW.one (k := 0) (i := 0) (Nat.zero_lt_one)) 0 rfl rfl 10 (by decide) (hts _ tw_384) (fun _ h9 => h9) rfl d_R_follow_47 ?_
  refine lv_iload_n hx hb d_R_follow_50 rfl (lv_at hl 1 rfl) ?_
  refine lv_iconst (v := (0 : Int32)) hx hb d_R_follow_51 (by decide) ?_
  obtain ⟨hg1, hf⟩ := mm_guard hf
  refine mm_iast hx hb hK hI hW hS (k := 11) (i := 0) (Nat.zero_lt_one) (fun _ => rfl) (t0 := 0) rfl (mm_vp hg1) d_R_follow_52 (fun H locs hW hS => ?_)
  refine lv_iload_n hx hb d_R_follow_53 rfl (lv_at hl 2 rfl) ?_
  obtain ⟨u2, hu2, hf⟩ := mm_bind hf
  have jp1 : ∀ (H : Heap) (locs : List Loc) (ls : Array Slot), mm_W G.1 ec_cl (er_cnt n) L (er_E G L n) u2 H → va_S (mm_A (er_cnt n) L) s.heap H locs → lv_has ls 4 [] → W p l e rm_R_follow s m [.ref (L 0 0), .int a1, .int a2].toArray below meth c H locs 0 0 (MQ below (va_Qv (fun (_ : Unit) => True) (fun _ t => mm_pre G.1 ec_cl (ec_T G) (er_cnt n) L (er_E G L n) out t) (mm_A (er_cnt n) L)) [.ref (L 0 0), .int a1, .int a2].toArray s 0 0 (mm_A (er_cnt n) L)) (F0 m 100 ls []) := by
    intro H locs ls hW hS hl
    obtain rfl := Option.some.inj hf
    exact W.vret hx hb hr (fun t ht hw => ⟨⟨(), rfl, trivial, (mm_back ht hw hW hK)⟩, hS.F ht⟩) hS.2.2 d_R_follow_100
  clear hf
  have hf := hu2
  clear hu2
  refine lv_if_eq (tgt := 74) hx hb d_R_follow_54 (by decide) (fun hc => ?_) (fun hc => ?_)
  · rw [if_pos hc] at hf
    refine lv_iload_n hx hb d_R_follow_74 rfl (lv_at hl 2 rfl) ?_
    refine lv_if_eq (tgt := 100) hx hb d_R_follow_75 (by decide) (fun hc => ?_) (fun hc => ?_)
    · rw [if_pos hc] at hf
      obtain rfl := Option.some.inj hf
      exact jp1 _ _ _ hW hS (lv_sub hl [] rfl)
    · rw [if_neg hc] at hf
      refine lv_aload_n hx hb d_R_follow_78 rfl (lv_at hl 0 rfl) ?_
      refine va_get (D := G.1) (ci := 6) (C := "TwoPhaseCutsModel") (T := T_R) (N := 27) (v := .ref (L 7 0)) hx hb hts ui_R hown hK (hW.one (k := 0) (i := 0) (Nat.zero_lt_one)) 0 rfl rfl 6 (by decide) (hts _ tw_380) (fun _ h9 => h9) rfl d_R_follow_79 ?_
      refine lv_iload_n hx hb d_R_follow_82 rfl (lv_at hl 1 rfl) ?_
      refine lv_aload_n hx hb d_R_follow_83 rfl (lv_at hl 0 rfl) ?_
      refine va_get (D := G.1) (ci := 6) (C := "TwoPhaseCutsModel") (T := T_R) (N := 27) (v := .ref (L 8 0)) hx hb hts ui_R hown hK (hW.one (k := 0) (i := 0) (Nat.zero_lt_one)) 0 rfl rfl 7 (by decide) (hts _ tw_381) (fun _ h9 => h9) rfl d_R_follow_84 ?_
      refine lv_iload_n hx hb d_R_follow_87 rfl (lv_at hl 1 rfl) ?_
      refine va_iald (D := G.1) (cl := ec_cl) hx hb hK (hW.one (k := 8) (i := 0) (Nat.zero_lt_one)) 0 0 rfl rfl (mm_vp hg1) d_R_follow_88 ?_
      refine mm_top (y := (u1 8 0 (Int32.toNatClampNeg a1))) rfl ?_
      refine mm_iast hx hb hK hI hW hS (k := 7) (i := 0) (Nat.zero_lt_one) (fun _ => rfl) (t0 := 0) rfl (mm_vp hg1) d_R_follow_89 (fun H locs hW hS => ?_)
      refine lv_aload_n hx hb d_R_follow_90 rfl (lv_at hl 0 rfl) ?_
      refine va_get (D := G.1) (ci := 6) (C := "TwoPhaseCutsModel") (T := T_R) (N := 27) (v := .ref (L 26 0)) hx hb hts ui_R hown hK (hW.one (k := 0) (i := 0) (Nat.zero_lt_one)) 0 rfl rfl 25 (by decide) (hts _ tw_399) (fun _ h9 => h9) rfl d_R_follow_91 ?_
      refine lv_iload_n hx hb d_R_follow_94 rfl (lv_at hl 1 rfl) ?_
      refine lv_dup2_11 hx hb d_R_follow_95 rfl rfl ?_
      refine va_iald (D := G.1) (cl := ec_cl) hx hb hK (hW.one (k := 26) (i := 0) (Nat.zero_lt_one)) 0 0 rfl rfl (mm_vp hg1) d_R_follow_96 ?_
      refine mm_top (y := (u1 26 0 (Int32.toNatClampNeg a1))) rfl ?_
      refine lv_iconst (v := (1 : Int32)) hx hb d_R_follow_97 (by decide) ?_
      refine lv_iadd hx hb d_R_follow_98 ?_
      refine mm_iast hx hb hK hI hW hS (k := 26) (i := 0) (Nat.zero_lt_one) (fun _ => rfl) (t0 := 0) rfl (mm_vp hg1) d_R_follow_99 (fun H locs hW hS => ?_)
      obtain rfl := Option.some.inj hf
      exact jp1 _ _ _ hW hS (lv_sub hl [] rfl)
  · rw [if_neg hc] at hf
    refine lv_aload_n hx hb d_R_follow_57 rfl (lv_at hl 0 rfl) ?_
    refine va_get (D := G.1) (ci := 6) (C := "TwoPhaseCutsModel") (T := T_R) (N := 27) (v := .ref (L 12 0)) hx hb hts ui_R hown hK (hW.one (k := 0) (i := 0) (Nat.zero_lt_one)) 0 rfl rfl 11 (by decide) (hts _ tw_385) (fun _ h9 => h9) rfl d_R_follow_58 ?_
    refine lv_iload_n hx hb d_R_follow_61 rfl (lv_at hl 1 rfl) ?_
    refine va_zald (D := G.1) (cl := ec_cl) hx hb hK (hW.one (k := 12) (i := 0) (Nat.zero_lt_one)) 0 1 rfl rfl (mm_vp hg1) d_R_follow_62 ?_
    refine mm_top (y := (u1 12 0 (Int32.toNatClampNeg a1))) rfl ?_
    refine lv_if_eq (tgt := 74) hx hb d_R_follow_63 (by decide) (fun hc => ?_) (fun hc => ?_)
    · rw [if_pos hc] at hf
      refine lv_iload_n hx hb d_R_follow_74 rfl (lv_at hl 2 rfl) ?_
      refine lv_if_eq (tgt := 100) hx hb d_R_follow_75 (by decide) (fun hc => ?_) (fun hc => ?_)
      · rw [if_pos hc] at hf
        obtain rfl := Option.some.inj hf
        exact jp1 _ _ _ hW hS (lv_sub hl [] rfl)
      · rw [if_neg hc] at hf
        refine lv_aload_n hx hb d_R_follow_78 rfl (lv_at hl 0 rfl) ?_
        refine va_get (D := G.1) (ci := 6) (C := "TwoPhaseCutsModel") (T := T_R) (N := 27) (v := .ref (L 7 0)) hx hb hts ui_R hown hK (hW.one (k := 0) (i := 0) (Nat.zero_lt_one)) 0 rfl rfl 6 (by decide) (hts _ tw_380) (fun _ h9 => h9) rfl d_R_follow_79 ?_
        refine lv_iload_n hx hb d_R_follow_82 rfl (lv_at hl 1 rfl) ?_
        refine lv_aload_n hx hb d_R_follow_83 rfl (lv_at hl 0 rfl) ?_
        refine va_get (D := G.1) (ci := 6) (C := "TwoPhaseCutsModel") (T := T_R) (N := 27) (v := .ref (L 8 0)) hx hb hts ui_R hown hK (hW.one (k := 0) (i := 0) (Nat.zero_lt_one)) 0 rfl rfl 7 (by decide) (hts _ tw_381) (fun _ h9 => h9) rfl d_R_follow_84 ?_
        refine lv_iload_n hx hb d_R_follow_87 rfl (lv_at hl 1 rfl) ?_
        refine va_iald (D := G.1) (cl := ec_cl) hx hb hK (hW.one (k := 8) (i := 0) (Nat.zero_lt_one)) 0 0 rfl rfl (mm_vp hg1) d_R_follow_88 ?_
        refine mm_top (y := (u1 8 0 (Int32.toNatClampNeg a1))) rfl ?_
        refine mm_iast hx hb hK hI hW hS (k := 7) (i := 0) (Nat.zero_lt_one) (fun _ => rfl) (t0 := 0) rfl (mm_vp hg1) d_R_follow_89 (fun H locs hW hS => ?_)
        refine lv_aload_n hx hb d_R_follow_90 rfl (lv_at hl 0 rfl) ?_
        refine va_get (D := G.1) (ci := 6) (C := "TwoPhaseCutsModel") (T := T_R) (N := 27) (v := .ref (L 26 0)) hx hb hts ui_R hown hK (hW.one (k := 0) (i := 0) (Nat.zero_lt_one)) 0 rfl rfl 25 (by decide) (hts _ tw_399) (fun _ h9 => h9) rfl d_R_follow_91 ?_
        refine lv_iload_n hx hb d_R_follow_94 rfl (lv_at hl 1 rfl) ?_
        refine lv_dup2_11 hx hb d_R_follow_95 rfl rfl ?_
        refine va_iald (D := G.1) (cl := ec_cl) hx hb hK (hW.one (k := 26) (i := 0) (Nat.zero_lt_one)) 0 0 rfl rfl (mm_vp hg1) d_R_follow_96 ?_
        refine mm_top (y := (u1 26 0 (Int32.toNatClampNeg a1))) rfl ?_
        refine lv_iconst (v := (1 : Int32)) hx hb d_R_follow_97 (by decide) ?_
        refine lv_iadd hx hb d_R_follow_98 ?_
        refine mm_iast hx hb hK hI hW hS (k := 26) (i := 0) (Nat.zero_lt_one) (fun _ => rfl) (t0 := 0) rfl (mm_vp hg1) d_R_follow_99 (fun H locs hW hS => ?_)
        obtain rfl := Option.some.inj hf
        exact jp1 _ _ _ hW hS (lv_sub hl [] rfl)
    · rw [if_neg hc] at hf
      refine lv_aload_n hx hb d_R_follow_66 rfl (lv_at hl 0 rfl) ?_
      refine lv_iload_n hx hb d_R_follow_67 rfl (lv_at hl 1 rfl) ?_
      obtain ⟨u3, hu3, hf⟩ := mm_bind hf
      refine mm_callv (va_runV (As := [.int a1]) (rest := []) hC (c_R_cut l G L F n hI (mm_st u1 11 0 (Int32.toNatClampNeg a1) (0 : Int32)) a1 hu3) (cwV 1 hts (tw_gV tw_544 tw_546 ts_31 tw_8 tw_547) rfl rfl rfl (by decide +kernel) ⟨Nat.le_of_ble_eq_true rfl, Nat.le_of_ble_eq_true rfl⟩) (mm_preV hK hW (k := 0) (i := 0) (Nat.zero_lt_one) rfl rfl) rfl rfl hl.1 rfl (lv_room (Nat.le_of_ble_eq_true rfl)) d_R_follow_68 ⟨Nat.zero_le _, Nat.zero_le _⟩) hS (fun _ h => h) (fun H locs hW _ _ hS => ?_)
      refine lv_goto (tgt := 100) hx hb d_R_follow_71 (by decide) ?_
      obtain rfl := Option.some.inj hf
      exact jp1 _ _ _ hW hS (lv_sub hl [] rfl)
abbrev rm_R_complete : Room := { frames := 3, cells := 0, slots := 0, locals := 71 }
set_option maxHeartbeats 4000000 in
set_option maxRecDepth 100000 in
theorem c_R_complete (l : Launch) (G : ec_G) (L : mm_L) (F n : Nat) (hI : mm_I (er_cnt n) L) (σ : mm_M) (a1 : Int32) {out : mm_M} (hf : f_R_complete F n σ a1 = some out) :
    Met l y_R_complete (Cond.code y_R_complete b_R_complete 3 none :: tw_tbl) rm_R_complete (va_Pc [.ref (L 0 0), .int a1] (mm_pre G.1 ec_cl (ec_T G) (er_cnt n) L (er_E G L n) σ))
      (va_Qv (fun (_ : Unit) => True) (fun _ t => mm_pre G.1 ec_cl (ec_T G) (er_cnt n) L (er_E G L n) out t) (mm_A (er_cnt n) L)) 0 0 (mm_A (er_cnt n) L) := by
  refine Met.ofW (cc := b_R_complete) (maxL := 3) (ret := none) (by decide) rfl ?_
  intro p e s m args below meth c s₁ B hml hv
  obtain ⟨rfl, hW, hK⟩ := hv
  have hx := B.exec
  have hb := B.bytes
  have hr := B.returns
  have hts0 := atoms_spec (ws := Cond.code y_R_complete b_R_complete 3 none :: tw_tbl) B.pre
  have hts : ∀ w ∈ tw_tbl, w.before [.ref (L 0 0), .int a1].toArray s = true := fun w h => hts0 w (List.mem_cons_of_mem _ h)
  clear hts0
  have hown : s.vm.findClass "TwoPhaseCutsModel" = some m.cls := findClass_of_methodNamed B.named
  have hlocks := B.notSynchronized
  have hC : CallFix p m c b_R_complete 3 s [.ref (L 0 0), .int a1].toArray tw_tbl "TwoPhaseCutsModel" := ⟨hx, hb, hml, hown, hts⟩
  have hS : va_S (mm_A (er_cnt n) L) s.heap s.heap [] := va_S.rf
  have hl := lv_entry ([.ref (L 0 0), .int a1]) (n := 3) (Nat.le_of_ble_eq_true rfl)
  rw [lg_entry_eq]
  generalize (lg_sl ([.ref (L 0 0), .int a1]) ++ List.replicate (3 - (lg_sl ([.ref (L 0 0), .int a1])).length) Slot.unset).toArray = ls at hl ⊢
  have hl : lv_has ls 3 [(0, .ref (L 0 0)), (1, .int a1)] := hl
  have hW : mm_W G.1 ec_cl (er_cnt n) L (er_E G L n) σ s.heap := hW
  clear B
  show W p l e rm_R_complete s m [.ref (L 0 0), .int a1].toArray below meth c s.heap [] 0 0 (MQ below (va_Qv (fun (_ : Unit) => True) (fun _ t => mm_pre G.1 ec_cl (ec_T G) (er_cnt n) L (er_E G L n) out t) (mm_A (er_cnt n) L)) [.ref (L 0 0), .int a1].toArray s 0 0 (mm_A (er_cnt n) L)) (F0 m 0 ls [])
  unfold f_R_complete at hf
  refine lv_aload_n hx hb d_R_complete_0 rfl (lv_at hl 0 rfl) ?_
  refine va_get (D := G.1) (ci := 6) (C := "TwoPhaseCutsModel") (T := T_R) (N := 27) (v := .ref (L 15 0)) hx hb hts ui_R hown hK (hW.one (k := 0) (i := 0) (Nat.zero_lt_one)) 0 rfl rfl 14 (by decide) (hts _ tw_388) (fun _ h9 => h9) rfl d_R_complete_1 ?_
  refine lv_iload_n hx hb d_R_complete_4 rfl (lv_at hl 1 rfl) ?_
  obtain ⟨hg1, hf⟩ := mm_guard hf
  refine va_iald (D := G.1) (cl := ec_cl) hx hb hK (hW.one (k := 15) (i := 0) (Nat.zero_lt_one)) 0 0 rfl rfl (mm_vp hg1) d_R_complete_5 ?_
  refine mm_top (y := (σ 15 0 (Int32.toNatClampNeg a1))) rfl ?_
  refine lv_aload_n hx hb d_R_complete_6 rfl (lv_at hl 0 rfl) ?_
  refine va_get (D := G.1) (ci := 6) (C := "TwoPhaseCutsModel") (T := T_R) (N := 27) (v := .ref (L 14 0)) hx hb hts ui_R hown hK (hW.one (k := 0) (i := 0) (Nat.zero_lt_one)) 0 rfl rfl 13 (by decide) (hts _ tw_387) (fun _ h9 => h9) rfl d_R_complete_7 ?_
  refine lv_iload_n hx hb d_R_complete_10 rfl (lv_at hl 1 rfl) ?_
  refine va_iald (D := G.1) (cl := ec_cl) hx hb hK (hW.one (k := 14) (i := 0) (Nat.zero_lt_one)) 0 0 rfl rfl (mm_vp hg1) d_R_complete_11 ?_
  refine mm_top (y := (σ 14 0 (Int32.toNatClampNeg a1))) rfl ?_
  refine lv_icmp_eq (tgt := 16) hx hb d_R_complete_12 (by decide) (fun hc => ?_) (fun hc => ?_)
  · rw [if_pos hc] at hf
    refine lv_aload_n hx hb d_R_complete_16 rfl (lv_at hl 0 rfl) ?_
    refine va_get (D := G.1) (ci := 6) (C := "TwoPhaseCutsModel") (T := T_R) (N := 27) (v := .ref (L 16 0)) hx hb hts ui_R hown hK (hW.one (k := 0) (i := 0) (Nat.zero_lt_one)) 0 rfl rfl 15 (by decide) (hts _ tw_389) (fun _ h9 => h9) rfl d_R_complete_17 ?_
    refine lv_iload_n hx hb d_R_complete_20 rfl (lv_at hl 1 rfl) ?_
    refine va_iald (D := G.1) (cl := ec_cl) hx hb hK (hW.one (k := 16) (i := 0) (Nat.zero_lt_one)) 0 0 rfl rfl (mm_vp hg1) d_R_complete_21 ?_
    refine mm_top (y := (σ 16 0 (Int32.toNatClampNeg a1))) rfl ?_
    obtain ⟨u1, hu1, hf⟩ := mm_bind hf
    have jp1 : ∀ (H : Heap) (locs : List Loc) (ls : Array Slot), mm_W G.1 ec_cl (er_cnt n) L (er_E G L n) σ H → va_S (mm_A (er_cnt n) L) s.heap H locs → lv_has ls 3 [(0, .ref (L 0 0)), (1, .int a1)] → W p l e rm_R_complete s m [.ref (L 0 0), .int a1].toArray below meth c H locs 0 0 (MQ below (va_Qv (fun (_ : Unit) => True) (fun _ t => mm_pre G.1 ec_cl (ec_T G) (er_cnt n) L (er_E G L n) out t) (mm_A (er_cnt n) L)) [.ref (L 0 0), .int a1].toArray s 0 0 (mm_A (er_cnt n) L)) (F0 m 30 ls [.int u1]) := by
      intro H locs ls hW hS hl
      refine lv_istore_n (lv' := [(2, .int u1), (0, .ref (L 0 0)), (1, .int a1)]) hx hb d_R_complete_30 rfl hl (by decide) rfl (fun ls hl => ?_)
      refine lv_aload_n hx hb d_R_complete_31 rfl (lv_at hl 1 rfl) ?_
      refine va_get (D := G.1) (ci := 6) (C := "TwoPhaseCutsModel") (T := T_R) (N := 27) (v := .ref (L 13 0)) hx hb hts ui_R hown hK (hW.one (k := 0) (i := 0) (Nat.zero_lt_one)) 0 rfl rfl 12 (by decide) (hts _ tw_386) (fun _ h9 => h9) rfl d_R_complete_32 ?_
      refine lv_iload_n hx hb d_R_complete_35 rfl (lv_at hl 2 rfl) ?_
      refine va_iald (D := G.1) (cl := ec_cl) hx hb hK (hW.one (k := 13) (i := 0) (Nat.zero_lt_one)) 0 0 rfl rfl (mm_vp hg1) d_R_complete_36 ?_
      refine mm_top (y := (σ 13 0 (Int32.toNatClampNeg a1))) rfl ?_
      obtain ⟨u2, hu2, hf⟩ := mm_bind hf
      have jp2 : ∀ (H : Heap) (locs : List Loc) (ls : Array Slot), mm_W G.1 ec_cl (er_cnt n) L (er_E G L n) u2 H → va_S (mm_A (er_cnt n) L) s.heap H locs → lv_has ls 3 [] → W p l e rm_R_complete s m [.ref (L 0 0), .int a1].toArray below meth c H locs 0 0 (MQ below (va_Qv (fun (_ : Unit) => True) (fun _ t => mm_pre G.1 ec_cl (ec_T G) (er_cnt n) L (er_E G L n) out t) (mm_A (er_cnt n) L)) [.ref (L 0 0), .int a1].toArray s 0 0 (mm_A (er_cnt n) L)) (F0 m 90 ls []) := by
        intro H locs ls hW hS hl
        obtain rfl := Option.some.inj hf
        exact W.vret hx hb hr (fun t ht hw => ⟨⟨(), rfl, trivial, (mm_back ht hw hW hK)⟩, hS.F ht⟩) hS.2.2 d_R_complete_90
      clear hf
      have hf := hu2
      clear hu2
      refine lv_if_lt (tgt := 64) hx hb d_R_complete_37 (by decide) (fun hc => ?_) (fun hc => ?_)
      · rw [if_pos hc] at hf
        refine lv_aload_n hx hb d_R_complete_64 rfl (lv_at hl 1 rfl) ?_
        refine va_get (D := G.1) (ci := 6) (C := "TwoPhaseCutsModel") (T := T_R) (N := 27) (v := .ref (L 18 0)) hx hb hts ui_R hown hK (hW.one (k := 0) (i := 0) (Nat.zero_lt_one)) 0 rfl rfl 17 (by decide) (hts _ tw_391) (fun _ h9 => h9) rfl d_R_complete_65 ?_
        refine lv_aload_n hx hb d_R_complete_68 rfl (lv_at hl 1 rfl) ?_
        refine va_get (D := G.1) (ci := 6) (C := "TwoPhaseCutsModel") (T := T_R) (N := 27) (v := .ref (L 11 0)) hx hb hts ui_R hown hK (hW.one (k := 0) (i := 0) (Nat.zero_lt_one)) 0 rfl rfl 10 (by decide) (hts _ tw_384) (fun _ h9 => h9) rfl d_R_complete_69 ?_
        refine lv_iload_n hx hb d_R_complete_72 rfl (lv_at hl 2 rfl) ?_
        refine va_iald (D := G.1) (cl := ec_cl) hx hb hK (hW.one (k := 11) (i := 0) (Nat.zero_lt_one)) 0 0 rfl rfl (mm_vp hg1) d_R_complete_73 ?_
        refine mm_top (y := (σ 11 0 (Int32.toNatClampNeg a1))) rfl ?_
        refine lv_iload_n hx hb d_R_complete_74 rfl (lv_at hl 0 rfl) ?_
        obtain ⟨u3, hu3, hf⟩ := mm_bind hf
        have jp3 : ∀ (H : Heap) (locs : List Loc) (ls : Array Slot), mm_W G.1 ec_cl (er_cnt n) L (er_E G L n) σ H → va_S (mm_A (er_cnt n) L) s.heap H locs → lv_has ls 3 [(0, .ref (L 0 0)), (1, .int a1), (2, .int u1)] → W p l e rm_R_complete s m [.ref (L 0 0), .int a1].toArray below meth c H locs 0 0 (MQ below (va_Qv (fun (_ : Unit) => True) (fun _ t => mm_pre G.1 ec_cl (ec_T G) (er_cnt n) L (er_E G L n) out t) (mm_A (er_cnt n) L)) [.ref (L 0 0), .int a1].toArray s 0 0 (mm_A (er_cnt n) L)) (F0 m 83 ls [.int u3, .int (σ 11 0 (Int32.toNatClampNeg a1)), .ref (L 18 0)]) := by
          intro H locs ls hW hS hl
          obtain ⟨hg2, hf⟩ := mm_guard hf
          refine mm_iast hx hb hK hI hW hS (k := 18) (i := 0) (Nat.zero_lt_one) (fun _ => rfl) (t0 := 0) rfl (mm_vp hg2) d_R_complete_83 (fun H locs hW hS => ?_)
          refine lv_aload_n hx hb d_R_complete_84 rfl (lv_at hl 0 rfl) ?_
          refine lv_iload_n hx hb d_R_complete_85 rfl (lv_at hl 1 rfl) ?_
          refine lv_iload_n hx hb d_R_complete_86 rfl (lv_at hl 2 rfl) ?_
          obtain ⟨u4, hu4, hf⟩ := mm_bind hf
          refine mm_callv (va_runV (As := [.int a1, .int u1]) (rest := []) hC (c_R_follow l G L F n hI (mm_st σ 18 0 (Int32.toNatClampNeg (σ 11 0 (Int32.toNatClampNeg a1))) u3) a1 u1 hu4) (cwV 2 hts (tw_gV tw_540 tw_542 ts_30 tw_8 tw_543) rfl rfl rfl (by decide +kernel) ⟨Nat.le_of_ble_eq_true rfl, Nat.le_of_ble_eq_true rfl⟩) (mm_preV hK hW (k := 0) (i := 0) (Nat.zero_lt_one) rfl rfl) rfl rfl hl.1 rfl (lv_room (Nat.le_of_ble_eq_true rfl)) d_R_complete_87 ⟨Nat.zero_le _, Nat.zero_le _⟩) hS (fun _ h => h) (fun H locs hW _ _ hS => ?_)
          obtain rfl := Option.some.inj hf
          exact jp2 _ _ _ hW hS (lv_sub hl [] rfl)
        clear hf
        have hf := hu3
        clear hu3
        refine lv_if_eq (tgt := 82) hx hb d_R_complete_75 (by decide) (fun hc => ?_) (fun hc => ?_)
        · rw [if_pos hc] at hf
          refine lv_iconst (v := (2 : Int32)) hx hb d_R_complete_82 (by decide) ?_
          obtain rfl := Option.some.inj hf
          exact jp3 _ _ _ hW hS (lv_sub hl [1, 2, 0] rfl)
        · rw [if_neg hc] at hf
          refine lv_iconst (v := (1 : Int32)) hx hb d_R_complete_78 (by decide) ?_
          refine lv_goto (tgt := 83) hx hb d_R_complete_79 (by decide) ?_
          obtain rfl := Option.some.inj hf
          exact jp3 _ _ _ hW hS (lv_sub hl [1, 2, 0] rfl)
      · rw [if_neg hc] at hf
        refine lv_aload_n hx hb d_R_complete_40 rfl (lv_at hl 1 rfl) ?_
        refine lv_iconst (v := (1 : Int32)) hx hb d_R_complete_41 (by decide) ?_
        refine lv_iload_n hx hb d_R_complete_42 rfl (lv_at hl 2 rfl) ?_
        refine lv_aload_n hx hb d_R_complete_43 rfl (lv_at hl 1 rfl) ?_
        refine va_get (D := G.1) (ci := 6) (C := "TwoPhaseCutsModel") (T := T_R) (N := 27) (v := .ref (L 13 0)) hx hb hts ui_R hown hK (hW.one (k := 0) (i := 0) (Nat.zero_lt_one)) 0 rfl rfl 12 (by decide) (hts _ tw_386) (fun _ h9 => h9) rfl d_R_complete_44 ?_
        refine lv_iload_n hx hb d_R_complete_47 rfl (lv_at hl 2 rfl) ?_
        refine va_iald (D := G.1) (cl := ec_cl) hx hb hK (hW.one (k := 13) (i := 0) (Nat.zero_lt_one)) 0 0 rfl rfl (mm_vp hg1) d_R_complete_48 ?_
        refine mm_top (y := (σ 13 0 (Int32.toNatClampNeg a1))) rfl ?_
        refine lv_iload_n hx hb d_R_complete_49 rfl (lv_at hl 0 rfl) ?_
        obtain ⟨u5, hu5, hf⟩ := mm_bind hf
        have jp4 : ∀ (H : Heap) (locs : List Loc) (ls : Array Slot), mm_W G.1 ec_cl (er_cnt n) L (er_E G L n) σ H → va_S (mm_A (er_cnt n) L) s.heap H locs → lv_has ls 3 [] → W p l e rm_R_complete s m [.ref (L 0 0), .int a1].toArray below meth c H locs 0 0 (MQ below (va_Qv (fun (_ : Unit) => True) (fun _ t => mm_pre G.1 ec_cl (ec_T G) (er_cnt n) L (er_E G L n) out t) (mm_A (er_cnt n) L)) [.ref (L 0 0), .int a1].toArray s 0 0 (mm_A (er_cnt n) L)) (F0 m 58 ls [.int u5, .int (σ 13 0 (Int32.toNatClampNeg a1)), .int a1, .int (1 : Int32), .ref (L 0 0)]) := by
          intro H locs ls hW hS hl
          obtain ⟨u6, hu6, hf⟩ := mm_bind hf
          refine mm_callv (va_runV (As := [.int (1 : Int32), .int a1, .int (σ 13 0 (Int32.toNatClampNeg a1)), .int u5]) (rest := []) hC (c_R_write l G L F n hI σ (1 : Int32) a1 (σ 13 0 (Int32.toNatClampNeg a1)) u5 hu6) (cwV 4 hts (tw_gV tw_532 tw_534 ts_28 tw_8 tw_535) rfl rfl rfl (by decide +kernel) ⟨Nat.le_of_ble_eq_true rfl, Nat.le_of_ble_eq_true rfl⟩) (mm_preV hK hW (k := 0) (i := 0) (Nat.zero_lt_one) rfl rfl) rfl rfl hl.1 rfl (lv_room (Nat.le_of_ble_eq_true rfl)) d_R_complete_58 ⟨Nat.zero_le _, Nat.zero_le _⟩) hS (fun _ h => h) (fun H locs hW _ _ hS => ?_)
          refine lv_goto (tgt := 90) hx hb d_R_complete_61 (by decide) ?_
          obtain rfl := Option.some.inj hf
          exact jp2 _ _ _ hW hS (lv_sub hl [] rfl)
        clear hf
        have hf := hu5
        clear hu5
        refine lv_if_eq (tgt := 57) hx hb d_R_complete_50 (by decide) (fun hc => ?_) (fun hc => ?_)
        · rw [if_pos hc] at hf
          refine lv_iconst (v := (0 : Int32)) hx hb d_R_complete_57 (by decide) ?_
          obtain rfl := Option.some.inj hf
          exact jp4 _ _ _ hW hS (lv_sub hl [] rfl)
        · rw [if_neg hc] at hf
          refine lv_iconst (v := (1 : Int32)) hx hb d_R_complete_53 (by decide) ?_
          refine lv_goto (tgt := 58) hx hb d_R_complete_54 (by decide) ?_
          obtain rfl := Option.some.inj hf
          exact jp4 _ _ _ hW hS (lv_sub hl [] rfl)
    clear hf
    have hf := hu1
    clear hu1
    refine lv_if_ne (tgt := 29) hx hb d_R_complete_22 (by decide) (fun hc => ?_) (fun hc => ?_)
    · rw [if_neg hc] at hf
      refine lv_iconst (v := (0 : Int32)) hx hb d_R_complete_29 (by decide) ?_
      obtain rfl := Option.some.inj hf
      exact jp1 _ _ _ hW hS (lv_sub hl [0, 1] rfl)
    · rw [if_pos hc] at hf
      refine lv_iconst (v := (1 : Int32)) hx hb d_R_complete_25 (by decide) ?_
      refine lv_goto (tgt := 30) hx hb d_R_complete_26 (by decide) ?_
      obtain rfl := Option.some.inj hf
      exact jp1 _ _ _ hW hS (lv_sub hl [0, 1] rfl)
  · rw [if_neg hc] at hf
    obtain rfl := Option.some.inj hf
    exact W.vret hx hb hr (fun t ht hw => ⟨⟨(), rfl, trivial, (mm_back ht hw hW hK)⟩, hS.F ht⟩) hS.2.2 d_R_complete_15
abbrev rm_R_join : Room := { frames := 4, cells := 0, slots := 0, locals := 93 }
set_option maxHeartbeats 4000000 in
set_option maxRecDepth 100000 in
theorem w_R_join_l58 (l : Launch) (G : ec_G) (L : mm_L) {p : Program} {e : Env} {s : State} {m : MethodId} {args : Array Value} {below : List Frame} {meth : Method} {c : Code} {H0 : Heap} {Q : State → Prop} (F n : Nat) (hI : mm_I (er_cnt n) L) (hC : CallFix p m c b_R_join 7 s args tw_tbl "TwoPhaseCutsModel") (hK : va_K G.1 ec_cl (ec_T G) s) (x1 : Int32) (x3 : Int32) {out : mm_M} :
    ∀ (K : Nat) (σ : mm_M) (v5 : Int32) (H : Heap) (locs : List Loc) (ls : Array Slot), f_R_join_l58 F n x1 x3 K σ v5 = some out → mm_W G.1 ec_cl (er_cnt n) L (er_E G L n) σ H → va_S (mm_A (er_cnt n) L) H0 H locs → lv_has ls 7 [(0, .ref (L 0 0)), (1, .int x1), (3, .int x3), (5, .int v5)] →
    (∀ (H : Heap) (locs : List Loc) (ls : Array Slot), mm_W G.1 ec_cl (er_cnt n) L (er_E G L n) out H → va_S (mm_A (er_cnt n) L) H0 H locs → lv_has ls 7 [(0, .ref (L 0 0)), (1, .int x1)] → W p l e rm_R_join s m args below meth c H locs 0 0 Q (F0 m 141 ls [])) →
    W p l e rm_R_join s m args below meth c H locs 0 0 Q (F0 m 58 ls []) := by
  obtain ⟨hx, hb, hml, hown, hts⟩ := id hC
  intro K
  induction K with
  | zero =>
    intro σ v5 H locs ls hf
    simp [f_R_join_l58] at hf
  | succ K ih =>
    intro σ v5 H locs ls hf hW hS hl kx
    rw [f_R_join_l58] at hf
    refine lv_iload hx hb d_R_join_58 (lv_at hl 3 rfl) ?_
    refine lv_aload_n hx hb d_R_join_60 rfl (lv_at hl 0 rfl) ?_
    refine va_get (D := G.1) (ci := 6) (C := "TwoPhaseCutsModel") (T := T_R) (N := 27) (v := .int (σ 0 0 0)) hx hb hts ui_R hown hK (hW.one (k := 0) (i := 0) (Nat.zero_lt_one)) 0 rfl rfl 0 (by decide) (hts _ tw_374) (fun _ h9 => h9) rfl d_R_join_61 ?_
    refine lv_icmp_ge (tgt := 141) hx hb d_R_join_64 (by decide) (fun hc => ?_) (fun hc => ?_)
    · rw [if_pos hc] at hf
      obtain rfl := Option.some.inj hf
      exact kx _ _ _ hW hS (lv_sub hl [0, 1] rfl)
    · rw [if_neg hc] at hf
      refine lv_aload_n hx hb d_R_join_67 rfl (lv_at hl 0 rfl) ?_
      refine lv_iload_n hx hb d_R_join_68 rfl (lv_at hl 1 rfl) ?_
      refine lv_iload hx hb d_R_join_69 (lv_at hl 3 rfl) ?_
      obtain ⟨u1, hu1, hf⟩ := mm_bind hf
      refine mm_calli (va_runV (As := [.int x1, .int v5]) (rest := []) hC (c_R_asks l G L F n hI σ x1 v5 hu1) (cwV 2 hts (tw_gV tw_528 tw_530 ts_27 tw_8 tw_531) rfl rfl rfl (by decide +kernel) ⟨Nat.le_of_ble_eq_true rfl, Nat.le_of_ble_eq_true rfl⟩) (mm_preV hK hW (k := 0) (i := 0) (Nat.zero_lt_one) rfl rfl) rfl rfl hl.1 rfl (lv_room (Nat.le_of_ble_eq_true rfl)) d_R_join_71 ⟨Nat.zero_le _, Nat.zero_le _⟩) hS (fun _ h => h) (fun H locs hW _ _ hS => ?_)
      obtain ⟨u2, hu2, hf⟩ := mm_bind hf
      have jp1 : ∀ (H : Heap) (locs : List Loc) (ls : Array Slot), mm_W G.1 ec_cl (er_cnt n) L (er_E G L n) u2 H → va_S (mm_A (er_cnt n) L) H0 H locs → lv_has ls 7 [(0, .ref (L 0 0)), (1, .int x1), (3, .int x3), (5, .int v5)] → W p l e rm_R_join s m args below meth c H locs 0 0 Q (F0 m 135 ls []) := by
        intro H locs ls hW hS hl
        refine lv_iinc (v := (v5 + (1 : Int32))) (lv' := [(5, .int (v5 + (1 : Int32))), (0, .ref (L 0 0)), (1, .int x1), (3, .int x3)]) hx hb d_R_join_135 hl (k := 3) rfl (mm_inc _) (by decide) rfl (fun ls hl => ?_)
        refine lv_goto (tgt := 58) hx hb d_R_join_138 (by decide) ?_
        exact ih _ _ _ _ _ hf hW hS (lv_sub hl [1, 2, 3, 0] rfl) kx
      clear hf
      have hf := hu2
      clear hu2
      refine lv_if_eq (tgt := 135) hx hb d_R_join_74 (by decide) (fun hc => ?_) (fun hc => ?_)
      · rw [if_pos hc] at hf
        obtain rfl := Option.some.inj hf
        exact jp1 _ _ _ hW hS (lv_sub hl [0, 1, 2, 3] rfl)
      · rw [if_neg hc] at hf
        refine lv_aload_n hx hb d_R_join_77 rfl (lv_at hl 0 rfl) ?_
        refine va_get (D := G.1) (ci := 6) (C := "TwoPhaseCutsModel") (T := T_R) (N := 27) (v := .ref (L 14 0)) hx hb hts ui_R hown hK (hW.one (k := 0) (i := 0) (Nat.zero_lt_one)) 0 rfl rfl 13 (by decide) (hts _ tw_387) (fun _ h9 => h9) rfl d_R_join_78 ?_
        refine lv_iload_n hx hb d_R_join_81 rfl (lv_at hl 1 rfl) ?_
        refine lv_dup2_11 hx hb d_R_join_82 rfl rfl ?_
        obtain ⟨hg1, hf⟩ := mm_guard hf
        refine va_iald (D := G.1) (cl := ec_cl) hx hb hK (hW.one (k := 14) (i := 0) (Nat.zero_lt_one)) 0 0 rfl rfl (mm_vp hg1) d_R_join_83 ?_
        refine mm_top (y := (σ 14 0 (Int32.toNatClampNeg x1))) rfl ?_
        refine lv_iconst (v := (1 : Int32)) hx hb d_R_join_84 (by decide) ?_
        refine lv_iload hx hb d_R_join_85 (lv_at hl 3 rfl) ?_
        refine lv_ishl hx hb d_R_join_87 ?_
        refine lv_ior hx hb d_R_join_88 ?_
        refine mm_iast hx hb hK hI hW hS (k := 14) (i := 0) (Nat.zero_lt_one) (fun _ => rfl) (t0 := 0) rfl (mm_vp hg1) d_R_join_89 (fun H locs hW hS => ?_)
        refine lv_iload_n hx hb d_R_join_90 rfl (lv_at hl 2 rfl) ?_
        obtain ⟨u3, hu3, hf⟩ := mm_bind hf
        have jp2 : ∀ (H : Heap) (locs : List Loc) (ls : Array Slot), mm_W G.1 ec_cl (er_cnt n) L (er_E G L n) (mm_st σ 14 0 (Int32.toNatClampNeg x1) ((σ 14 0 (Int32.toNatClampNeg x1)) ||| ((1 : Int32) <<< (v5 &&& 31)))) H → va_S (mm_A (er_cnt n) L) H0 H locs → lv_has ls 7 [(0, .ref (L 0 0)), (1, .int x1), (3, .int x3), (5, .int v5)] → W p l e rm_R_join s m args below meth c H locs 0 0 Q (F0 m 123 ls [.int u3]) := by
          intro H locs ls hW hS hl
          refine lv_istore (lv' := [(6, .int u3), (0, .ref (L 0 0)), (1, .int x1), (3, .int x3), (5, .int v5)]) hx hb d_R_join_123 hl (by decide) rfl (fun ls hl => ?_)
          refine lv_aload_n hx hb d_R_join_125 rfl (lv_at hl 1 rfl) ?_
          refine lv_iconst (v := (0 : Int32)) hx hb d_R_join_126 (by decide) ?_
          refine lv_iload_n hx hb d_R_join_127 rfl (lv_at hl 2 rfl) ?_
          refine lv_iload hx hb d_R_join_128 (lv_at hl 4 rfl) ?_
          refine lv_iload hx hb d_R_join_130 (lv_at hl 0 rfl) ?_
          obtain ⟨u4, hu4, hf⟩ := mm_bind hf
          refine mm_callv (va_runV (As := [.int (0 : Int32), .int x1, .int v5, .int u3]) (rest := []) hC (c_R_write l G L F n hI (mm_st σ 14 0 (Int32.toNatClampNeg x1) ((σ 14 0 (Int32.toNatClampNeg x1)) ||| ((1 : Int32) <<< (v5 &&& 31)))) (0 : Int32) x1 v5 u3 hu4) (cwV 4 hts (tw_gV tw_532 tw_534 ts_28 tw_8 tw_535) rfl rfl rfl (by decide +kernel) ⟨Nat.le_of_ble_eq_true rfl, Nat.le_of_ble_eq_true rfl⟩) (mm_preV hK hW (k := 0) (i := 0) (Nat.zero_lt_one) rfl rfl) rfl rfl hl.1 rfl (lv_room (Nat.le_of_ble_eq_true rfl)) d_R_join_132 ⟨Nat.zero_le _, Nat.zero_le _⟩) hS (fun _ h => h) (fun H locs hW _ _ hS => ?_)
          obtain rfl := Option.some.inj hf
          exact jp1 _ _ _ hW hS (lv_sub hl [1, 2, 3, 4] rfl)
        clear hf
        have hf := hu3
        clear hu3
        refine lv_if_eq (tgt := 110) hx hb d_R_join_91 (by decide) (fun hc => ?_) (fun hc => ?_)
        · rw [if_pos hc] at hf
          refine lv_aload_n hx hb d_R_join_110 rfl (lv_at hl 0 rfl) ?_
          refine lv_iload_n hx hb d_R_join_111 rfl (lv_at hl 1 rfl) ?_
          refine lv_iload hx hb d_R_join_112 (lv_at hl 3 rfl) ?_
          refine lv_aload_n hx hb d_R_join_114 rfl (lv_at hl 0 rfl) ?_
          refine va_get (D := G.1) (ci := 6) (C := "TwoPhaseCutsModel") (T := T_R) (N := 27) (v := .ref (L 2 0)) hx hb hts ui_R hown hK (hW.one (k := 0) (i := 0) (Nat.zero_lt_one)) 0 rfl rfl 1 (by decide) (hts _ tw_375) (fun _ h9 => h9) rfl d_R_join_115 ?_
          refine lv_iload_n hx hb d_R_join_118 rfl (lv_at hl 1 rfl) ?_
          refine va_iald (D := G.1) (cl := ec_cl) hx hb hK (hW.one (k := 2) (i := 0) (Nat.zero_lt_one)) 0 0 rfl rfl (mm_vp hg1) d_R_join_119 ?_
          refine mm_top (y := (σ 2 0 (Int32.toNatClampNeg x1))) rfl ?_
          obtain ⟨u5, hu5, hf⟩ := mm_bind hf
          refine mm_calli (va_runV (As := [.int x1, .int v5, .int (σ 2 0 (Int32.toNatClampNeg x1))]) (rest := []) hC (c_R_receivedAt l G L F n hI (mm_st σ 14 0 (Int32.toNatClampNeg x1) ((σ 14 0 (Int32.toNatClampNeg x1)) ||| ((1 : Int32) <<< (v5 &&& 31)))) x1 v5 (σ 2 0 (Int32.toNatClampNeg x1)) hu5) (cwV 3 hts (tw_gV tw_520 tw_522 ts_25 tw_8 tw_523) rfl rfl rfl (by decide +kernel) ⟨Nat.le_of_ble_eq_true rfl, Nat.le_of_ble_eq_true rfl⟩) (mm_preV hK hW (k := 0) (i := 0) (Nat.zero_lt_one) rfl rfl) rfl rfl hl.1 rfl (lv_room (Nat.le_of_ble_eq_true rfl)) d_R_join_120 ⟨Nat.zero_le _, Nat.zero_le _⟩) hS (fun _ h => h) (fun H locs hW _ _ hS => ?_)
          obtain rfl := Option.some.inj hf
          exact jp2 _ _ _ hW hS (lv_sub hl [0, 1, 2, 3] rfl)
        · rw [if_neg hc] at hf
          refine lv_aload_n hx hb d_R_join_94 rfl (lv_at hl 0 rfl) ?_
          refine lv_iload_n hx hb d_R_join_95 rfl (lv_at hl 1 rfl) ?_
          refine lv_iload hx hb d_R_join_96 (lv_at hl 3 rfl) ?_
          refine lv_aload_n hx hb d_R_join_98 rfl (lv_at hl 0 rfl) ?_
          refine va_get (D := G.1) (ci := 6) (C := "TwoPhaseCutsModel") (T := T_R) (N := 27) (v := .ref (L 7 0)) hx hb hts ui_R hown hK (hW.one (k := 0) (i := 0) (Nat.zero_lt_one)) 0 rfl rfl 6 (by decide) (hts _ tw_380) (fun _ h9 => h9) rfl d_R_join_99 ?_
          refine lv_iload_n hx hb d_R_join_102 rfl (lv_at hl 1 rfl) ?_
          refine va_iald (D := G.1) (cl := ec_cl) hx hb hK (hW.one (k := 7) (i := 0) (Nat.zero_lt_one)) 0 0 rfl rfl (mm_vp hg1) d_R_join_103 ?_
          refine mm_top (y := (σ 7 0 (Int32.toNatClampNeg x1))) rfl ?_
          obtain ⟨u6, hu6, hf⟩ := mm_bind hf
          refine mm_calli (va_runV (As := [.int x1, .int v5, .int (σ 7 0 (Int32.toNatClampNeg x1))]) (rest := []) hC (c_R_sentAt l G L F n hI (mm_st σ 14 0 (Int32.toNatClampNeg x1) ((σ 14 0 (Int32.toNatClampNeg x1)) ||| ((1 : Int32) <<< (v5 &&& 31)))) x1 v5 (σ 7 0 (Int32.toNatClampNeg x1)) hu6) (cwV 3 hts (tw_gV tw_484 tw_486 ts_19 tw_8 tw_487) rfl rfl rfl (by decide +kernel) ⟨Nat.le_of_ble_eq_true rfl, Nat.le_of_ble_eq_true rfl⟩) (mm_preV hK hW (k := 0) (i := 0) (Nat.zero_lt_one) rfl rfl) rfl rfl hl.1 rfl (lv_room (Nat.le_of_ble_eq_true rfl)) d_R_join_104 ⟨Nat.zero_le _, Nat.zero_le _⟩) hS (fun _ h => h) (fun H locs hW _ _ hS => ?_)
          refine lv_goto (tgt := 123) hx hb d_R_join_107 (by decide) ?_
          obtain rfl := Option.some.inj hf
          exact jp2 _ _ _ hW hS (lv_sub hl [0, 1, 2, 3] rfl)
set_option maxHeartbeats 4000000 in
set_option maxRecDepth 100000 in
theorem c_R_join (l : Launch) (G : ec_G) (L : mm_L) (F n : Nat) (hI : mm_I (er_cnt n) L) (σ : mm_M) (a1 : Int32) (a2 : Int32) (a3 : Int32) (a4 : Int32) {out : mm_M} (hf : f_R_join F n σ a1 a2 a3 a4 = some out) :
    Met l y_R_join (Cond.code y_R_join b_R_join 7 none :: tw_tbl) rm_R_join (va_Pc [.ref (L 0 0), .int a1, .int a2, .int a3, .int a4] (mm_pre G.1 ec_cl (ec_T G) (er_cnt n) L (er_E G L n) σ))
      (va_Qv (fun (_ : Unit) => True) (fun _ t => mm_pre G.1 ec_cl (ec_T G) (er_cnt n) L (er_E G L n) out t) (mm_A (er_cnt n) L)) 0 0 (mm_A (er_cnt n) L) := by
  refine Met.ofW (cc := b_R_join) (maxL := 7) (ret := none) (by decide) rfl ?_
  intro p e s m args below meth c s₁ B hml hv
  obtain ⟨rfl, hW, hK⟩ := hv
  have hx := B.exec
  have hb := B.bytes
  have hr := B.returns
  have hts0 := atoms_spec (ws := Cond.code y_R_join b_R_join 7 none :: tw_tbl) B.pre
  have hts : ∀ w ∈ tw_tbl, w.before [.ref (L 0 0), .int a1, .int a2, .int a3, .int a4].toArray s = true := fun w h => hts0 w (List.mem_cons_of_mem _ h)
  clear hts0
  have hown : s.vm.findClass "TwoPhaseCutsModel" = some m.cls := findClass_of_methodNamed B.named
  have hlocks := B.notSynchronized
  have hC : CallFix p m c b_R_join 7 s [.ref (L 0 0), .int a1, .int a2, .int a3, .int a4].toArray tw_tbl "TwoPhaseCutsModel" := ⟨hx, hb, hml, hown, hts⟩
  have hS : va_S (mm_A (er_cnt n) L) s.heap s.heap [] := va_S.rf
  have hl := lv_entry ([.ref (L 0 0), .int a1, .int a2, .int a3, .int a4]) (n := 7) (Nat.le_of_ble_eq_true rfl)
  rw [lg_entry_eq]
  generalize (lg_sl ([.ref (L 0 0), .int a1, .int a2, .int a3, .int a4]) ++ List.replicate (7 - (lg_sl ([.ref (L 0 0), .int a1, .int a2, .int a3, .int a4])).length) Slot.unset).toArray = ls at hl ⊢
  have hl : lv_has ls 7 [(0, .ref (L 0 0)), (1, .int a1), (2, .int a2), (3, .int a3), (4, .int a4)] := hl
  have hW : mm_W G.1 ec_cl (er_cnt n) L (er_E G L n) σ s.heap := hW
  clear B
  show W p l e rm_R_join s m [.ref (L 0 0), .int a1, .int a2, .int a3, .int a4].toArray below meth c s.heap [] 0 0 (MQ below (va_Qv (fun (_ : Unit) => True) (fun _ t => mm_pre G.1 ec_cl (ec_T G) (er_cnt n) L (er_E G L n) out t) (mm_A (er_cnt n) L)) [.ref (L 0 0), .int a1, .int a2, .int a3, .int a4].toArray s 0 0 (mm_A (er_cnt n) L)) (F0 m 0 ls [])
  unfold f_R_join at hf
  refine lv_aload_n hx hb d_R_join_0 rfl (lv_at hl 0 rfl) ?_
  refine va_get (D := G.1) (ci := 6) (C := "TwoPhaseCutsModel") (T := T_R) (N := 27) (v := .ref (L 11 0)) hx hb hts ui_R hown hK (hW.one (k := 0) (i := 0) (Nat.zero_lt_one)) 0 rfl rfl 10 (by decide) (hts _ tw_384) (fun _ h9 => h9) rfl d_R_join_1 ?_
  refine lv_iload_n hx hb d_R_join_4 rfl (lv_at hl 1 rfl) ?_
  refine lv_iload_n hx hb d_R_join_5 rfl (lv_at hl 2 rfl) ?_
  obtain ⟨hg1, hf⟩ := mm_guard hf
  refine mm_iast hx hb hK hI hW hS (k := 11) (i := 0) (Nat.zero_lt_one) (fun _ => rfl) (t0 := 0) rfl (mm_vp hg1) d_R_join_6 (fun H locs hW hS => ?_)
  refine lv_aload_n hx hb d_R_join_7 rfl (lv_at hl 0 rfl) ?_
  refine va_get (D := G.1) (ci := 6) (C := "TwoPhaseCutsModel") (T := T_R) (N := 27) (v := .ref (L 12 0)) hx hb hts ui_R hown hK (hW.one (k := 0) (i := 0) (Nat.zero_lt_one)) 0 rfl rfl 11 (by decide) (hts _ tw_385) (fun _ h9 => h9) rfl d_R_join_8 ?_
  refine lv_iload_n hx hb d_R_join_11 rfl (lv_at hl 1 rfl) ?_
  refine lv_iload_n hx hb d_R_join_12 rfl (lv_at hl 3 rfl) ?_
  obtain ⟨hz2, hf⟩ := mm_guard hf
  refine mm_zast hx hb hK hI hW hS (k := 12) (i := 0) (Nat.zero_lt_one) (fun _ => rfl) (t0 := 1) rfl (mm_vp hg1) hz2 d_R_join_13 (fun H locs hW hS => ?_)
  refine lv_aload_n hx hb d_R_join_14 rfl (lv_at hl 0 rfl) ?_
  refine va_get (D := G.1) (ci := 6) (C := "TwoPhaseCutsModel") (T := T_R) (N := 27) (v := .ref (L 13 0)) hx hb hts ui_R hown hK (hW.one (k := 0) (i := 0) (Nat.zero_lt_one)) 0 rfl rfl 12 (by decide) (hts _ tw_386) (fun _ h9 => h9) rfl d_R_join_15 ?_
  refine lv_iload_n hx hb d_R_join_18 rfl (lv_at hl 1 rfl) ?_
  refine lv_iload hx hb d_R_join_19 (lv_at hl 4 rfl) ?_
  refine mm_iast hx hb hK hI hW hS (k := 13) (i := 0) (Nat.zero_lt_one) (fun _ => rfl) (t0 := 0) rfl (mm_vp hg1) d_R_join_21 (fun H locs hW hS => ?_)
  refine lv_aload_n hx hb d_R_join_22 rfl (lv_at hl 0 rfl) ?_
  refine va_get (D := G.1) (ci := 6) (C := "TwoPhaseCutsModel") (T := T_R) (N := 27) (v := .ref (L 14 0)) hx hb hts ui_R hown hK (hW.one (k := 0) (i := 0) (Nat.zero_lt_one)) 0 rfl rfl 13 (by decide) (hts _ tw_387) (fun _ h9 => h9) rfl d_R_join_23 ?_
  refine lv_iload_n hx hb d_R_join_26 rfl (lv_at hl 1 rfl) ?_
  refine lv_iconst (v := (0 : Int32)) hx hb d_R_join_27 (by decide) ?_
  refine mm_iast hx hb hK hI hW hS (k := 14) (i := 0) (Nat.zero_lt_one) (fun _ => rfl) (t0 := 0) rfl (mm_vp hg1) d_R_join_28 (fun H locs hW hS => ?_)
  refine lv_aload_n hx hb d_R_join_29 rfl (lv_at hl 0 rfl) ?_
  refine va_get (D := G.1) (ci := 6) (C := "TwoPhaseCutsModel") (T := T_R) (N := 27) (v := .ref (L 15 0)) hx hb hts ui_R hown hK (hW.one (k := 0) (i := 0) (Nat.zero_lt_one)) 0 rfl rfl 14 (by decide) (hts _ tw_388) (fun _ h9 => h9) rfl d_R_join_30 ?_
  refine lv_iload_n hx hb d_R_join_33 rfl (lv_at hl 1 rfl) ?_
  refine lv_iconst (v := (0 : Int32)) hx hb d_R_join_34 (by decide) ?_
  refine mm_iast hx hb hK hI hW hS (k := 15) (i := 0) (Nat.zero_lt_one) (fun _ => rfl) (t0 := 0) rfl (mm_vp hg1) d_R_join_35 (fun H locs hW hS => ?_)
  refine lv_aload_n hx hb d_R_join_36 rfl (lv_at hl 0 rfl) ?_
  refine va_get (D := G.1) (ci := 6) (C := "TwoPhaseCutsModel") (T := T_R) (N := 27) (v := .ref (L 16 0)) hx hb hts ui_R hown hK (hW.one (k := 0) (i := 0) (Nat.zero_lt_one)) 0 rfl rfl 15 (by decide) (hts _ tw_389) (fun _ h9 => h9) rfl d_R_join_37 ?_
  refine lv_iload_n hx hb d_R_join_40 rfl (lv_at hl 1 rfl) ?_
  refine lv_iconst (v := (0 : Int32)) hx hb d_R_join_41 (by decide) ?_
  refine mm_iast hx hb hK hI hW hS (k := 16) (i := 0) (Nat.zero_lt_one) (fun _ => rfl) (t0 := 0) rfl (mm_vp hg1) d_R_join_42 (fun H locs hW hS => ?_)
  refine lv_aload_n hx hb d_R_join_43 rfl (lv_at hl 0 rfl) ?_
  refine va_get (D := G.1) (ci := 6) (C := "TwoPhaseCutsModel") (T := T_R) (N := 27) (v := .ref (L 8 0)) hx hb hts ui_R hown hK (hW.one (k := 0) (i := 0) (Nat.zero_lt_one)) 0 rfl rfl 7 (by decide) (hts _ tw_381) (fun _ h9 => h9) rfl d_R_join_44 ?_
  refine lv_iload_n hx hb d_R_join_47 rfl (lv_at hl 1 rfl) ?_
  refine lv_aload_n hx hb d_R_join_48 rfl (lv_at hl 0 rfl) ?_
  refine va_get (D := G.1) (ci := 6) (C := "TwoPhaseCutsModel") (T := T_R) (N := 27) (v := .ref (L 2 0)) hx hb hts ui_R hown hK (hW.one (k := 0) (i := 0) (Nat.zero_lt_one)) 0 rfl rfl 1 (by decide) (hts _ tw_375) (fun _ h9 => h9) rfl d_R_join_49 ?_
  refine lv_iload_n hx hb d_R_join_52 rfl (lv_at hl 1 rfl) ?_
  refine va_iald (D := G.1) (cl := ec_cl) hx hb hK (hW.one (k := 2) (i := 0) (Nat.zero_lt_one)) 0 0 rfl rfl (mm_vp hg1) d_R_join_53 ?_
  refine mm_top (y := (σ 2 0 (Int32.toNatClampNeg a1))) rfl ?_
  refine mm_iast hx hb hK hI hW hS (k := 8) (i := 0) (Nat.zero_lt_one) (fun _ => rfl) (t0 := 0) rfl (mm_vp hg1) d_R_join_54 (fun H locs hW hS => ?_)
  refine lv_iconst (v := (0 : Int32)) hx hb d_R_join_55 (by decide) ?_
  refine lv_istore (lv' := [(5, .int (0 : Int32)), (0, .ref (L 0 0)), (1, .int a1), (2, .int a2), (3, .int a3), (4, .int a4)]) hx hb d_R_join_56 hl (by decide) rfl (fun ls hl => ?_)
  obtain ⟨u1, hu1, hf⟩ := mm_bind hf
  refine w_R_join_l58 l G L F n hI hC hK a1 a3 F (mm_st (mm_st (mm_st (mm_st (mm_st (mm_st (mm_st σ 11 0 (Int32.toNatClampNeg a1) a2) 12 0 (Int32.toNatClampNeg a1) a3) 13 0 (Int32.toNatClampNeg a1) a4) 14 0 (Int32.toNatClampNeg a1) (0 : Int32)) 15 0 (Int32.toNatClampNeg a1) (0 : Int32)) 16 0 (Int32.toNatClampNeg a1) (0 : Int32)) 8 0 (Int32.toNatClampNeg a1) (σ 2 0 (Int32.toNatClampNeg a1))) (0 : Int32) _ _ _ hu1 hW hS (lv_sub hl [1, 2, 4, 0] rfl) (fun H locs ls hW hS hl => ?_)
  refine lv_aload_n hx hb d_R_join_141 rfl (lv_at hl 0 rfl) ?_
  refine lv_iload_n hx hb d_R_join_142 rfl (lv_at hl 1 rfl) ?_
  obtain ⟨u2, hu2, hf⟩ := mm_bind hf
  refine mm_callv (va_runV (As := [.int a1]) (rest := []) hC (c_R_complete l G L F n hI u1 a1 hu2) (cwV 1 hts (tw_gV tw_536 tw_538 ts_29 tw_8 tw_539) rfl rfl rfl (by decide +kernel) ⟨Nat.le_of_ble_eq_true rfl, Nat.le_of_ble_eq_true rfl⟩) (mm_preV hK hW (k := 0) (i := 0) (Nat.zero_lt_one) rfl rfl) rfl rfl hl.1 rfl (lv_room (Nat.le_of_ble_eq_true rfl)) d_R_join_143 ⟨Nat.zero_le _, Nat.zero_le _⟩) hS (fun _ h => h) (fun H locs hW _ _ hS => ?_)
  obtain rfl := Option.some.inj hf
  exact W.vret hx hb hr (fun t ht hw => ⟨⟨(), rfl, trivial, (mm_back ht hw hW hK)⟩, hS.F ht⟩) hS.2.2 d_R_join_146
abbrev rm_R_concerned : Room := { frames := 1, cells := 0, slots := 0, locals := 25 }
set_option maxHeartbeats 4000000 in
set_option maxRecDepth 100000 in
theorem c_R_concerned (l : Launch) (G : ec_G) (L : mm_L) (F n : Nat) (hI : mm_I (er_cnt n) L) (σ : mm_M) (a1 : Int32) (a2 : Int32) {out : Int32} (hf : f_R_concerned F n σ a1 a2 = some out) :
    Met l y_R_concerned (Cond.code y_R_concerned b_R_concerned 4 (some .boolean) :: tw_tbl) rm_R_concerned (va_Pc [.ref (L 0 0), .int a1, .int a2] (mm_pre G.1 ec_cl (ec_T G) (er_cnt n) L (er_E G L n) σ))
      (va_Qi (fun r (_ : Unit) => r = out) (fun _ t => mm_pre G.1 ec_cl (ec_T G) (er_cnt n) L (er_E G L n) σ t) (mm_A (er_cnt n) L)) 0 0 (mm_A (er_cnt n) L) := by
  refine Met.ofW (cc := b_R_concerned) (maxL := 4) (ret := (some .boolean)) (by decide) rfl ?_
  intro p e s m args below meth c s₁ B hml hv
  obtain ⟨rfl, hW, hK⟩ := hv
  have hx := B.exec
  have hb := B.bytes
  have hr := B.returns
  have hts0 := atoms_spec (ws := Cond.code y_R_concerned b_R_concerned 4 (some .boolean) :: tw_tbl) B.pre
  have hts : ∀ w ∈ tw_tbl, w.before [.ref (L 0 0), .int a1, .int a2].toArray s = true := fun w h => hts0 w (List.mem_cons_of_mem _ h)
  clear hts0
  have hown : s.vm.findClass "TwoPhaseCutsModel" = some m.cls := findClass_of_methodNamed B.named
  have hlocks := B.notSynchronized
  have hC : CallFix p m c b_R_concerned 4 s [.ref (L 0 0), .int a1, .int a2].toArray tw_tbl "TwoPhaseCutsModel" := ⟨hx, hb, hml, hown, hts⟩
  have hS : va_S (mm_A (er_cnt n) L) s.heap s.heap [] := va_S.rf
  have hl := lv_entry ([.ref (L 0 0), .int a1, .int a2]) (n := 4) (Nat.le_of_ble_eq_true rfl)
  rw [lg_entry_eq]
  generalize (lg_sl ([.ref (L 0 0), .int a1, .int a2]) ++ List.replicate (4 - (lg_sl ([.ref (L 0 0), .int a1, .int a2])).length) Slot.unset).toArray = ls at hl ⊢
  have hl : lv_has ls 4 [(0, .ref (L 0 0)), (1, .int a1), (2, .int a2)] := hl
  have hW : mm_W G.1 ec_cl (er_cnt n) L (er_E G L n) σ s.heap := hW
  clear B
  show W p l e rm_R_concerned s m [.ref (L 0 0), .int a1, .int a2].toArray below meth c s.heap [] 0 0 (MQ below (va_Qi (fun r (_ : Unit) => r = out) (fun _ t => mm_pre G.1 ec_cl (ec_T G) (er_cnt n) L (er_E G L n) σ t) (mm_A (er_cnt n) L)) [.ref (L 0 0), .int a1, .int a2].toArray s 0 0 (mm_A (er_cnt n) L)) (F0 m 0 ls [])
  unfold f_R_concerned at hf
  refine lv_aload_n hx hb d_R_concerned_0 rfl (lv_at hl 0 rfl) ?_
  refine va_get (D := G.1) (ci := 6) (C := "TwoPhaseCutsModel") (T := T_R) (N := 27) (v := .ref (L 21 0)) hx hb hts ui_R hown hK (hW.one (k := 0) (i := 0) (Nat.zero_lt_one)) 0 rfl rfl 20 (by decide) (hts _ tw_394) (fun _ h9 => h9) rfl d_R_concerned_1 ?_
  refine lv_iload_n hx hb d_R_concerned_4 rfl (lv_at hl 2 rfl) ?_
  obtain ⟨hg1, hf⟩ := mm_guard hf
  refine va_iald (D := G.1) (cl := ec_cl) hx hb hK (hW.one (k := 21) (i := 0) (Nat.zero_lt_one)) 0 0 rfl rfl (mm_vp hg1) d_R_concerned_5 ?_
  refine mm_top (y := (σ 21 0 (Int32.toNatClampNeg a2))) rfl ?_
  refine lv_istore_n (lv' := [(3, .int (σ 21 0 (Int32.toNatClampNeg a2))), (0, .ref (L 0 0)), (1, .int a1), (2, .int a2)]) hx hb d_R_concerned_6 rfl hl (by decide) rfl (fun ls hl => ?_)
  refine lv_aload_n hx hb d_R_concerned_7 rfl (lv_at hl 1 rfl) ?_
  refine va_get (D := G.1) (ci := 6) (C := "TwoPhaseCutsModel") (T := T_R) (N := 27) (v := .ref (L 24 0)) hx hb hts ui_R hown hK (hW.one (k := 0) (i := 0) (Nat.zero_lt_one)) 0 rfl rfl 23 (by decide) (hts _ tw_397) (fun _ h9 => h9) rfl d_R_concerned_8 ?_
  refine lv_iload_n hx hb d_R_concerned_11 rfl (lv_at hl 3 rfl) ?_
  refine va_zald (D := G.1) (cl := ec_cl) hx hb hK (hW.one (k := 24) (i := 0) (Nat.zero_lt_one)) 0 1 rfl rfl (mm_vp hg1) d_R_concerned_12 ?_
  refine mm_top (y := (σ 24 0 (Int32.toNatClampNeg a2))) rfl ?_
  obtain ⟨u1, hu1, hf⟩ := mm_bind hf
  have jp1 : ∀ (H : Heap) (locs : List Loc) (ls : Array Slot), mm_W G.1 ec_cl (er_cnt n) L (er_E G L n) σ H → va_S (mm_A (er_cnt n) L) s.heap H locs → lv_has ls 4 [] → W p l e rm_R_concerned s m [.ref (L 0 0), .int a1, .int a2].toArray below meth c H locs 0 0 (MQ below (va_Qi (fun r (_ : Unit) => r = out) (fun _ t => mm_pre G.1 ec_cl (ec_T G) (er_cnt n) L (er_E G L n) σ t) (mm_A (er_cnt n) L)) [.ref (L 0 0), .int a1, .int a2].toArray s 0 0 (mm_A (er_cnt n) L)) (F0 m 71 ls [.int u1]) := by
    intro H locs ls hW hS hl
    obtain ⟨hz2, hf⟩ := mm_guard hf
    obtain rfl := Option.some.inj hf
    exact W.zret (v := u1) hx hb hr (mm_zn hz2) (fun t ht hw => ⟨⟨_, (), rfl, rfl, (mm_back ht hw hW hK)⟩, hS.F ht⟩) hS.2.2 d_R_concerned_71
  clear hf
  have hf := hu1
  clear hu1
  refine lv_if_eq (tgt := 45) hx hb d_R_concerned_13 (by decide) (fun hc => ?_) (fun hc => ?_)
  · rw [if_pos hc] at hf
    refine lv_aload_n hx hb d_R_concerned_45 rfl (lv_at hl 1 rfl) ?_
    refine va_get (D := G.1) (ci := 6) (C := "TwoPhaseCutsModel") (T := T_R) (N := 27) (v := .ref (L 25 0)) hx hb hts ui_R hown hK (hW.one (k := 0) (i := 0) (Nat.zero_lt_one)) 0 rfl rfl 24 (by decide) (hts _ tw_398) (fun _ h9 => h9) rfl d_R_concerned_46 ?_
    refine lv_iload_n hx hb d_R_concerned_49 rfl (lv_at hl 3 rfl) ?_
    refine va_iald (D := G.1) (cl := ec_cl) hx hb hK (hW.one (k := 25) (i := 0) (Nat.zero_lt_one)) 0 0 rfl rfl (mm_vp hg1) d_R_concerned_50 ?_
    refine mm_top (y := (σ 25 0 (Int32.toNatClampNeg a2))) rfl ?_
    refine lv_aload_n hx hb d_R_concerned_51 rfl (lv_at hl 1 rfl) ?_
    refine lv_iload_n hx hb d_R_concerned_52 rfl (lv_at hl 2 rfl) ?_
    refine lv_iload_n hx hb d_R_concerned_53 rfl (lv_at hl 0 rfl) ?_
    refine lv_aload_n hx hb d_R_concerned_54 rfl (lv_at hl 1 rfl) ?_
    refine va_get (D := G.1) (ci := 6) (C := "TwoPhaseCutsModel") (T := T_R) (N := 27) (v := .ref (L 7 0)) hx hb hts ui_R hown hK (hW.one (k := 0) (i := 0) (Nat.zero_lt_one)) 0 rfl rfl 6 (by decide) (hts _ tw_380) (fun _ h9 => h9) rfl d_R_concerned_55 ?_
    refine lv_iload_n hx hb d_R_concerned_58 rfl (lv_at hl 2 rfl) ?_
    obtain ⟨hg3, hf⟩ := mm_guard hf
    refine va_iald (D := G.1) (cl := ec_cl) hx hb hK (hW.one (k := 7) (i := 0) (Nat.zero_lt_one)) 0 0 rfl rfl (mm_vp hg3) d_R_concerned_59 ?_
    refine mm_top (y := (σ 7 0 (Int32.toNatClampNeg a1))) rfl ?_
    obtain ⟨u2, hu2, hf⟩ := mm_bind hf
    refine mm_calli (va_runV (As := [.int a1, .int (σ 21 0 (Int32.toNatClampNeg a2)), .int (σ 7 0 (Int32.toNatClampNeg a1))]) (rest := [.int (σ 25 0 (Int32.toNatClampNeg a2))]) hC (c_R_sentAt l G L F n hI σ a1 (σ 21 0 (Int32.toNatClampNeg a2)) (σ 7 0 (Int32.toNatClampNeg a1)) hu2) (cwV 3 hts (tw_gV tw_484 tw_486 ts_19 tw_8 tw_487) rfl rfl rfl (by decide +kernel) ⟨Nat.le_of_ble_eq_true rfl, Nat.le_of_ble_eq_true rfl⟩) (mm_preV hK hW (k := 0) (i := 0) (Nat.zero_lt_one) rfl rfl) rfl rfl hl.1 rfl (lv_room (Nat.le_of_ble_eq_true rfl)) d_R_concerned_60 ⟨Nat.zero_le _, Nat.zero_le _⟩) hS (fun _ h => h) (fun H locs hW _ _ hS => ?_)
    refine lv_icmp_le (tgt := 70) hx hb d_R_concerned_63 (by decide) (fun hc => ?_) (fun hc => ?_)
    · rw [if_pos hc] at hf
      refine lv_iconst (v := (0 : Int32)) hx hb d_R_concerned_70 (by decide) ?_
      obtain rfl := Option.some.inj hf
      exact jp1 _ _ _ hW hS (lv_sub hl [] rfl)
    · rw [if_neg hc] at hf
      refine lv_iconst (v := (1 : Int32)) hx hb d_R_concerned_66 (by decide) ?_
      refine lv_goto (tgt := 71) hx hb d_R_concerned_67 (by decide) ?_
      obtain rfl := Option.some.inj hf
      exact jp1 _ _ _ hW hS (lv_sub hl [] rfl)
  · rw [if_neg hc] at hf
    refine lv_aload_n hx hb d_R_concerned_16 rfl (lv_at hl 1 rfl) ?_
    refine lv_iload_n hx hb d_R_concerned_17 rfl (lv_at hl 2 rfl) ?_
    refine lv_iload_n hx hb d_R_concerned_18 rfl (lv_at hl 0 rfl) ?_
    refine lv_aload_n hx hb d_R_concerned_19 rfl (lv_at hl 1 rfl) ?_
    refine va_get (D := G.1) (ci := 6) (C := "TwoPhaseCutsModel") (T := T_R) (N := 27) (v := .ref (L 2 0)) hx hb hts ui_R hown hK (hW.one (k := 0) (i := 0) (Nat.zero_lt_one)) 0 rfl rfl 1 (by decide) (hts _ tw_375) (fun _ h9 => h9) rfl d_R_concerned_20 ?_
    refine lv_iload_n hx hb d_R_concerned_23 rfl (lv_at hl 2 rfl) ?_
    obtain ⟨hg4, hf⟩ := mm_guard hf
    refine va_iald (D := G.1) (cl := ec_cl) hx hb hK (hW.one (k := 2) (i := 0) (Nat.zero_lt_one)) 0 0 rfl rfl (mm_vp hg4) d_R_concerned_24 ?_
    refine mm_top (y := (σ 2 0 (Int32.toNatClampNeg a1))) rfl ?_
    obtain ⟨u3, hu3, hf⟩ := mm_bind hf
    refine mm_calli (va_runV (As := [.int a1, .int (σ 21 0 (Int32.toNatClampNeg a2)), .int (σ 2 0 (Int32.toNatClampNeg a1))]) (rest := []) hC (c_R_receivedAt l G L F n hI σ a1 (σ 21 0 (Int32.toNatClampNeg a2)) (σ 2 0 (Int32.toNatClampNeg a1)) hu3) (cwV 3 hts (tw_gV tw_520 tw_522 ts_25 tw_8 tw_523) rfl rfl rfl (by decide +kernel) ⟨Nat.le_of_ble_eq_true rfl, Nat.le_of_ble_eq_true rfl⟩) (mm_preV hK hW (k := 0) (i := 0) (Nat.zero_lt_one) rfl rfl) rfl rfl hl.1 rfl (lv_room (Nat.le_of_ble_eq_true rfl)) d_R_concerned_25 ⟨Nat.zero_le _, Nat.zero_le _⟩) hS (fun _ h => h) (fun H locs hW _ _ hS => ?_)
    refine lv_aload_n hx hb d_R_concerned_28 rfl (lv_at hl 1 rfl) ?_
    refine va_get (D := G.1) (ci := 6) (C := "TwoPhaseCutsModel") (T := T_R) (N := 27) (v := .ref (L 25 0)) hx hb hts ui_R hown hK (hW.one (k := 0) (i := 0) (Nat.zero_lt_one)) 0 rfl rfl 24 (by decide) (hts _ tw_398) (fun _ h9 => h9) rfl d_R_concerned_29 ?_
    refine lv_iload_n hx hb d_R_concerned_32 rfl (lv_at hl 3 rfl) ?_
    refine va_iald (D := G.1) (cl := ec_cl) hx hb hK (hW.one (k := 25) (i := 0) (Nat.zero_lt_one)) 0 0 rfl rfl (mm_vp hg1) d_R_concerned_33 ?_
    refine mm_top (y := (σ 25 0 (Int32.toNatClampNeg a2))) rfl ?_
    refine lv_icmp_le (tgt := 41) hx hb d_R_concerned_34 (by decide) (fun hc => ?_) (fun hc => ?_)
    · rw [if_pos hc] at hf
      refine lv_iconst (v := (0 : Int32)) hx hb d_R_concerned_41 (by decide) ?_
      refine lv_goto (tgt := 71) hx hb d_R_concerned_42 (by decide) ?_
      obtain rfl := Option.some.inj hf
      exact jp1 _ _ _ hW hS (lv_sub hl [] rfl)
    · rw [if_neg hc] at hf
      refine lv_iconst (v := (1 : Int32)) hx hb d_R_concerned_37 (by decide) ?_
      refine lv_goto (tgt := 71) hx hb d_R_concerned_38 (by decide) ?_
      obtain rfl := Option.some.inj hf
      exact jp1 _ _ _ hW hS (lv_sub hl [] rfl)
abbrev rm_R_request : Room := { frames := 5, cells := 0, slots := 0, locals := 119 }
set_option maxHeartbeats 4000000 in
set_option maxRecDepth 100000 in
theorem c_R_request (l : Launch) (G : ec_G) (L : mm_L) (F n : Nat) (hI : mm_I (er_cnt n) L) (σ : mm_M) (a1 : Int32) {out : mm_M} (hf : f_R_request F n σ a1 = some out) :
    Met l y_R_request (Cond.code y_R_request b_R_request 5 none :: tw_tbl) rm_R_request (va_Pc [.ref (L 0 0), .int a1] (mm_pre G.1 ec_cl (ec_T G) (er_cnt n) L (er_E G L n) σ))
      (va_Qv (fun (_ : Unit) => True) (fun _ t => mm_pre G.1 ec_cl (ec_T G) (er_cnt n) L (er_E G L n) out t) (mm_A (er_cnt n) L)) 0 0 (mm_A (er_cnt n) L) := by
  refine Met.ofW (cc := b_R_request) (maxL := 5) (ret := none) (by decide) rfl ?_
  intro p e s m args below meth c s₁ B hml hv
  obtain ⟨rfl, hW, hK⟩ := hv
  have hx := B.exec
  have hb := B.bytes
  have hr := B.returns
  have hts0 := atoms_spec (ws := Cond.code y_R_request b_R_request 5 none :: tw_tbl) B.pre
  have hts : ∀ w ∈ tw_tbl, w.before [.ref (L 0 0), .int a1].toArray s = true := fun w h => hts0 w (List.mem_cons_of_mem _ h)
  clear hts0
  have hown : s.vm.findClass "TwoPhaseCutsModel" = some m.cls := findClass_of_methodNamed B.named
  have hlocks := B.notSynchronized
  have hC : CallFix p m c b_R_request 5 s [.ref (L 0 0), .int a1].toArray tw_tbl "TwoPhaseCutsModel" := ⟨hx, hb, hml, hown, hts⟩
  have hS : va_S (mm_A (er_cnt n) L) s.heap s.heap [] := va_S.rf
  have hl := lv_entry ([.ref (L 0 0), .int a1]) (n := 5) (Nat.le_of_ble_eq_true rfl)
  rw [lg_entry_eq]
  generalize (lg_sl ([.ref (L 0 0), .int a1]) ++ List.replicate (5 - (lg_sl ([.ref (L 0 0), .int a1])).length) Slot.unset).toArray = ls at hl ⊢
  have hl : lv_has ls 5 [(0, .ref (L 0 0)), (1, .int a1)] := hl
  have hW : mm_W G.1 ec_cl (er_cnt n) L (er_E G L n) σ s.heap := hW
  clear B
  show W p l e rm_R_request s m [.ref (L 0 0), .int a1].toArray below meth c s.heap [] 0 0 (MQ below (va_Qv (fun (_ : Unit) => True) (fun _ t => mm_pre G.1 ec_cl (ec_T G) (er_cnt n) L (er_E G L n) out t) (mm_A (er_cnt n) L)) [.ref (L 0 0), .int a1].toArray s 0 0 (mm_A (er_cnt n) L)) (F0 m 0 ls [])
  unfold f_R_request at hf
  refine lv_aload_n hx hb d_R_request_0 rfl (lv_at hl 0 rfl) ?_
  refine va_get (D := G.1) (ci := 6) (C := "TwoPhaseCutsModel") (T := T_R) (N := 27) (v := .ref (L 22 0)) hx hb hts ui_R hown hK (hW.one (k := 0) (i := 0) (Nat.zero_lt_one)) 0 rfl rfl 21 (by decide) (hts _ tw_395) (fun _ h9 => h9) rfl d_R_request_1 ?_
  refine lv_iload_n hx hb d_R_request_4 rfl (lv_at hl 1 rfl) ?_
  obtain ⟨hg1, hf⟩ := mm_guard hf
  refine va_iald (D := G.1) (cl := ec_cl) hx hb hK (hW.one (k := 22) (i := 0) (Nat.zero_lt_one)) 0 0 rfl rfl (mm_vp hg1) d_R_request_5 ?_
  refine mm_top (y := (σ 22 0 (Int32.toNatClampNeg a1))) rfl ?_
  refine lv_istore_n (lv' := [(2, .int (σ 22 0 (Int32.toNatClampNeg a1))), (0, .ref (L 0 0)), (1, .int a1)]) hx hb d_R_request_6 rfl hl (by decide) rfl (fun ls hl => ?_)
  refine lv_aload_n hx hb d_R_request_7 rfl (lv_at hl 1 rfl) ?_
  refine va_get (D := G.1) (ci := 6) (C := "TwoPhaseCutsModel") (T := T_R) (N := 27) (v := .ref (L 11 0)) hx hb hts ui_R hown hK (hW.one (k := 0) (i := 0) (Nat.zero_lt_one)) 0 rfl rfl 10 (by decide) (hts _ tw_384) (fun _ h9 => h9) rfl d_R_request_8 ?_
  refine lv_iload_n hx hb d_R_request_11 rfl (lv_at hl 0 rfl) ?_
  obtain ⟨hg2, hf⟩ := mm_guard hf
  refine va_iald (D := G.1) (cl := ec_cl) hx hb hK (hW.one (k := 11) (i := 0) (Nat.zero_lt_one)) 0 0 rfl rfl (mm_vp hg2) d_R_request_12 ?_
  refine mm_top (y := (σ 11 0 (Int32.toNatClampNeg (σ 22 0 (Int32.toNatClampNeg a1))))) rfl ?_
  obtain ⟨u1, hu1, hf⟩ := mm_bind hf
  have jp1 : ∀ (H : Heap) (locs : List Loc) (ls : Array Slot), mm_W G.1 ec_cl (er_cnt n) L (er_E G L n) σ H → va_S (mm_A (er_cnt n) L) s.heap H locs → lv_has ls 5 [(0, .ref (L 0 0)), (1, .int a1), (2, .int (σ 22 0 (Int32.toNatClampNeg a1)))] → W p l e rm_R_request s m [.ref (L 0 0), .int a1].toArray below meth c H locs 0 0 (MQ below (va_Qv (fun (_ : Unit) => True) (fun _ t => mm_pre G.1 ec_cl (ec_T G) (er_cnt n) L (er_E G L n) out t) (mm_A (er_cnt n) L)) [.ref (L 0 0), .int a1].toArray s 0 0 (mm_A (er_cnt n) L)) (F0 m 39 ls [.int u1]) := by
    intro H locs ls hW hS hl
    refine lv_istore_n (lv' := [(3, .int u1), (0, .ref (L 0 0)), (1, .int a1), (2, .int (σ 22 0 (Int32.toNatClampNeg a1)))]) hx hb d_R_request_39 rfl hl (by decide) rfl (fun ls hl => ?_)
    refine lv_iload_n hx hb d_R_request_40 rfl (lv_at hl 0 rfl) ?_
    refine lv_if_eq (tgt := 68) hx hb d_R_request_41 (by decide) (fun hc => ?_) (fun hc => ?_)
    · rw [if_pos hc] at hf
      refine lv_aload_n hx hb d_R_request_68 rfl (lv_at hl 1 rfl) ?_
      refine va_get (D := G.1) (ci := 6) (C := "TwoPhaseCutsModel") (T := T_R) (N := 27) (v := .ref (L 11 0)) hx hb hts ui_R hown hK (hW.one (k := 0) (i := 0) (Nat.zero_lt_one)) 0 rfl rfl 10 (by decide) (hts _ tw_384) (fun _ h9 => h9) rfl d_R_request_69 ?_
      refine lv_iload_n hx hb d_R_request_72 rfl (lv_at hl 3 rfl) ?_
      refine va_iald (D := G.1) (cl := ec_cl) hx hb hK (hW.one (k := 11) (i := 0) (Nat.zero_lt_one)) 0 0 rfl rfl (mm_vp hg2) d_R_request_73 ?_
      refine mm_top (y := (σ 11 0 (Int32.toNatClampNeg (σ 22 0 (Int32.toNatClampNeg a1))))) rfl ?_
      refine lv_aload_n hx hb d_R_request_74 rfl (lv_at hl 1 rfl) ?_
      refine va_get (D := G.1) (ci := 6) (C := "TwoPhaseCutsModel") (T := T_R) (N := 27) (v := .ref (L 23 0)) hx hb hts ui_R hown hK (hW.one (k := 0) (i := 0) (Nat.zero_lt_one)) 0 rfl rfl 22 (by decide) (hts _ tw_396) (fun _ h9 => h9) rfl d_R_request_75 ?_
      refine lv_iload_n hx hb d_R_request_78 rfl (lv_at hl 2 rfl) ?_
      refine va_iald (D := G.1) (cl := ec_cl) hx hb hK (hW.one (k := 23) (i := 0) (Nat.zero_lt_one)) 0 0 rfl rfl (mm_vp hg1) d_R_request_79 ?_
      refine mm_top (y := (σ 23 0 (Int32.toNatClampNeg a1))) rfl ?_
      obtain ⟨u2, hu2, hf⟩ := mm_bind hf
      have jp2 : ∀ (H : Heap) (locs : List Loc) (ls : Array Slot), mm_W G.1 ec_cl (er_cnt n) L (er_E G L n) σ H → va_S (mm_A (er_cnt n) L) s.heap H locs → lv_has ls 5 [(0, .ref (L 0 0)), (1, .int a1), (2, .int (σ 22 0 (Int32.toNatClampNeg a1)))] → W p l e rm_R_request s m [.ref (L 0 0), .int a1].toArray below meth c H locs 0 0 (MQ below (va_Qv (fun (_ : Unit) => True) (fun _ t => mm_pre G.1 ec_cl (ec_T G) (er_cnt n) L (er_E G L n) out t) (mm_A (er_cnt n) L)) [.ref (L 0 0), .int a1].toArray s 0 0 (mm_A (er_cnt n) L)) (F0 m 115 ls [.int u2]) := by
        intro H locs ls hW hS hl
        refine lv_istore (lv' := [(4, .int u2), (0, .ref (L 0 0)), (1, .int a1), (2, .int (σ 22 0 (Int32.toNatClampNeg a1)))]) hx hb d_R_request_115 hl (by decide) rfl (fun ls hl => ?_)
        refine lv_aload_n hx hb d_R_request_117 rfl (lv_at hl 1 rfl) ?_
        refine lv_iconst (v := (1 : Int32)) hx hb d_R_request_118 (by decide) ?_
        refine lv_iload_n hx hb d_R_request_119 rfl (lv_at hl 3 rfl) ?_
        refine lv_aload_n hx hb d_R_request_120 rfl (lv_at hl 1 rfl) ?_
        refine va_get (D := G.1) (ci := 6) (C := "TwoPhaseCutsModel") (T := T_R) (N := 27) (v := .ref (L 21 0)) hx hb hts ui_R hown hK (hW.one (k := 0) (i := 0) (Nat.zero_lt_one)) 0 rfl rfl 20 (by decide) (hts _ tw_394) (fun _ h9 => h9) rfl d_R_request_121 ?_
        refine lv_iload_n hx hb d_R_request_124 rfl (lv_at hl 2 rfl) ?_
        refine va_iald (D := G.1) (cl := ec_cl) hx hb hK (hW.one (k := 21) (i := 0) (Nat.zero_lt_one)) 0 0 rfl rfl (mm_vp hg1) d_R_request_125 ?_
        refine mm_top (y := (σ 21 0 (Int32.toNatClampNeg a1))) rfl ?_
        refine lv_iload hx hb d_R_request_126 (lv_at hl 0 rfl) ?_
        obtain ⟨u3, hu3, hf⟩ := mm_bind hf
        have jp3 : ∀ (H : Heap) (locs : List Loc) (ls : Array Slot), mm_W G.1 ec_cl (er_cnt n) L (er_E G L n) σ H → va_S (mm_A (er_cnt n) L) s.heap H locs → lv_has ls 5 [(0, .ref (L 0 0)), (1, .int a1)] → W p l e rm_R_request s m [.ref (L 0 0), .int a1].toArray below meth c H locs 0 0 (MQ below (va_Qv (fun (_ : Unit) => True) (fun _ t => mm_pre G.1 ec_cl (ec_T G) (er_cnt n) L (er_E G L n) out t) (mm_A (er_cnt n) L)) [.ref (L 0 0), .int a1].toArray s 0 0 (mm_A (er_cnt n) L)) (F0 m 136 ls [.int u3, .int (σ 21 0 (Int32.toNatClampNeg a1)), .int (σ 22 0 (Int32.toNatClampNeg a1)), .int (1 : Int32), .ref (L 0 0)]) := by
          intro H locs ls hW hS hl
          obtain ⟨u4, hu4, hf⟩ := mm_bind hf
          refine mm_callv (va_runV (As := [.int (1 : Int32), .int (σ 22 0 (Int32.toNatClampNeg a1)), .int (σ 21 0 (Int32.toNatClampNeg a1)), .int u3]) (rest := []) hC (c_R_write l G L F n hI σ (1 : Int32) (σ 22 0 (Int32.toNatClampNeg a1)) (σ 21 0 (Int32.toNatClampNeg a1)) u3 hu4) (cwV 4 hts (tw_gV tw_532 tw_534 ts_28 tw_8 tw_535) rfl rfl rfl (by decide +kernel) ⟨Nat.le_of_ble_eq_true rfl, Nat.le_of_ble_eq_true rfl⟩) (mm_preV hK hW (k := 0) (i := 0) (Nat.zero_lt_one) rfl rfl) rfl rfl hl.1 rfl (lv_room (Nat.le_of_ble_eq_true rfl)) d_R_request_136 ⟨Nat.zero_le _, Nat.zero_le _⟩) hS (fun _ h => h) (fun H locs hW _ _ hS => ?_)
          refine lv_aload_n hx hb d_R_request_139 rfl (lv_at hl 0 rfl) ?_
          refine va_get (D := G.1) (ci := 6) (C := "TwoPhaseCutsModel") (T := T_R) (N := 27) (v := .ref (L 23 0)) hx hb hts ui_R hown hK (hW.one (k := 0) (i := 0) (Nat.zero_lt_one)) 0 rfl rfl 22 (by decide) (hts _ tw_396) (fun _ h9 => h9) rfl d_R_request_140 ?_
          refine lv_aload_n hx hb d_R_request_143 rfl (lv_at hl 0 rfl) ?_
          refine va_get (D := G.1) (ci := 6) (C := "TwoPhaseCutsModel") (T := T_R) (N := 27) (v := .int (u4 0 0 18)) hx hb hts ui_R hown hK (hW.one (k := 0) (i := 0) (Nat.zero_lt_one)) 0 rfl rfl 18 (by decide) (hts _ tw_392) (fun _ h9 => h9) rfl d_R_request_144 ?_
          refine lv_iconst (v := (1 : Int32)) hx hb d_R_request_147 (by decide) ?_
          refine lv_isub hx hb d_R_request_148 ?_
          refine lv_aload_n hx hb d_R_request_149 rfl (lv_at hl 0 rfl) ?_
          refine va_get (D := G.1) (ci := 6) (C := "TwoPhaseCutsModel") (T := T_R) (N := 27) (v := .ref (L 23 0)) hx hb hts ui_R hown hK (hW.one (k := 0) (i := 0) (Nat.zero_lt_one)) 0 rfl rfl 22 (by decide) (hts _ tw_396) (fun _ h9 => h9) rfl d_R_request_150 ?_
          refine lv_iload_n hx hb d_R_request_153 rfl (lv_at hl 1 rfl) ?_
          refine va_iald (D := G.1) (cl := ec_cl) hx hb hK (hW.one (k := 23) (i := 0) (Nat.zero_lt_one)) 0 0 rfl rfl (mm_vp hg1) d_R_request_154 ?_
          refine mm_top (y := (u4 23 0 (Int32.toNatClampNeg a1))) rfl ?_
          obtain ⟨hg3, hf⟩ := mm_guard hf
          refine mm_iast hx hb hK hI hW hS (k := 23) (i := 0) (Nat.zero_lt_one) (fun _ => rfl) (t0 := 0) rfl (mm_vp hg3) d_R_request_155 (fun H locs hW hS => ?_)
          refine lv_aload_n hx hb d_R_request_156 rfl (lv_at hl 0 rfl) ?_
          refine va_get (D := G.1) (ci := 6) (C := "TwoPhaseCutsModel") (T := T_R) (N := 27) (v := .ref (L 24 0)) hx hb hts ui_R hown hK (hW.one (k := 0) (i := 0) (Nat.zero_lt_one)) 0 rfl rfl 23 (by decide) (hts _ tw_397) (fun _ h9 => h9) rfl d_R_request_157 ?_
          refine lv_aload_n hx hb d_R_request_160 rfl (lv_at hl 0 rfl) ?_
          refine va_get (D := G.1) (ci := 6) (C := "TwoPhaseCutsModel") (T := T_R) (N := 27) (v := .int (u4 0 0 18)) hx hb hts ui_R hown hK (hW.one (k := 0) (i := 0) (Nat.zero_lt_one)) 0 rfl rfl 18 (by decide) (hts _ tw_392) (fun _ h9 => h9) rfl d_R_request_161 ?_
          refine lv_iconst (v := (1 : Int32)) hx hb d_R_request_164 (by decide) ?_
          refine lv_isub hx hb d_R_request_165 ?_
          refine lv_aload_n hx hb d_R_request_166 rfl (lv_at hl 0 rfl) ?_
          refine va_get (D := G.1) (ci := 6) (C := "TwoPhaseCutsModel") (T := T_R) (N := 27) (v := .ref (L 24 0)) hx hb hts ui_R hown hK (hW.one (k := 0) (i := 0) (Nat.zero_lt_one)) 0 rfl rfl 23 (by decide) (hts _ tw_397) (fun _ h9 => h9) rfl d_R_request_167 ?_
          refine lv_iload_n hx hb d_R_request_170 rfl (lv_at hl 1 rfl) ?_
          refine va_zald (D := G.1) (cl := ec_cl) hx hb hK (hW.one (k := 24) (i := 0) (Nat.zero_lt_one)) 0 1 rfl rfl (mm_vp hg1) d_R_request_171 ?_
          refine mm_top (y := (u4 24 0 (Int32.toNatClampNeg a1))) rfl ?_
          obtain ⟨hz4, hf⟩ := mm_guard hf
          refine mm_zast hx hb hK hI hW hS (k := 24) (i := 0) (Nat.zero_lt_one) (fun _ => rfl) (t0 := 1) rfl (mm_vp hg3) hz4 d_R_request_172 (fun H locs hW hS => ?_)
          obtain rfl := Option.some.inj hf
          exact W.vret hx hb hr (fun t ht hw => ⟨⟨(), rfl, trivial, (mm_back ht hw hW hK)⟩, hS.F ht⟩) hS.2.2 d_R_request_173
        clear hf
        have hf := hu3
        clear hu3
        refine lv_if_eq (tgt := 135) hx hb d_R_request_128 (by decide) (fun hc => ?_) (fun hc => ?_)
        · rw [if_pos hc] at hf
          refine lv_iconst (v := (0 : Int32)) hx hb d_R_request_135 (by decide) ?_
          obtain rfl := Option.some.inj hf
          exact jp3 _ _ _ hW hS (lv_sub hl [1, 2] rfl)
        · rw [if_neg hc] at hf
          refine lv_iconst (v := (1 : Int32)) hx hb d_R_request_131 (by decide) ?_
          refine lv_goto (tgt := 136) hx hb d_R_request_132 (by decide) ?_
          obtain rfl := Option.some.inj hf
          exact jp3 _ _ _ hW hS (lv_sub hl [1, 2] rfl)
      clear hf
      have hf := hu2
      clear hu2
      refine lv_icmp_eq (tgt := 110) hx hb d_R_request_80 (by decide) (fun hc => ?_) (fun hc => ?_)
      · rw [if_pos hc] at hf
        refine lv_iconst (v := (1 : Int32)) hx hb d_R_request_110 (by decide) ?_
        refine lv_goto (tgt := 115) hx hb d_R_request_111 (by decide) ?_
        obtain rfl := Option.some.inj hf
        exact jp2 _ _ _ hW hS (lv_sub hl [1, 2, 3] rfl)
      · rw [if_neg hc] at hf
        refine lv_aload_n hx hb d_R_request_83 rfl (lv_at hl 1 rfl) ?_
        refine va_get (D := G.1) (ci := 6) (C := "TwoPhaseCutsModel") (T := T_R) (N := 27) (v := .ref (L 11 0)) hx hb hts ui_R hown hK (hW.one (k := 0) (i := 0) (Nat.zero_lt_one)) 0 rfl rfl 10 (by decide) (hts _ tw_384) (fun _ h9 => h9) rfl d_R_request_84 ?_
        refine lv_iload_n hx hb d_R_request_87 rfl (lv_at hl 3 rfl) ?_
        refine va_iald (D := G.1) (cl := ec_cl) hx hb hK (hW.one (k := 11) (i := 0) (Nat.zero_lt_one)) 0 0 rfl rfl (mm_vp hg2) d_R_request_88 ?_
        refine mm_top (y := (σ 11 0 (Int32.toNatClampNeg (σ 22 0 (Int32.toNatClampNeg a1))))) rfl ?_
        refine lv_if_ne (tgt := 114) hx hb d_R_request_89 (by decide) (fun hc => ?_) (fun hc => ?_)
        · rw [if_neg hc] at hf
          refine lv_iconst (v := (0 : Int32)) hx hb d_R_request_114 (by decide) ?_
          obtain rfl := Option.some.inj hf
          exact jp2 _ _ _ hW hS (lv_sub hl [1, 2, 3] rfl)
        · rw [if_pos hc] at hf
          refine lv_aload_n hx hb d_R_request_92 rfl (lv_at hl 1 rfl) ?_
          refine va_get (D := G.1) (ci := 6) (C := "TwoPhaseCutsModel") (T := T_R) (N := 27) (v := .ref (L 10 0)) hx hb hts ui_R hown hK (hW.one (k := 0) (i := 0) (Nat.zero_lt_one)) 0 rfl rfl 9 (by decide) (hts _ tw_383) (fun _ h9 => h9) rfl d_R_request_93 ?_
          refine lv_iload_n hx hb d_R_request_96 rfl (lv_at hl 3 rfl) ?_
          refine va_zald (D := G.1) (cl := ec_cl) hx hb hK (hW.one (k := 10) (i := 0) (Nat.zero_lt_one)) 0 1 rfl rfl (mm_vp hg2) d_R_request_97 ?_
          refine mm_top (y := (σ 10 0 (Int32.toNatClampNeg (σ 22 0 (Int32.toNatClampNeg a1))))) rfl ?_
          refine lv_if_eq (tgt := 110) hx hb d_R_request_98 (by decide) (fun hc => ?_) (fun hc => ?_)
          · rw [if_pos hc] at hf
            refine lv_iconst (v := (1 : Int32)) hx hb d_R_request_110 (by decide) ?_
            refine lv_goto (tgt := 115) hx hb d_R_request_111 (by decide) ?_
            obtain rfl := Option.some.inj hf
            exact jp2 _ _ _ hW hS (lv_sub hl [1, 2, 3] rfl)
          · rw [if_neg hc] at hf
            refine lv_aload_n hx hb d_R_request_101 rfl (lv_at hl 1 rfl) ?_
            refine va_get (D := G.1) (ci := 6) (C := "TwoPhaseCutsModel") (T := T_R) (N := 27) (v := .ref (L 24 0)) hx hb hts ui_R hown hK (hW.one (k := 0) (i := 0) (Nat.zero_lt_one)) 0 rfl rfl 23 (by decide) (hts _ tw_397) (fun _ h9 => h9) rfl d_R_request_102 ?_
            refine lv_iload_n hx hb d_R_request_105 rfl (lv_at hl 2 rfl) ?_
            refine va_zald (D := G.1) (cl := ec_cl) hx hb hK (hW.one (k := 24) (i := 0) (Nat.zero_lt_one)) 0 1 rfl rfl (mm_vp hg1) d_R_request_106 ?_
            refine mm_top (y := (σ 24 0 (Int32.toNatClampNeg a1))) rfl ?_
            refine lv_if_eq (tgt := 114) hx hb d_R_request_107 (by decide) (fun hc => ?_) (fun hc => ?_)
            · rw [if_pos hc] at hf
              refine lv_iconst (v := (0 : Int32)) hx hb d_R_request_114 (by decide) ?_
              obtain rfl := Option.some.inj hf
              exact jp2 _ _ _ hW hS (lv_sub hl [1, 2, 3] rfl)
            · rw [if_neg hc] at hf
              refine lv_iconst (v := (1 : Int32)) hx hb d_R_request_110 (by decide) ?_
              refine lv_goto (tgt := 115) hx hb d_R_request_111 (by decide) ?_
              obtain rfl := Option.some.inj hf
              exact jp2 _ _ _ hW hS (lv_sub hl [1, 2, 3] rfl)
    · rw [if_neg hc] at hf
      refine lv_aload_n hx hb d_R_request_44 rfl (lv_at hl 1 rfl) ?_
      refine lv_iload_n hx hb d_R_request_45 rfl (lv_at hl 3 rfl) ?_
      refine lv_aload_n hx hb d_R_request_46 rfl (lv_at hl 1 rfl) ?_
      refine va_get (D := G.1) (ci := 6) (C := "TwoPhaseCutsModel") (T := T_R) (N := 27) (v := .ref (L 23 0)) hx hb hts ui_R hown hK (hW.one (k := 0) (i := 0) (Nat.zero_lt_one)) 0 rfl rfl 22 (by decide) (hts _ tw_396) (fun _ h9 => h9) rfl d_R_request_47 ?_
      refine lv_iload_n hx hb d_R_request_50 rfl (lv_at hl 2 rfl) ?_
      refine va_iald (D := G.1) (cl := ec_cl) hx hb hK (hW.one (k := 23) (i := 0) (Nat.zero_lt_one)) 0 0 rfl rfl (mm_vp hg1) d_R_request_51 ?_
      refine mm_top (y := (σ 23 0 (Int32.toNatClampNeg a1))) rfl ?_
      refine lv_aload_n hx hb d_R_request_52 rfl (lv_at hl 1 rfl) ?_
      refine va_get (D := G.1) (ci := 6) (C := "TwoPhaseCutsModel") (T := T_R) (N := 27) (v := .ref (L 24 0)) hx hb hts ui_R hown hK (hW.one (k := 0) (i := 0) (Nat.zero_lt_one)) 0 rfl rfl 23 (by decide) (hts _ tw_397) (fun _ h9 => h9) rfl d_R_request_53 ?_
      refine lv_iload_n hx hb d_R_request_56 rfl (lv_at hl 2 rfl) ?_
      refine va_zald (D := G.1) (cl := ec_cl) hx hb hK (hW.one (k := 24) (i := 0) (Nat.zero_lt_one)) 0 1 rfl rfl (mm_vp hg1) d_R_request_57 ?_
      refine mm_top (y := (σ 24 0 (Int32.toNatClampNeg a1))) rfl ?_
      refine lv_aload_n hx hb d_R_request_58 rfl (lv_at hl 1 rfl) ?_
      refine va_get (D := G.1) (ci := 6) (C := "TwoPhaseCutsModel") (T := T_R) (N := 27) (v := .ref (L 21 0)) hx hb hts ui_R hown hK (hW.one (k := 0) (i := 0) (Nat.zero_lt_one)) 0 rfl rfl 20 (by decide) (hts _ tw_394) (fun _ h9 => h9) rfl d_R_request_59 ?_
      refine lv_iload_n hx hb d_R_request_62 rfl (lv_at hl 2 rfl) ?_
      refine va_iald (D := G.1) (cl := ec_cl) hx hb hK (hW.one (k := 21) (i := 0) (Nat.zero_lt_one)) 0 0 rfl rfl (mm_vp hg1) d_R_request_63 ?_
      refine mm_top (y := (σ 21 0 (Int32.toNatClampNeg a1))) rfl ?_
      obtain ⟨u5, hu5, hf⟩ := mm_bind hf
      refine mm_callv (va_runV (As := [.int (σ 22 0 (Int32.toNatClampNeg a1)), .int (σ 23 0 (Int32.toNatClampNeg a1)), .int (σ 24 0 (Int32.toNatClampNeg a1)), .int (σ 21 0 (Int32.toNatClampNeg a1))]) (rest := []) hC (c_R_join l G L F n hI σ (σ 22 0 (Int32.toNatClampNeg a1)) (σ 23 0 (Int32.toNatClampNeg a1)) (σ 24 0 (Int32.toNatClampNeg a1)) (σ 21 0 (Int32.toNatClampNeg a1)) hu5) (cwV 4 hts (tw_gV tw_524 tw_526 ts_26 tw_8 tw_527) rfl rfl rfl (by decide +kernel) ⟨Nat.le_of_ble_eq_true rfl, Nat.le_of_ble_eq_true rfl⟩) (mm_preV hK hW (k := 0) (i := 0) (Nat.zero_lt_one) rfl rfl) rfl rfl hl.1 rfl (lv_room (Nat.le_of_ble_eq_true rfl)) d_R_request_64 ⟨Nat.zero_le _, Nat.zero_le _⟩) hS (fun _ h => h) (fun H locs hW _ _ hS => ?_)
      obtain rfl := Option.some.inj hf
      exact W.vret hx hb hr (fun t ht hw => ⟨⟨(), rfl, trivial, (mm_back ht hw hW hK)⟩, hS.F ht⟩) hS.2.2 d_R_request_67
  clear hf
  have hf := hu1
  clear hu1
  refine lv_if_ne (tgt := 38) hx hb d_R_request_13 (by decide) (fun hc => ?_) (fun hc => ?_)
  · rw [if_neg hc] at hf
    refine lv_iconst (v := (0 : Int32)) hx hb d_R_request_38 (by decide) ?_
    obtain rfl := Option.some.inj hf
    exact jp1 _ _ _ hW hS (lv_sub hl [1, 2, 0] rfl)
  · rw [if_pos hc] at hf
    refine lv_aload_n hx hb d_R_request_16 rfl (lv_at hl 1 rfl) ?_
    refine va_get (D := G.1) (ci := 6) (C := "TwoPhaseCutsModel") (T := T_R) (N := 27) (v := .ref (L 10 0)) hx hb hts ui_R hown hK (hW.one (k := 0) (i := 0) (Nat.zero_lt_one)) 0 rfl rfl 9 (by decide) (hts _ tw_383) (fun _ h9 => h9) rfl d_R_request_17 ?_
    refine lv_iload_n hx hb d_R_request_20 rfl (lv_at hl 0 rfl) ?_
    refine va_zald (D := G.1) (cl := ec_cl) hx hb hK (hW.one (k := 10) (i := 0) (Nat.zero_lt_one)) 0 1 rfl rfl (mm_vp hg2) d_R_request_21 ?_
    refine mm_top (y := (σ 10 0 (Int32.toNatClampNeg (σ 22 0 (Int32.toNatClampNeg a1))))) rfl ?_
    refine lv_if_ne (tgt := 38) hx hb d_R_request_22 (by decide) (fun hc => ?_) (fun hc => ?_)
    · rw [if_neg hc] at hf
      refine lv_iconst (v := (0 : Int32)) hx hb d_R_request_38 (by decide) ?_
      obtain rfl := Option.some.inj hf
      exact jp1 _ _ _ hW hS (lv_sub hl [1, 2, 0] rfl)
    · rw [if_pos hc] at hf
      refine lv_aload_n hx hb d_R_request_25 rfl (lv_at hl 1 rfl) ?_
      refine lv_iload_n hx hb d_R_request_26 rfl (lv_at hl 0 rfl) ?_
      refine lv_iload_n hx hb d_R_request_27 rfl (lv_at hl 2 rfl) ?_
      obtain ⟨u6, hu6, hf⟩ := mm_bind hf
      refine mm_calli (va_runV (As := [.int (σ 22 0 (Int32.toNatClampNeg a1)), .int a1]) (rest := []) hC (c_R_concerned l G L F n hI σ (σ 22 0 (Int32.toNatClampNeg a1)) a1 hu6) (cwV 2 hts (tw_gV tw_516 tw_518 ts_24 tw_8 tw_519) rfl rfl rfl (by decide +kernel) ⟨Nat.le_of_ble_eq_true rfl, Nat.le_of_ble_eq_true rfl⟩) (mm_preV hK hW (k := 0) (i := 0) (Nat.zero_lt_one) rfl rfl) rfl rfl hl.1 rfl (lv_room (Nat.le_of_ble_eq_true rfl)) d_R_request_28 ⟨Nat.zero_le _, Nat.zero_le _⟩) hS (fun _ h => h) (fun H locs hW _ _ hS => ?_)
      refine lv_if_eq (tgt := 38) hx hb d_R_request_31 (by decide) (fun hc => ?_) (fun hc => ?_)
      · rw [if_pos hc] at hf
        refine lv_iconst (v := (0 : Int32)) hx hb d_R_request_38 (by decide) ?_
        obtain rfl := Option.some.inj hf
        exact jp1 _ _ _ hW hS (lv_sub hl [1, 2, 0] rfl)
      · rw [if_neg hc] at hf
        refine lv_iconst (v := (1 : Int32)) hx hb d_R_request_34 (by decide) ?_
        refine lv_goto (tgt := 39) hx hb d_R_request_35 (by decide) ?_
        obtain rfl := Option.some.inj hf
        exact jp1 _ _ _ hW hS (lv_sub hl [1, 2, 0] rfl)
abbrev rm_R_deliver : Room := { frames := 6, cells := 0, slots := 0, locals := 143 }
set_option maxHeartbeats 4000000 in
set_option maxRecDepth 100000 in
theorem c_R_deliver (l : Launch) (G : ec_G) (L : mm_L) (F n : Nat) (hI : mm_I (er_cnt n) L) (σ : mm_M) (a1 : Int32) {out : mm_M} (hf : f_R_deliver F n σ a1 = some out) :
    Met l y_R_deliver (Cond.code y_R_deliver b_R_deliver 3 none :: tw_tbl) rm_R_deliver (va_Pc [.ref (L 0 0), .int a1] (mm_pre G.1 ec_cl (ec_T G) (er_cnt n) L (er_E G L n) σ))
      (va_Qv (fun (_ : Unit) => True) (fun _ t => mm_pre G.1 ec_cl (ec_T G) (er_cnt n) L (er_E G L n) out t) (mm_A (er_cnt n) L)) 0 0 (mm_A (er_cnt n) L) := by
  refine Met.ofW (cc := b_R_deliver) (maxL := 3) (ret := none) (by decide) rfl ?_
  intro p e s m args below meth c s₁ B hml hv
  obtain ⟨rfl, hW, hK⟩ := hv
  have hx := B.exec
  have hb := B.bytes
  have hr := B.returns
  have hts0 := atoms_spec (ws := Cond.code y_R_deliver b_R_deliver 3 none :: tw_tbl) B.pre
  have hts : ∀ w ∈ tw_tbl, w.before [.ref (L 0 0), .int a1].toArray s = true := fun w h => hts0 w (List.mem_cons_of_mem _ h)
  clear hts0
  have hown : s.vm.findClass "TwoPhaseCutsModel" = some m.cls := findClass_of_methodNamed B.named
  have hlocks := B.notSynchronized
  have hC : CallFix p m c b_R_deliver 3 s [.ref (L 0 0), .int a1].toArray tw_tbl "TwoPhaseCutsModel" := ⟨hx, hb, hml, hown, hts⟩
  have hS : va_S (mm_A (er_cnt n) L) s.heap s.heap [] := va_S.rf
  have hl := lv_entry ([.ref (L 0 0), .int a1]) (n := 3) (Nat.le_of_ble_eq_true rfl)
  rw [lg_entry_eq]
  generalize (lg_sl ([.ref (L 0 0), .int a1]) ++ List.replicate (3 - (lg_sl ([.ref (L 0 0), .int a1])).length) Slot.unset).toArray = ls at hl ⊢
  have hl : lv_has ls 3 [(0, .ref (L 0 0)), (1, .int a1)] := hl
  have hW : mm_W G.1 ec_cl (er_cnt n) L (er_E G L n) σ s.heap := hW
  clear B
  show W p l e rm_R_deliver s m [.ref (L 0 0), .int a1].toArray below meth c s.heap [] 0 0 (MQ below (va_Qv (fun (_ : Unit) => True) (fun _ t => mm_pre G.1 ec_cl (ec_T G) (er_cnt n) L (er_E G L n) out t) (mm_A (er_cnt n) L)) [.ref (L 0 0), .int a1].toArray s 0 0 (mm_A (er_cnt n) L)) (F0 m 0 ls [])
  unfold f_R_deliver at hf
  refine lv_aload_n hx hb d_R_deliver_0 rfl (lv_at hl 0 rfl) ?_
  refine va_get (D := G.1) (ci := 6) (C := "TwoPhaseCutsModel") (T := T_R) (N := 27) (v := .ref (L 22 0)) hx hb hts ui_R hown hK (hW.one (k := 0) (i := 0) (Nat.zero_lt_one)) 0 rfl rfl 21 (by decide) (hts _ tw_395) (fun _ h9 => h9) rfl d_R_deliver_1 ?_
  refine lv_iload_n hx hb d_R_deliver_4 rfl (lv_at hl 1 rfl) ?_
  obtain ⟨hg1, hf⟩ := mm_guard hf
  refine va_iald (D := G.1) (cl := ec_cl) hx hb hK (hW.one (k := 22) (i := 0) (Nat.zero_lt_one)) 0 0 rfl rfl (mm_vp hg1) d_R_deliver_5 ?_
  refine mm_top (y := (σ 22 0 (Int32.toNatClampNeg a1))) rfl ?_
  refine lv_istore_n (lv' := [(2, .int (σ 22 0 (Int32.toNatClampNeg a1))), (0, .ref (L 0 0)), (1, .int a1)]) hx hb d_R_deliver_6 rfl hl (by decide) rfl (fun ls hl => ?_)
  refine lv_aload_n hx hb d_R_deliver_7 rfl (lv_at hl 1 rfl) ?_
  refine va_get (D := G.1) (ci := 6) (C := "TwoPhaseCutsModel") (T := T_R) (N := 27) (v := .ref (L 20 0)) hx hb hts ui_R hown hK (hW.one (k := 0) (i := 0) (Nat.zero_lt_one)) 0 rfl rfl 19 (by decide) (hts _ tw_393) (fun _ h9 => h9) rfl d_R_deliver_8 ?_
  refine lv_iload_n hx hb d_R_deliver_11 rfl (lv_at hl 2 rfl) ?_
  refine va_iald (D := G.1) (cl := ec_cl) hx hb hK (hW.one (k := 20) (i := 0) (Nat.zero_lt_one)) 0 0 rfl rfl (mm_vp hg1) d_R_deliver_12 ?_
  refine mm_top (y := (σ 20 0 (Int32.toNatClampNeg a1))) rfl ?_
  obtain ⟨u1, hu1, hf⟩ := mm_bind hf
  have jp1 : ∀ (H : Heap) (locs : List Loc) (ls : Array Slot), mm_W G.1 ec_cl (er_cnt n) L (er_E G L n) u1 H → va_S (mm_A (er_cnt n) L) s.heap H locs → lv_has ls 3 [] → W p l e rm_R_deliver s m [.ref (L 0 0), .int a1].toArray below meth c H locs 0 0 (MQ below (va_Qv (fun (_ : Unit) => True) (fun _ t => mm_pre G.1 ec_cl (ec_T G) (er_cnt n) L (er_E G L n) out t) (mm_A (er_cnt n) L)) [.ref (L 0 0), .int a1].toArray s 0 0 (mm_A (er_cnt n) L)) (F0 m 125 ls []) := by
    intro H locs ls hW hS hl
    obtain rfl := Option.some.inj hf
    exact W.vret hx hb hr (fun t ht hw => ⟨⟨(), rfl, trivial, (mm_back ht hw hW hK)⟩, hS.F ht⟩) hS.2.2 d_R_deliver_125
  clear hf
  have hf := hu1
  clear hu1
  refine lv_if_ne (tgt := 24) hx hb d_R_deliver_13 (by decide) (fun hc => ?_) (fun hc => ?_)
  · rw [if_neg hc] at hf
    refine lv_aload_n hx hb d_R_deliver_24 rfl (lv_at hl 1 rfl) ?_
    refine va_get (D := G.1) (ci := 6) (C := "TwoPhaseCutsModel") (T := T_R) (N := 27) (v := .ref (L 20 0)) hx hb hts ui_R hown hK (hW.one (k := 0) (i := 0) (Nat.zero_lt_one)) 0 rfl rfl 19 (by decide) (hts _ tw_393) (fun _ h9 => h9) rfl d_R_deliver_25 ?_
    refine lv_iload_n hx hb d_R_deliver_28 rfl (lv_at hl 2 rfl) ?_
    refine va_iald (D := G.1) (cl := ec_cl) hx hb hK (hW.one (k := 20) (i := 0) (Nat.zero_lt_one)) 0 0 rfl rfl (mm_vp hg1) d_R_deliver_29 ?_
    refine mm_top (y := (σ 20 0 (Int32.toNatClampNeg a1))) rfl ?_
    refine lv_iconst (v := (1 : Int32)) hx hb d_R_deliver_30 (by decide) ?_
    refine lv_icmp_ne (tgt := 90) hx hb d_R_deliver_31 (by decide) (fun hc => ?_) (fun hc => ?_)
    · rw [if_neg hc] at hf
      refine lv_aload_n hx hb d_R_deliver_90 rfl (lv_at hl 1 rfl) ?_
      refine va_get (D := G.1) (ci := 6) (C := "TwoPhaseCutsModel") (T := T_R) (N := 27) (v := .ref (L 11 0)) hx hb hts ui_R hown hK (hW.one (k := 0) (i := 0) (Nat.zero_lt_one)) 0 rfl rfl 10 (by decide) (hts _ tw_384) (fun _ h9 => h9) rfl d_R_deliver_91 ?_
      refine lv_iload_n hx hb d_R_deliver_94 rfl (lv_at hl 0 rfl) ?_
      obtain ⟨hg2, hf⟩ := mm_guard hf
      refine va_iald (D := G.1) (cl := ec_cl) hx hb hK (hW.one (k := 11) (i := 0) (Nat.zero_lt_one)) 0 0 rfl rfl (mm_vp hg2) d_R_deliver_95 ?_
      refine mm_top (y := (σ 11 0 (Int32.toNatClampNeg (σ 22 0 (Int32.toNatClampNeg a1))))) rfl ?_
      refine lv_aload_n hx hb d_R_deliver_96 rfl (lv_at hl 1 rfl) ?_
      refine va_get (D := G.1) (ci := 6) (C := "TwoPhaseCutsModel") (T := T_R) (N := 27) (v := .ref (L 23 0)) hx hb hts ui_R hown hK (hW.one (k := 0) (i := 0) (Nat.zero_lt_one)) 0 rfl rfl 22 (by decide) (hts _ tw_396) (fun _ h9 => h9) rfl d_R_deliver_97 ?_
      refine lv_iload_n hx hb d_R_deliver_100 rfl (lv_at hl 2 rfl) ?_
      refine va_iald (D := G.1) (cl := ec_cl) hx hb hK (hW.one (k := 23) (i := 0) (Nat.zero_lt_one)) 0 0 rfl rfl (mm_vp hg1) d_R_deliver_101 ?_
      refine mm_top (y := (σ 23 0 (Int32.toNatClampNeg a1))) rfl ?_
      refine lv_icmp_ne (tgt := 125) hx hb d_R_deliver_102 (by decide) (fun hc => ?_) (fun hc => ?_)
      · rw [if_neg hc] at hf
        obtain rfl := Option.some.inj hf
        exact jp1 _ _ _ hW hS (lv_sub hl [] rfl)
      · rw [if_pos hc] at hf
        refine lv_aload_n hx hb d_R_deliver_105 rfl (lv_at hl 1 rfl) ?_
        refine lv_iload_n hx hb d_R_deliver_106 rfl (lv_at hl 0 rfl) ?_
        refine lv_aload_n hx hb d_R_deliver_107 rfl (lv_at hl 1 rfl) ?_
        refine va_get (D := G.1) (ci := 6) (C := "TwoPhaseCutsModel") (T := T_R) (N := 27) (v := .ref (L 25 0)) hx hb hts ui_R hown hK (hW.one (k := 0) (i := 0) (Nat.zero_lt_one)) 0 rfl rfl 24 (by decide) (hts _ tw_398) (fun _ h9 => h9) rfl d_R_deliver_108 ?_
        refine lv_iload_n hx hb d_R_deliver_111 rfl (lv_at hl 2 rfl) ?_
        refine va_iald (D := G.1) (cl := ec_cl) hx hb hK (hW.one (k := 25) (i := 0) (Nat.zero_lt_one)) 0 0 rfl rfl (mm_vp hg1) d_R_deliver_112 ?_
        refine mm_top (y := (σ 25 0 (Int32.toNatClampNeg a1))) rfl ?_
        refine lv_iconst (v := (1 : Int32)) hx hb d_R_deliver_113 (by decide) ?_
        obtain ⟨u2, hu2, hf⟩ := mm_bind hf
        have jp2 : ∀ (H : Heap) (locs : List Loc) (ls : Array Slot), mm_W G.1 ec_cl (er_cnt n) L (er_E G L n) σ H → va_S (mm_A (er_cnt n) L) s.heap H locs → lv_has ls 3 [] → W p l e rm_R_deliver s m [.ref (L 0 0), .int a1].toArray below meth c H locs 0 0 (MQ below (va_Qv (fun (_ : Unit) => True) (fun _ t => mm_pre G.1 ec_cl (ec_T G) (er_cnt n) L (er_E G L n) out t) (mm_A (er_cnt n) L)) [.ref (L 0 0), .int a1].toArray s 0 0 (mm_A (er_cnt n) L)) (F0 m 122 ls [.int u2, .int (σ 22 0 (Int32.toNatClampNeg a1)), .ref (L 0 0)]) := by
          intro H locs ls hW hS hl
          obtain ⟨u3, hu3, hf⟩ := mm_bind hf
          refine mm_callv (va_runV (As := [.int (σ 22 0 (Int32.toNatClampNeg a1)), .int u2]) (rest := []) hC (c_R_follow l G L F n hI σ (σ 22 0 (Int32.toNatClampNeg a1)) u2 hu3) (cwV 2 hts (tw_gV tw_540 tw_542 ts_30 tw_8 tw_543) rfl rfl rfl (by decide +kernel) ⟨Nat.le_of_ble_eq_true rfl, Nat.le_of_ble_eq_true rfl⟩) (mm_preV hK hW (k := 0) (i := 0) (Nat.zero_lt_one) rfl rfl) rfl rfl hl.1 rfl (lv_room (Nat.le_of_ble_eq_true rfl)) d_R_deliver_122 ⟨Nat.zero_le _, Nat.zero_le _⟩) hS (fun _ h => h) (fun H locs hW _ _ hS => ?_)
          obtain rfl := Option.some.inj hf
          exact jp1 _ _ _ hW hS (lv_sub hl [] rfl)
        clear hf
        have hf := hu2
        clear hu2
        refine lv_icmp_ne (tgt := 121) hx hb d_R_deliver_114 (by decide) (fun hc => ?_) (fun hc => ?_)
        · rw [if_neg hc] at hf
          refine lv_iconst (v := (0 : Int32)) hx hb d_R_deliver_121 (by decide) ?_
          obtain rfl := Option.some.inj hf
          exact jp2 _ _ _ hW hS (lv_sub hl [] rfl)
        · rw [if_pos hc] at hf
          refine lv_iconst (v := (1 : Int32)) hx hb d_R_deliver_117 (by decide) ?_
          refine lv_goto (tgt := 122) hx hb d_R_deliver_118 (by decide) ?_
          obtain rfl := Option.some.inj hf
          exact jp2 _ _ _ hW hS (lv_sub hl [] rfl)
    · rw [if_pos hc] at hf
      refine lv_aload_n hx hb d_R_deliver_34 rfl (lv_at hl 1 rfl) ?_
      refine va_get (D := G.1) (ci := 6) (C := "TwoPhaseCutsModel") (T := T_R) (N := 27) (v := .ref (L 15 0)) hx hb hts ui_R hown hK (hW.one (k := 0) (i := 0) (Nat.zero_lt_one)) 0 rfl rfl 14 (by decide) (hts _ tw_388) (fun _ h9 => h9) rfl d_R_deliver_35 ?_
      refine lv_iload_n hx hb d_R_deliver_38 rfl (lv_at hl 0 rfl) ?_
      refine lv_dup2_11 hx hb d_R_deliver_39 rfl rfl ?_
      obtain ⟨hg3, hf⟩ := mm_guard hf
      refine va_iald (D := G.1) (cl := ec_cl) hx hb hK (hW.one (k := 15) (i := 0) (Nat.zero_lt_one)) 0 0 rfl rfl (mm_vp hg3) d_R_deliver_40 ?_
      refine mm_top (y := (σ 15 0 (Int32.toNatClampNeg (σ 22 0 (Int32.toNatClampNeg a1))))) rfl ?_
      refine lv_iconst (v := (1 : Int32)) hx hb d_R_deliver_41 (by decide) ?_
      refine lv_aload_n hx hb d_R_deliver_42 rfl (lv_at hl 1 rfl) ?_
      refine va_get (D := G.1) (ci := 6) (C := "TwoPhaseCutsModel") (T := T_R) (N := 27) (v := .ref (L 21 0)) hx hb hts ui_R hown hK (hW.one (k := 0) (i := 0) (Nat.zero_lt_one)) 0 rfl rfl 20 (by decide) (hts _ tw_394) (fun _ h9 => h9) rfl d_R_deliver_43 ?_
      refine lv_iload_n hx hb d_R_deliver_46 rfl (lv_at hl 2 rfl) ?_
      refine va_iald (D := G.1) (cl := ec_cl) hx hb hK (hW.one (k := 21) (i := 0) (Nat.zero_lt_one)) 0 0 rfl rfl (mm_vp hg1) d_R_deliver_47 ?_
      refine mm_top (y := (σ 21 0 (Int32.toNatClampNeg a1))) rfl ?_
      refine lv_ishl hx hb d_R_deliver_48 ?_
      refine lv_ior hx hb d_R_deliver_49 ?_
      refine mm_iast hx hb hK hI hW hS (k := 15) (i := 0) (Nat.zero_lt_one) (fun _ => rfl) (t0 := 0) rfl (mm_vp hg3) d_R_deliver_50 (fun H locs hW hS => ?_)
      refine lv_aload_n hx hb d_R_deliver_51 rfl (lv_at hl 1 rfl) ?_
      refine va_get (D := G.1) (ci := 6) (C := "TwoPhaseCutsModel") (T := T_R) (N := 27) (v := .ref (L 16 0)) hx hb hts ui_R hown hK (hW.one (k := 0) (i := 0) (Nat.zero_lt_one)) 0 rfl rfl 15 (by decide) (hts _ tw_389) (fun _ h9 => h9) rfl d_R_deliver_52 ?_
      refine lv_iload_n hx hb d_R_deliver_55 rfl (lv_at hl 0 rfl) ?_
      refine lv_dup2_11 hx hb d_R_deliver_56 rfl rfl ?_
      refine va_iald (D := G.1) (cl := ec_cl) hx hb hK (hW.one (k := 16) (i := 0) (Nat.zero_lt_one)) 0 0 rfl rfl (mm_vp hg3) d_R_deliver_57 ?_
      refine mm_top (y := (σ 16 0 (Int32.toNatClampNeg (σ 22 0 (Int32.toNatClampNeg a1))))) rfl ?_
      refine lv_aload_n hx hb d_R_deliver_58 rfl (lv_at hl 1 rfl) ?_
      refine va_get (D := G.1) (ci := 6) (C := "TwoPhaseCutsModel") (T := T_R) (N := 27) (v := .ref (L 25 0)) hx hb hts ui_R hown hK (hW.one (k := 0) (i := 0) (Nat.zero_lt_one)) 0 rfl rfl 24 (by decide) (hts _ tw_398) (fun _ h9 => h9) rfl d_R_deliver_59 ?_
      refine lv_iload_n hx hb d_R_deliver_62 rfl (lv_at hl 2 rfl) ?_
      refine va_iald (D := G.1) (cl := ec_cl) hx hb hK (hW.one (k := 25) (i := 0) (Nat.zero_lt_one)) 0 0 rfl rfl (mm_vp hg1) d_R_deliver_63 ?_
      refine mm_top (y := (σ 25 0 (Int32.toNatClampNeg a1))) rfl ?_
      refine lv_iconst (v := (1 : Int32)) hx hb d_R_deliver_64 (by decide) ?_
      obtain ⟨u4, hu4, hf⟩ := mm_bind hf
      have jp3 : ∀ (H : Heap) (locs : List Loc) (ls : Array Slot), mm_W G.1 ec_cl (er_cnt n) L (er_E G L n) (mm_st σ 15 0 (Int32.toNatClampNeg (σ 22 0 (Int32.toNatClampNeg a1))) ((σ 15 0 (Int32.toNatClampNeg (σ 22 0 (Int32.toNatClampNeg a1)))) ||| ((1 : Int32) <<< ((σ 21 0 (Int32.toNatClampNeg a1)) &&& 31)))) H → va_S (mm_A (er_cnt n) L) s.heap H locs → lv_has ls 3 [(0, .ref (L 0 0)), (2, .int (σ 22 0 (Int32.toNatClampNeg a1)))] → W p l e rm_R_deliver s m [.ref (L 0 0), .int a1].toArray below meth c H locs 0 0 (MQ below (va_Qv (fun (_ : Unit) => True) (fun _ t => mm_pre G.1 ec_cl (ec_T G) (er_cnt n) L (er_E G L n) out t) (mm_A (er_cnt n) L)) [.ref (L 0 0), .int a1].toArray s 0 0 (mm_A (er_cnt n) L)) (F0 m 80 ls [.int u4, .int (σ 16 0 (Int32.toNatClampNeg (σ 22 0 (Int32.toNatClampNeg a1)))), .int (σ 22 0 (Int32.toNatClampNeg a1)), .ref (L 16 0)]) := by
        intro H locs ls hW hS hl
        refine lv_ior hx hb d_R_deliver_80 ?_
        refine mm_iast hx hb hK hI hW hS (k := 16) (i := 0) (Nat.zero_lt_one) (fun _ => rfl) (t0 := 0) rfl (mm_vp hg3) d_R_deliver_81 (fun H locs hW hS => ?_)
        refine lv_aload_n hx hb d_R_deliver_82 rfl (lv_at hl 0 rfl) ?_
        refine lv_iload_n hx hb d_R_deliver_83 rfl (lv_at hl 1 rfl) ?_
        obtain ⟨u5, hu5, hf⟩ := mm_bind hf
        refine mm_callv (va_runV (As := [.int (σ 22 0 (Int32.toNatClampNeg a1))]) (rest := []) hC (c_R_complete l G L F n hI (mm_st (mm_st σ 15 0 (Int32.toNatClampNeg (σ 22 0 (Int32.toNatClampNeg a1))) ((σ 15 0 (Int32.toNatClampNeg (σ 22 0 (Int32.toNatClampNeg a1)))) ||| ((1 : Int32) <<< ((σ 21 0 (Int32.toNatClampNeg a1)) &&& 31)))) 16 0 (Int32.toNatClampNeg (σ 22 0 (Int32.toNatClampNeg a1))) ((σ 16 0 (Int32.toNatClampNeg (σ 22 0 (Int32.toNatClampNeg a1)))) ||| u4)) (σ 22 0 (Int32.toNatClampNeg a1)) hu5) (cwV 1 hts (tw_gV tw_536 tw_538 ts_29 tw_8 tw_539) rfl rfl rfl (by decide +kernel) ⟨Nat.le_of_ble_eq_true rfl, Nat.le_of_ble_eq_true rfl⟩) (mm_preV hK hW (k := 0) (i := 0) (Nat.zero_lt_one) rfl rfl) rfl rfl hl.1 rfl (lv_room (Nat.le_of_ble_eq_true rfl)) d_R_deliver_84 ⟨Nat.zero_le _, Nat.zero_le _⟩) hS (fun _ h => h) (fun H locs hW _ _ hS => ?_)
        refine lv_goto (tgt := 125) hx hb d_R_deliver_87 (by decide) ?_
        obtain rfl := Option.some.inj hf
        exact jp1 _ _ _ hW hS (lv_sub hl [] rfl)
      clear hf
      have hf := hu4
      clear hu4
      refine lv_icmp_ne (tgt := 72) hx hb d_R_deliver_65 (by decide) (fun hc => ?_) (fun hc => ?_)
      · rw [if_neg hc] at hf
        refine lv_iconst (v := (1 : Int32)) hx hb d_R_deliver_72 (by decide) ?_
        refine lv_aload_n hx hb d_R_deliver_73 rfl (lv_at hl 1 rfl) ?_
        refine va_get (D := G.1) (ci := 6) (C := "TwoPhaseCutsModel") (T := T_R) (N := 27) (v := .ref (L 21 0)) hx hb hts ui_R hown hK (hW.one (k := 0) (i := 0) (Nat.zero_lt_one)) 0 rfl rfl 20 (by decide) (hts _ tw_394) (fun _ h9 => h9) rfl d_R_deliver_74 ?_
        refine lv_iload_n hx hb d_R_deliver_77 rfl (lv_at hl 2 rfl) ?_
        refine va_iald (D := G.1) (cl := ec_cl) hx hb hK (hW.one (k := 21) (i := 0) (Nat.zero_lt_one)) 0 0 rfl rfl (mm_vp hg1) d_R_deliver_78 ?_
        refine mm_top (y := (σ 21 0 (Int32.toNatClampNeg a1))) rfl ?_
        refine lv_ishl hx hb d_R_deliver_79 ?_
        obtain rfl := Option.some.inj hf
        exact jp3 _ _ _ hW hS (lv_sub hl [1, 0] rfl)
      · rw [if_pos hc] at hf
        refine lv_iconst (v := (0 : Int32)) hx hb d_R_deliver_68 (by decide) ?_
        refine lv_goto (tgt := 80) hx hb d_R_deliver_69 (by decide) ?_
        obtain rfl := Option.some.inj hf
        exact jp3 _ _ _ hW hS (lv_sub hl [1, 0] rfl)
  · rw [if_pos hc] at hf
    refine lv_aload_n hx hb d_R_deliver_16 rfl (lv_at hl 1 rfl) ?_
    refine lv_iload_n hx hb d_R_deliver_17 rfl (lv_at hl 2 rfl) ?_
    obtain ⟨u6, hu6, hf⟩ := mm_bind hf
    refine mm_callv (va_runV (As := [.int a1]) (rest := []) hC (c_R_request l G L F n hI σ a1 hu6) (cwV 1 hts (tw_gV tw_512 tw_514 ts_23 tw_8 tw_515) rfl rfl rfl (by decide +kernel) ⟨Nat.le_of_ble_eq_true rfl, Nat.le_of_ble_eq_true rfl⟩) (mm_preV hK hW (k := 0) (i := 0) (Nat.zero_lt_one) rfl rfl) rfl rfl hl.1 rfl (lv_room (Nat.le_of_ble_eq_true rfl)) d_R_deliver_18 ⟨Nat.zero_le _, Nat.zero_le _⟩) hS (fun _ h => h) (fun H locs hW _ _ hS => ?_)
    refine lv_goto (tgt := 125) hx hb d_R_deliver_21 (by decide) ?_
    obtain rfl := Option.some.inj hf
    exact jp1 _ _ _ hW hS (lv_sub hl [] rfl)
abbrev rm_R_tick : Room := { frames := 7, cells := 0, slots := 0, locals := 165 }
set_option maxHeartbeats 4000000 in
set_option maxRecDepth 100000 in
theorem w_R_tick_l7 (l : Launch) (G : ec_G) (L : mm_L) {p : Program} {e : Env} {s : State} {m : MethodId} {args : Array Value} {below : List Frame} {meth : Method} {c : Code} {H0 : Heap} {Q : State → Prop} (F n : Nat) (hI : mm_I (er_cnt n) L) (hC : CallFix p m c b_R_tick 3 s args tw_tbl "TwoPhaseCutsModel") (hK : va_K G.1 ec_cl (ec_T G) s) (x1 : Int32) {out : mm_M} :
    ∀ (K : Nat) (σ : mm_M) (v2 : Int32) (H : Heap) (locs : List Loc) (ls : Array Slot), f_R_tick_l7 F n x1 K σ v2 = some out → mm_W G.1 ec_cl (er_cnt n) L (er_E G L n) σ H → va_S (mm_A (er_cnt n) L) H0 H locs → lv_has ls 3 [(0, .ref (L 0 0)), (1, .int x1), (2, .int v2)] →
    (∀ (H : Heap) (locs : List Loc) (ls : Array Slot), mm_W G.1 ec_cl (er_cnt n) L (er_E G L n) out H → va_S (mm_A (er_cnt n) L) H0 H locs → lv_has ls 3 [(0, .ref (L 0 0)), (1, .int x1)] → W p l e rm_R_tick s m args below meth c H locs 0 0 Q (F0 m 23 ls [])) →
    W p l e rm_R_tick s m args below meth c H locs 0 0 Q (F0 m 7 ls []) := by
  obtain ⟨hx, hb, hml, hown, hts⟩ := id hC
  intro K
  induction K with
  | zero =>
    intro σ v2 H locs ls hf
    simp [f_R_tick_l7] at hf
  | succ K ih =>
    intro σ v2 H locs ls hf hW hS hl kx
    rw [f_R_tick_l7] at hf
    refine lv_iload_n hx hb d_R_tick_7 rfl (lv_at hl 2 rfl) ?_
    refine lv_iload_n hx hb d_R_tick_8 rfl (lv_at hl 1 rfl) ?_
    refine lv_icmp_ge (tgt := 23) hx hb d_R_tick_9 (by decide) (fun hc => ?_) (fun hc => ?_)
    · rw [if_pos hc] at hf
      obtain rfl := Option.some.inj hf
      exact kx _ _ _ hW hS (lv_sub hl [0, 1] rfl)
    · rw [if_neg hc] at hf
      refine lv_aload_n hx hb d_R_tick_12 rfl (lv_at hl 0 rfl) ?_
      refine lv_iload_n hx hb d_R_tick_13 rfl (lv_at hl 2 rfl) ?_
      obtain ⟨u1, hu1, hf⟩ := mm_bind hf
      refine mm_callv (va_runV (As := [.int v2]) (rest := []) hC (c_R_deliver l G L F n hI σ v2 hu1) (cwV 1 hts (tw_gV tw_508 tw_510 ts_22 tw_8 tw_511) rfl rfl rfl (by decide +kernel) ⟨Nat.le_of_ble_eq_true rfl, Nat.le_of_ble_eq_true rfl⟩) (mm_preV hK hW (k := 0) (i := 0) (Nat.zero_lt_one) rfl rfl) rfl rfl hl.1 rfl (lv_room (Nat.le_of_ble_eq_true rfl)) d_R_tick_14 ⟨Nat.zero_le _, Nat.zero_le _⟩) hS (fun _ h => h) (fun H locs hW _ _ hS => ?_)
      refine lv_iinc (v := (v2 + (1 : Int32))) (lv' := [(2, .int (v2 + (1 : Int32))), (0, .ref (L 0 0)), (1, .int x1)]) hx hb d_R_tick_17 hl (k := 2) rfl (mm_inc _) (by decide) rfl (fun ls hl => ?_)
      refine lv_goto (tgt := 7) hx hb d_R_tick_20 (by decide) ?_
      exact ih _ _ _ _ _ hf hW hS (lv_sub hl [1, 2, 0] rfl) kx
set_option maxHeartbeats 4000000 in
set_option maxRecDepth 100000 in
theorem w_R_tick_l35 (l : Launch) (G : ec_G) (L : mm_L) {p : Program} {e : Env} {s : State} {m : MethodId} {args : Array Value} {below : List Frame} {meth : Method} {c : Code} {H0 : Heap} {Q : State → Prop} (F n : Nat) (hI : mm_I (er_cnt n) L) (hC : CallFix p m c b_R_tick 3 s args tw_tbl "TwoPhaseCutsModel") (hK : va_K G.1 ec_cl (ec_T G) s) (x1 : Int32) {out : mm_M} :
    ∀ (K : Nat) (σ : mm_M) (v2 : Int32) (H : Heap) (locs : List Loc) (ls : Array Slot), f_R_tick_l35 F n x1 K σ v2 = some out → mm_W G.1 ec_cl (er_cnt n) L (er_E G L n) σ H → va_S (mm_A (er_cnt n) L) H0 H locs → lv_has ls 3 [(0, .ref (L 0 0)), (1, .int x1), (2, .int v2)] →
    (∀ (H : Heap) (locs : List Loc) (ls : Array Slot), mm_W G.1 ec_cl (er_cnt n) L (er_E G L n) out H → va_S (mm_A (er_cnt n) L) H0 H locs → lv_has ls 3 [(1, .int x1)] → W p l e rm_R_tick s m args below meth c H locs 0 0 Q (F0 m 133 ls [])) →
    W p l e rm_R_tick s m args below meth c H locs 0 0 Q (F0 m 35 ls []) := by
  obtain ⟨hx, hb, hml, hown, hts⟩ := id hC
  intro K
  induction K with
  | zero =>
    intro σ v2 H locs ls hf
    simp [f_R_tick_l35] at hf
  | succ K ih =>
    intro σ v2 H locs ls hf hW hS hl kx
    rw [f_R_tick_l35] at hf
    refine lv_iload_n hx hb d_R_tick_35 rfl (lv_at hl 2 rfl) ?_
    refine lv_aload_n hx hb d_R_tick_36 rfl (lv_at hl 0 rfl) ?_
    refine va_get (D := G.1) (ci := 6) (C := "TwoPhaseCutsModel") (T := T_R) (N := 27) (v := .int (σ 0 0 18)) hx hb hts ui_R hown hK (hW.one (k := 0) (i := 0) (Nat.zero_lt_one)) 0 rfl rfl 18 (by decide) (hts _ tw_392) (fun _ h9 => h9) rfl d_R_tick_37 ?_
    refine lv_icmp_ge (tgt := 133) hx hb d_R_tick_40 (by decide) (fun hc => ?_) (fun hc => ?_)
    · rw [if_pos hc] at hf
      obtain rfl := Option.some.inj hf
      exact kx _ _ _ hW hS (lv_sub hl [1] rfl)
    · rw [if_neg hc] at hf
      refine lv_aload_n hx hb d_R_tick_43 rfl (lv_at hl 0 rfl) ?_
      refine va_get (D := G.1) (ci := 6) (C := "TwoPhaseCutsModel") (T := T_R) (N := 27) (v := .ref (L 20 0)) hx hb hts ui_R hown hK (hW.one (k := 0) (i := 0) (Nat.zero_lt_one)) 0 rfl rfl 19 (by decide) (hts _ tw_393) (fun _ h9 => h9) rfl d_R_tick_44 ?_
      refine lv_iload_n hx hb d_R_tick_47 rfl (lv_at hl 2 rfl) ?_
      refine lv_aload_n hx hb d_R_tick_48 rfl (lv_at hl 0 rfl) ?_
      refine va_get (D := G.1) (ci := 6) (C := "TwoPhaseCutsModel") (T := T_R) (N := 27) (v := .ref (L 20 0)) hx hb hts ui_R hown hK (hW.one (k := 0) (i := 0) (Nat.zero_lt_one)) 0 rfl rfl 19 (by decide) (hts _ tw_393) (fun _ h9 => h9) rfl d_R_tick_49 ?_
      refine lv_iload_n hx hb d_R_tick_52 rfl (lv_at hl 2 rfl) ?_
      refine lv_iload_n hx hb d_R_tick_53 rfl (lv_at hl 1 rfl) ?_
      refine lv_iadd hx hb d_R_tick_54 ?_
      obtain ⟨hg1, hf⟩ := mm_guard hf
      refine va_iald (D := G.1) (cl := ec_cl) hx hb hK (hW.one (k := 20) (i := 0) (Nat.zero_lt_one)) 0 0 rfl rfl (mm_vp hg1) d_R_tick_55 ?_
      refine mm_top (y := (σ 20 0 (Int32.toNatClampNeg (v2 + x1)))) rfl ?_
      obtain ⟨hg2, hf⟩ := mm_guard hf
      refine mm_iast hx hb hK hI hW hS (k := 20) (i := 0) (Nat.zero_lt_one) (fun _ => rfl) (t0 := 0) rfl (mm_vp hg2) d_R_tick_56 (fun H locs hW hS => ?_)
      refine lv_aload_n hx hb d_R_tick_57 rfl (lv_at hl 0 rfl) ?_
      refine va_get (D := G.1) (ci := 6) (C := "TwoPhaseCutsModel") (T := T_R) (N := 27) (v := .ref (L 21 0)) hx hb hts ui_R hown hK (hW.one (k := 0) (i := 0) (Nat.zero_lt_one)) 0 rfl rfl 20 (by decide) (hts _ tw_394) (fun _ h9 => h9) rfl d_R_tick_58 ?_
      refine lv_iload_n hx hb d_R_tick_61 rfl (lv_at hl 2 rfl) ?_
      refine lv_aload_n hx hb d_R_tick_62 rfl (lv_at hl 0 rfl) ?_
      refine va_get (D := G.1) (ci := 6) (C := "TwoPhaseCutsModel") (T := T_R) (N := 27) (v := .ref (L 21 0)) hx hb hts ui_R hown hK (hW.one (k := 0) (i := 0) (Nat.zero_lt_one)) 0 rfl rfl 20 (by decide) (hts _ tw_394) (fun _ h9 => h9) rfl d_R_tick_63 ?_
      refine lv_iload_n hx hb d_R_tick_66 rfl (lv_at hl 2 rfl) ?_
      refine lv_iload_n hx hb d_R_tick_67 rfl (lv_at hl 1 rfl) ?_
      refine lv_iadd hx hb d_R_tick_68 ?_
      refine va_iald (D := G.1) (cl := ec_cl) hx hb hK (hW.one (k := 21) (i := 0) (Nat.zero_lt_one)) 0 0 rfl rfl (mm_vp hg1) d_R_tick_69 ?_
      refine mm_top (y := (σ 21 0 (Int32.toNatClampNeg (v2 + x1)))) rfl ?_
      refine mm_iast hx hb hK hI hW hS (k := 21) (i := 0) (Nat.zero_lt_one) (fun _ => rfl) (t0 := 0) rfl (mm_vp hg2) d_R_tick_70 (fun H locs hW hS => ?_)
      refine lv_aload_n hx hb d_R_tick_71 rfl (lv_at hl 0 rfl) ?_
      refine va_get (D := G.1) (ci := 6) (C := "TwoPhaseCutsModel") (T := T_R) (N := 27) (v := .ref (L 22 0)) hx hb hts ui_R hown hK (hW.one (k := 0) (i := 0) (Nat.zero_lt_one)) 0 rfl rfl 21 (by decide) (hts _ tw_395) (fun _ h9 => h9) rfl d_R_tick_72 ?_
      refine lv_iload_n hx hb d_R_tick_75 rfl (lv_at hl 2 rfl) ?_
      refine lv_aload_n hx hb d_R_tick_76 rfl (lv_at hl 0 rfl) ?_
      refine va_get (D := G.1) (ci := 6) (C := "TwoPhaseCutsModel") (T := T_R) (N := 27) (v := .ref (L 22 0)) hx hb hts ui_R hown hK (hW.one (k := 0) (i := 0) (Nat.zero_lt_one)) 0 rfl rfl 21 (by decide) (hts _ tw_395) (fun _ h9 => h9) rfl d_R_tick_77 ?_
      refine lv_iload_n hx hb d_R_tick_80 rfl (lv_at hl 2 rfl) ?_
      refine lv_iload_n hx hb d_R_tick_81 rfl (lv_at hl 1 rfl) ?_
      refine lv_iadd hx hb d_R_tick_82 ?_
      refine va_iald (D := G.1) (cl := ec_cl) hx hb hK (hW.one (k := 22) (i := 0) (Nat.zero_lt_one)) 0 0 rfl rfl (mm_vp hg1) d_R_tick_83 ?_
      refine mm_top (y := (σ 22 0 (Int32.toNatClampNeg (v2 + x1)))) rfl ?_
      refine mm_iast hx hb hK hI hW hS (k := 22) (i := 0) (Nat.zero_lt_one) (fun _ => rfl) (t0 := 0) rfl (mm_vp hg2) d_R_tick_84 (fun H locs hW hS => ?_)
      refine lv_aload_n hx hb d_R_tick_85 rfl (lv_at hl 0 rfl) ?_
      refine va_get (D := G.1) (ci := 6) (C := "TwoPhaseCutsModel") (T := T_R) (N := 27) (v := .ref (L 23 0)) hx hb hts ui_R hown hK (hW.one (k := 0) (i := 0) (Nat.zero_lt_one)) 0 rfl rfl 22 (by decide) (hts _ tw_396) (fun _ h9 => h9) rfl d_R_tick_86 ?_
      refine lv_iload_n hx hb d_R_tick_89 rfl (lv_at hl 2 rfl) ?_
      refine lv_aload_n hx hb d_R_tick_90 rfl (lv_at hl 0 rfl) ?_
      refine va_get (D := G.1) (ci := 6) (C := "TwoPhaseCutsModel") (T := T_R) (N := 27) (v := .ref (L 23 0)) hx hb hts ui_R hown hK (hW.one (k := 0) (i := 0) (Nat.zero_lt_one)) 0 rfl rfl 22 (by decide) (hts _ tw_396) (fun _ h9 => h9) rfl d_R_tick_91 ?_
      refine lv_iload_n hx hb d_R_tick_94 rfl (lv_at hl 2 rfl) ?_
      refine lv_iload_n hx hb d_R_tick_95 rfl (lv_at hl 1 rfl) ?_
      refine lv_iadd hx hb d_R_tick_96 ?_
      refine va_iald (D := G.1) (cl := ec_cl) hx hb hK (hW.one (k := 23) (i := 0) (Nat.zero_lt_one)) 0 0 rfl rfl (mm_vp hg1) d_R_tick_97 ?_
      refine mm_top (y := (σ 23 0 (Int32.toNatClampNeg (v2 + x1)))) rfl ?_
      refine mm_iast hx hb hK hI hW hS (k := 23) (i := 0) (Nat.zero_lt_one) (fun _ => rfl) (t0 := 0) rfl (mm_vp hg2) d_R_tick_98 (fun H locs hW hS => ?_)
      refine lv_aload_n hx hb d_R_tick_99 rfl (lv_at hl 0 rfl) ?_
      refine va_get (D := G.1) (ci := 6) (C := "TwoPhaseCutsModel") (T := T_R) (N := 27) (v := .ref (L 24 0)) hx hb hts ui_R hown hK (hW.one (k := 0) (i := 0) (Nat.zero_lt_one)) 0 rfl rfl 23 (by decide) (hts _ tw_397) (fun _ h9 => h9) rfl d_R_tick_100 ?_
      refine lv_iload_n hx hb d_R_tick_103 rfl (lv_at hl 2 rfl) ?_
      refine lv_aload_n hx hb d_R_tick_104 rfl (lv_at hl 0 rfl) ?_
      refine va_get (D := G.1) (ci := 6) (C := "TwoPhaseCutsModel") (T := T_R) (N := 27) (v := .ref (L 24 0)) hx hb hts ui_R hown hK (hW.one (k := 0) (i := 0) (Nat.zero_lt_one)) 0 rfl rfl 23 (by decide) (hts _ tw_397) (fun _ h9 => h9) rfl d_R_tick_105 ?_
      refine lv_iload_n hx hb d_R_tick_108 rfl (lv_at hl 2 rfl) ?_
      refine lv_iload_n hx hb d_R_tick_109 rfl (lv_at hl 1 rfl) ?_
      refine lv_iadd hx hb d_R_tick_110 ?_
      refine va_zald (D := G.1) (cl := ec_cl) hx hb hK (hW.one (k := 24) (i := 0) (Nat.zero_lt_one)) 0 1 rfl rfl (mm_vp hg1) d_R_tick_111 ?_
      refine mm_top (y := (σ 24 0 (Int32.toNatClampNeg (v2 + x1)))) rfl ?_
      obtain ⟨hz3, hf⟩ := mm_guard hf
      refine mm_zast hx hb hK hI hW hS (k := 24) (i := 0) (Nat.zero_lt_one) (fun _ => rfl) (t0 := 1) rfl (mm_vp hg2) hz3 d_R_tick_112 (fun H locs hW hS => ?_)
      refine lv_aload_n hx hb d_R_tick_113 rfl (lv_at hl 0 rfl) ?_
      refine va_get (D := G.1) (ci := 6) (C := "TwoPhaseCutsModel") (T := T_R) (N := 27) (v := .ref (L 25 0)) hx hb hts ui_R hown hK (hW.one (k := 0) (i := 0) (Nat.zero_lt_one)) 0 rfl rfl 24 (by decide) (hts _ tw_398) (fun _ h9 => h9) rfl d_R_tick_114 ?_
      refine lv_iload_n hx hb d_R_tick_117 rfl (lv_at hl 2 rfl) ?_
      refine lv_aload_n hx hb d_R_tick_118 rfl (lv_at hl 0 rfl) ?_
      refine va_get (D := G.1) (ci := 6) (C := "TwoPhaseCutsModel") (T := T_R) (N := 27) (v := .ref (L 25 0)) hx hb hts ui_R hown hK (hW.one (k := 0) (i := 0) (Nat.zero_lt_one)) 0 rfl rfl 24 (by decide) (hts _ tw_398) (fun _ h9 => h9) rfl d_R_tick_119 ?_
      refine lv_iload_n hx hb d_R_tick_122 rfl (lv_at hl 2 rfl) ?_
      refine lv_iload_n hx hb d_R_tick_123 rfl (lv_at hl 1 rfl) ?_
      refine lv_iadd hx hb d_R_tick_124 ?_
      refine va_iald (D := G.1) (cl := ec_cl) hx hb hK (hW.one (k := 25) (i := 0) (Nat.zero_lt_one)) 0 0 rfl rfl (mm_vp hg1) d_R_tick_125 ?_
      refine mm_top (y := (σ 25 0 (Int32.toNatClampNeg (v2 + x1)))) rfl ?_
      refine mm_iast hx hb hK hI hW hS (k := 25) (i := 0) (Nat.zero_lt_one) (fun _ => rfl) (t0 := 0) rfl (mm_vp hg2) d_R_tick_126 (fun H locs hW hS => ?_)
      refine lv_iinc (v := (v2 + (1 : Int32))) (lv' := [(2, .int (v2 + (1 : Int32))), (0, .ref (L 0 0)), (1, .int x1)]) hx hb d_R_tick_127 hl (k := 2) rfl (mm_inc _) (by decide) rfl (fun ls hl => ?_)
      refine lv_goto (tgt := 35) hx hb d_R_tick_130 (by decide) ?_
      exact ih _ _ _ _ _ hf hW hS (lv_sub hl [1, 2, 0] rfl) kx
set_option maxHeartbeats 4000000 in
set_option maxRecDepth 100000 in
theorem c_R_tick (l : Launch) (G : ec_G) (L : mm_L) (F n : Nat) (hI : mm_I (er_cnt n) L) (σ : mm_M) {out : Int32 × mm_M} (hf : f_R_tick F n σ = some out) :
    Met l y_R_tick (Cond.code y_R_tick b_R_tick 3 (some .int) :: tw_tbl) rm_R_tick (va_Pc [.ref (L 0 0)] (mm_pre G.1 ec_cl (ec_T G) (er_cnt n) L (er_E G L n) σ))
      (va_Qi (fun r (_ : Unit) => r = out.1) (fun _ t => mm_pre G.1 ec_cl (ec_T G) (er_cnt n) L (er_E G L n) out.2 t) (mm_A (er_cnt n) L)) 0 0 (mm_A (er_cnt n) L) := by
  refine Met.ofW (cc := b_R_tick) (maxL := 3) (ret := (some .int)) (by decide) rfl ?_
  intro p e s m args below meth c s₁ B hml hv
  obtain ⟨rfl, hW, hK⟩ := hv
  have hx := B.exec
  have hb := B.bytes
  have hr := B.returns
  have hts0 := atoms_spec (ws := Cond.code y_R_tick b_R_tick 3 (some .int) :: tw_tbl) B.pre
  have hts : ∀ w ∈ tw_tbl, w.before [.ref (L 0 0)].toArray s = true := fun w h => hts0 w (List.mem_cons_of_mem _ h)
  clear hts0
  have hown : s.vm.findClass "TwoPhaseCutsModel" = some m.cls := findClass_of_methodNamed B.named
  have hlocks := B.notSynchronized
  have hC : CallFix p m c b_R_tick 3 s [.ref (L 0 0)].toArray tw_tbl "TwoPhaseCutsModel" := ⟨hx, hb, hml, hown, hts⟩
  have hS : va_S (mm_A (er_cnt n) L) s.heap s.heap [] := va_S.rf
  have hl := lv_entry ([.ref (L 0 0)]) (n := 3) (Nat.le_of_ble_eq_true rfl)
  rw [lg_entry_eq]
  generalize (lg_sl ([.ref (L 0 0)]) ++ List.replicate (3 - (lg_sl ([.ref (L 0 0)])).length) Slot.unset).toArray = ls at hl ⊢
  have hl : lv_has ls 3 [(0, .ref (L 0 0))] := hl
  have hW : mm_W G.1 ec_cl (er_cnt n) L (er_E G L n) σ s.heap := hW
  clear B
  show W p l e rm_R_tick s m [.ref (L 0 0)].toArray below meth c s.heap [] 0 0 (MQ below (va_Qi (fun r (_ : Unit) => r = out.1) (fun _ t => mm_pre G.1 ec_cl (ec_T G) (er_cnt n) L (er_E G L n) out.2 t) (mm_A (er_cnt n) L)) [.ref (L 0 0)].toArray s 0 0 (mm_A (er_cnt n) L)) (F0 m 0 ls [])
  unfold f_R_tick at hf
  refine lv_aload_n hx hb d_R_tick_0 rfl (lv_at hl 0 rfl) ?_
  refine va_get (D := G.1) (ci := 6) (C := "TwoPhaseCutsModel") (T := T_R) (N := 27) (v := .int (σ 0 0 18)) hx hb hts ui_R hown hK (hW.one (k := 0) (i := 0) (Nat.zero_lt_one)) 0 rfl rfl 18 (by decide) (hts _ tw_392) (fun _ h9 => h9) rfl d_R_tick_1 ?_
  refine lv_istore_n (lv' := [(1, .int (σ 0 0 18)), (0, .ref (L 0 0))]) hx hb d_R_tick_4 rfl hl (by decide) rfl (fun ls hl => ?_)
  refine lv_iconst (v := (0 : Int32)) hx hb d_R_tick_5 (by decide) ?_
  refine lv_istore_n (lv' := [(2, .int (0 : Int32)), (1, .int (σ 0 0 18)), (0, .ref (L 0 0))]) hx hb d_R_tick_6 rfl hl (by decide) rfl (fun ls hl => ?_)
  obtain ⟨u1, hu1, hf⟩ := mm_bind hf
  refine w_R_tick_l7 l G L F n hI hC hK (σ 0 0 18) F σ (0 : Int32) _ _ _ hu1 hW hS (lv_sub hl [2, 1, 0] rfl) (fun H locs ls hW hS hl => ?_)
  refine lv_aload_n hx hb d_R_tick_23 rfl (lv_at hl 0 rfl) ?_
  refine lv_aload_n hx hb d_R_tick_24 rfl (lv_at hl 0 rfl) ?_
  refine va_get (D := G.1) (ci := 6) (C := "TwoPhaseCutsModel") (T := T_R) (N := 27) (v := .int (u1 0 0 18)) hx hb hts ui_R hown hK (hW.one (k := 0) (i := 0) (Nat.zero_lt_one)) 0 rfl rfl 18 (by decide) (hts _ tw_392) (fun _ h9 => h9) rfl d_R_tick_25 ?_
  refine lv_iload_n hx hb d_R_tick_28 rfl (lv_at hl 1 rfl) ?_
  refine lv_isub hx hb d_R_tick_29 ?_
  refine mm_put (D := G.1) (ci := 6) (C := "TwoPhaseCutsModel") (T := T_R) (N := 27) (x := ((u1 0 0 18) - (σ 0 0 18))) hx hb hts ui_R ty_R tyo_R nmo_R hown hK hI hW hS (k := 0) (i := 0) (Nat.zero_lt_one) rfl rfl 18 (by decide) (hts _ tw_392) (fun _ h9 => h9) rfl (ty := .int) (by decide +kernel) (vp_nar_int _) rfl (Nat.le_of_ble_eq_true rfl) rfl d_R_tick_30 (fun H locs hW hS => ?_)
  refine lv_iconst (v := (0 : Int32)) hx hb d_R_tick_33 (by decide) ?_
  refine lv_istore_n (lv' := [(2, .int (0 : Int32)), (0, .ref (L 0 0)), (1, .int (σ 0 0 18))]) hx hb d_R_tick_34 rfl hl (by decide) rfl (fun ls hl => ?_)
  obtain ⟨u2, hu2, hf⟩ := mm_bind hf
  refine w_R_tick_l35 l G L F n hI hC hK (σ 0 0 18) F (mm_st u1 0 0 18 ((u1 0 0 18) - (σ 0 0 18))) (0 : Int32) _ _ _ hu2 hW hS (lv_sub hl [1, 2, 0] rfl) (fun H locs ls hW hS hl => ?_)
  refine lv_iload_n hx hb d_R_tick_133 rfl (lv_at hl 0 rfl) ?_
  obtain rfl := Option.some.inj hf
  exact W.iret (v := (σ 0 0 18)) hx hb hr (fun t ht hw => ⟨⟨_, (), rfl, rfl, (mm_back ht hw hW hK)⟩, hS.F ht⟩) hS.2.2 d_R_tick_134
abbrev rm_R_begin : Room := { frames := 5, cells := 0, slots := 0, locals := 119 }
set_option maxHeartbeats 4000000 in
set_option maxRecDepth 100000 in
theorem c_R_begin (l : Launch) (G : ec_G) (L : mm_L) (F n : Nat) (hI : mm_I (er_cnt n) L) (σ : mm_M) (a1 : Int32) (a2 : Int32) {out : Int32 × mm_M} (hf : f_R_begin F n σ a1 a2 = some out) :
    Met l y_R_begin (Cond.code y_R_begin b_R_begin 3 (some .int) :: tw_tbl) rm_R_begin (va_Pc [.ref (L 0 0), .int a1, .int a2] (mm_pre G.1 ec_cl (ec_T G) (er_cnt n) L (er_E G L n) σ))
      (va_Qi (fun r (_ : Unit) => r = out.1) (fun _ t => mm_pre G.1 ec_cl (ec_T G) (er_cnt n) L (er_E G L n) out.2 t) (mm_A (er_cnt n) L)) 0 0 (mm_A (er_cnt n) L) := by
  refine Met.ofW (cc := b_R_begin) (maxL := 3) (ret := (some .int)) (by decide) rfl ?_
  intro p e s m args below meth c s₁ B hml hv
  obtain ⟨rfl, hW, hK⟩ := hv
  have hx := B.exec
  have hb := B.bytes
  have hr := B.returns
  have hts0 := atoms_spec (ws := Cond.code y_R_begin b_R_begin 3 (some .int) :: tw_tbl) B.pre
  have hts : ∀ w ∈ tw_tbl, w.before [.ref (L 0 0), .int a1, .int a2].toArray s = true := fun w h => hts0 w (List.mem_cons_of_mem _ h)
  clear hts0
  have hown : s.vm.findClass "TwoPhaseCutsModel" = some m.cls := findClass_of_methodNamed B.named
  have hlocks := B.notSynchronized
  have hC : CallFix p m c b_R_begin 3 s [.ref (L 0 0), .int a1, .int a2].toArray tw_tbl "TwoPhaseCutsModel" := ⟨hx, hb, hml, hown, hts⟩
  have hS : va_S (mm_A (er_cnt n) L) s.heap s.heap [] := va_S.rf
  have hl := lv_entry ([.ref (L 0 0), .int a1, .int a2]) (n := 3) (Nat.le_of_ble_eq_true rfl)
  rw [lg_entry_eq]
  generalize (lg_sl ([.ref (L 0 0), .int a1, .int a2]) ++ List.replicate (3 - (lg_sl ([.ref (L 0 0), .int a1, .int a2])).length) Slot.unset).toArray = ls at hl ⊢
  have hl : lv_has ls 3 [(0, .ref (L 0 0)), (1, .int a1), (2, .int a2)] := hl
  have hW : mm_W G.1 ec_cl (er_cnt n) L (er_E G L n) σ s.heap := hW
  clear B
  show W p l e rm_R_begin s m [.ref (L 0 0), .int a1, .int a2].toArray below meth c s.heap [] 0 0 (MQ below (va_Qi (fun r (_ : Unit) => r = out.1) (fun _ t => mm_pre G.1 ec_cl (ec_T G) (er_cnt n) L (er_E G L n) out.2 t) (mm_A (er_cnt n) L)) [.ref (L 0 0), .int a1, .int a2].toArray s 0 0 (mm_A (er_cnt n) L)) (F0 m 0 ls [])
  unfold f_R_begin at hf
  refine lv_aload_n hx hb d_R_begin_0 rfl (lv_at hl 0 rfl) ?_
  refine lv_dup hx hb d_R_begin_1 rfl ?_
  refine va_get (D := G.1) (ci := 6) (C := "TwoPhaseCutsModel") (T := T_R) (N := 27) (v := .int (σ 0 0 16)) hx hb hts ui_R hown hK (hW.one (k := 0) (i := 0) (Nat.zero_lt_one)) 0 rfl rfl 16 (by decide) (hts _ tw_390) (fun _ h9 => h9) rfl d_R_begin_2 ?_
  refine lv_iconst (v := (1 : Int32)) hx hb d_R_begin_5 (by decide) ?_
  refine lv_iadd hx hb d_R_begin_6 ?_
  refine mm_put (D := G.1) (ci := 6) (C := "TwoPhaseCutsModel") (T := T_R) (N := 27) (x := ((σ 0 0 16) + (1 : Int32))) hx hb hts ui_R ty_R tyo_R nmo_R hown hK hI hW hS (k := 0) (i := 0) (Nat.zero_lt_one) rfl rfl 16 (by decide) (hts _ tw_390) (fun _ h9 => h9) rfl (ty := .int) (by decide +kernel) (vp_nar_int _) rfl (Nat.le_of_ble_eq_true rfl) rfl d_R_begin_7 (fun H locs hW hS => ?_)
  refine lv_aload_n hx hb d_R_begin_10 rfl (lv_at hl 0 rfl) ?_
  refine lv_iload_n hx hb d_R_begin_11 rfl (lv_at hl 1 rfl) ?_
  refine lv_aload_n hx hb d_R_begin_12 rfl (lv_at hl 0 rfl) ?_
  refine va_get (D := G.1) (ci := 6) (C := "TwoPhaseCutsModel") (T := T_R) (N := 27) (v := .int ((σ 0 0 16) + (1 : Int32))) hx hb hts ui_R hown hK (hW.one (k := 0) (i := 0) (Nat.zero_lt_one)) 0 rfl rfl 16 (by decide) (hts _ tw_390) (fun _ h9 => h9) rfl d_R_begin_13 ?_
  refine lv_iload_n hx hb d_R_begin_16 rfl (lv_at hl 2 rfl) ?_
  refine lv_iconst (v := (-1 : Int32)) hx hb d_R_begin_17 (by decide) ?_
  obtain ⟨u1, hu1, hf⟩ := mm_bind hf
  refine mm_callv (va_runV (As := [.int a1, .int ((σ 0 0 16) + (1 : Int32)), .int a2, .int (-1 : Int32)]) (rest := []) hC (c_R_join l G L F n hI (mm_st σ 0 0 16 ((σ 0 0 16) + (1 : Int32))) a1 ((σ 0 0 16) + (1 : Int32)) a2 (-1 : Int32) hu1) (cwV 4 hts (tw_gV tw_524 tw_526 ts_26 tw_8 tw_527) rfl rfl rfl (by decide +kernel) ⟨Nat.le_of_ble_eq_true rfl, Nat.le_of_ble_eq_true rfl⟩) (mm_preV hK hW (k := 0) (i := 0) (Nat.zero_lt_one) rfl rfl) rfl rfl hl.1 rfl (lv_room (Nat.le_of_ble_eq_true rfl)) d_R_begin_18 ⟨Nat.zero_le _, Nat.zero_le _⟩) hS (fun _ h => h) (fun H locs hW _ _ hS => ?_)
  refine lv_aload_n hx hb d_R_begin_21 rfl (lv_at hl 0 rfl) ?_
  refine va_get (D := G.1) (ci := 6) (C := "TwoPhaseCutsModel") (T := T_R) (N := 27) (v := .int (u1 0 0 16)) hx hb hts ui_R hown hK (hW.one (k := 0) (i := 0) (Nat.zero_lt_one)) 0 rfl rfl 16 (by decide) (hts _ tw_390) (fun _ h9 => h9) rfl d_R_begin_22 ?_
  obtain rfl := Option.some.inj hf
  exact W.iret (v := (u1 0 0 16)) hx hb hr (fun t ht hw => ⟨⟨_, (), rfl, rfl, (mm_back ht hw hW hK)⟩, hS.F ht⟩) hS.2.2 d_R_begin_25
