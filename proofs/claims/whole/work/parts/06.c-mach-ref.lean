abbrev rm_R_checkpoint : Room := { frames := 6, cells := 0, slots := 0, locals := 141 }
set_option maxHeartbeats 4000000 in
set_option maxRecDepth 100000 in
theorem c_R_checkpoint (l : Launch) (G : ec_G) (L : mm_L) (F n : Nat) (hI : mm_I (er_cnt n) L) (σ : mm_M) (a1 : Int32) {out : Int32 × mm_M} (hf : f_R_checkpoint F n σ a1 = some out) :
    Met l y_R_checkpoint (Cond.code y_R_checkpoint b_R_checkpoint 2 (some .int) :: tw_tbl) rm_R_checkpoint (va_Pc [.ref (L 0 0), .int a1] (mm_pre G.1 ec_cl (ec_T G) (er_cnt n) L (er_E G L n) σ))
      (va_Qi (fun r (_ : Unit) => r = out.1) (fun _ t => mm_pre G.1 ec_cl (ec_T G) (er_cnt n) L (er_E G L n) out.2 t) (mm_A (er_cnt n) L)) 0 0 (mm_A (er_cnt n) L) := by
  refine Met.ofW (cc := b_R_checkpoint) (maxL := 2) (ret := (some .int)) (by decide) rfl ?_
  intro p e s m args below meth c s₁ B hml hv
  obtain ⟨rfl, hW, hK⟩ := hv
  have hx := B.exec
  have hb := B.bytes
  have hr := B.returns
  have hts0 := atoms_spec (ws := Cond.code y_R_checkpoint b_R_checkpoint 2 (some .int) :: tw_tbl) B.pre
  have hts : ∀ w ∈ tw_tbl, w.before [.ref (L 0 0), .int a1].toArray s = true := fun w h => hts0 w (List.mem_cons_of_mem _ h)
  clear hts0
  have hown : s.vm.findClass "TwoPhaseCutsModel" = some m.cls := findClass_of_methodNamed B.named
  have hlocks := B.notSynchronized
  have hC : CallFix p m c b_R_checkpoint 2 s [.ref (L 0 0), .int a1].toArray tw_tbl "TwoPhaseCutsModel" := ⟨hx, hb, hml, hown, hts⟩
  have hS : va_S (mm_A (er_cnt n) L) s.heap s.heap [] := va_S.rf
  have hl := lv_entry ([.ref (L 0 0), .int a1]) (n := 2) (Nat.le_of_ble_eq_true rfl)
  rw [lg_entry_eq]
  generalize (lg_sl ([.ref (L 0 0), .int a1]) ++ List.replicate (2 - (lg_sl ([.ref (L 0 0), .int a1])).length) Slot.unset).toArray = ls at hl ⊢
  have hl : lv_has ls 2 [(0, .ref (L 0 0)), (1, .int a1)] := hl
  have hW : mm_W G.1 ec_cl (er_cnt n) L (er_E G L n) σ s.heap := hW
  clear B
  show W p l e rm_R_checkpoint s m [.ref (L 0 0), .int a1].toArray below meth c s.heap [] 0 0 (MQ below (va_Qi (fun r (_ : Unit) => r = out.1) (fun _ t => mm_pre G.1 ec_cl (ec_T G) (er_cnt n) L (er_E G L n) out.2 t) (mm_A (er_cnt n) L)) [.ref (L 0 0), .int a1].toArray s 0 0 (mm_A (er_cnt n) L)) (F0 m 0 ls [])
  unfold f_R_checkpoint at hf
  refine lv_aload_n hx hb d_R_checkpoint_0 rfl (lv_at hl 0 rfl) ?_
  refine lv_iload_n hx hb d_R_checkpoint_1 rfl (lv_at hl 1 rfl) ?_
  obtain ⟨u1, hu1, hf⟩ := mm_bind hf
  refine mm_calli (va_runV (As := [.int a1]) (rest := []) hC (c_R_is l G L F n hI σ a1 hu1) (cwV 1 hts (tw_gV tw_460 tw_462 ts_14 tw_8 tw_463) rfl rfl rfl (by decide +kernel) ⟨Nat.le_of_ble_eq_true rfl, Nat.le_of_ble_eq_true rfl⟩) (mm_preV hK hW (k := 0) (i := 0) (Nat.zero_lt_one) rfl rfl) rfl rfl hl.1 rfl (lv_room (Nat.le_of_ble_eq_true rfl)) d_R_checkpoint_2 ⟨Nat.zero_le _, Nat.zero_le _⟩) hS (fun _ h => h) (fun H locs hW _ _ hS => ?_)
  refine lv_if_ne (tgt := 10) hx hb d_R_checkpoint_5 (by decide) (fun hc => ?_) (fun hc => ?_)
  · rw [if_neg hc] at hf
    refine lv_aload_n hx hb d_R_checkpoint_10 rfl (lv_at hl 0 rfl) ?_
    refine va_get (D := G.1) (ci := 6) (C := "TwoPhaseCutsModel") (T := T_R) (N := 27) (v := .ref (L 10 0)) hx hb hts ui_R hown hK (hW.one (k := 0) (i := 0) (Nat.zero_lt_one)) 0 rfl rfl 9 (by decide) (hts _ tw_383) (fun _ h9 => h9) rfl d_R_checkpoint_11 ?_
    refine lv_iload_n hx hb d_R_checkpoint_14 rfl (lv_at hl 1 rfl) ?_
    obtain ⟨hg1, hf⟩ := mm_guard hf
    refine va_zald (D := G.1) (cl := ec_cl) hx hb hK (hW.one (k := 10) (i := 0) (Nat.zero_lt_one)) 0 1 rfl rfl (mm_vp hg1) d_R_checkpoint_15 ?_
    refine mm_top (y := (σ 10 0 (Int32.toNatClampNeg a1))) rfl ?_
    obtain ⟨u2, hu2, hf⟩ := mm_bind hf
    have jp1 : ∀ (H : Heap) (locs : List Loc) (ls : Array Slot), mm_W G.1 ec_cl (er_cnt n) L (er_E G L n) u2.1 H → va_S (mm_A (er_cnt n) L) s.heap H locs → lv_has ls 2 [] → W p l e rm_R_checkpoint s m [.ref (L 0 0), .int a1].toArray below meth c H locs 0 0 (MQ below (va_Qi (fun r (_ : Unit) => r = out.1) (fun _ t => mm_pre G.1 ec_cl (ec_T G) (er_cnt n) L (er_E G L n) out.2 t) (mm_A (er_cnt n) L)) [.ref (L 0 0), .int a1].toArray s 0 0 (mm_A (er_cnt n) L)) (F0 m 44 ls [.int u2.2]) := by
      intro H locs ls hW hS hl
      obtain rfl := Option.some.inj hf
      exact W.iret (v := u2.2) hx hb hr (fun t ht hw => ⟨⟨_, (), rfl, rfl, (mm_back ht hw hW hK)⟩, hS.F ht⟩) hS.2.2 d_R_checkpoint_44
    clear hf
    have hf := hu2
    clear hu2
    refine lv_if_eq (tgt := 24) hx hb d_R_checkpoint_16 (by decide) (fun hc => ?_) (fun hc => ?_)
    · rw [if_pos hc] at hf
      refine lv_aload_n hx hb d_R_checkpoint_24 rfl (lv_at hl 0 rfl) ?_
      refine va_get (D := G.1) (ci := 6) (C := "TwoPhaseCutsModel") (T := T_R) (N := 27) (v := .ref (L 11 0)) hx hb hts ui_R hown hK (hW.one (k := 0) (i := 0) (Nat.zero_lt_one)) 0 rfl rfl 10 (by decide) (hts _ tw_384) (fun _ h9 => h9) rfl d_R_checkpoint_25 ?_
      refine lv_iload_n hx hb d_R_checkpoint_28 rfl (lv_at hl 1 rfl) ?_
      refine va_iald (D := G.1) (cl := ec_cl) hx hb hK (hW.one (k := 11) (i := 0) (Nat.zero_lt_one)) 0 0 rfl rfl (mm_vp hg1) d_R_checkpoint_29 ?_
      refine mm_top (y := (σ 11 0 (Int32.toNatClampNeg a1))) rfl ?_
      refine lv_if_le (tgt := 38) hx hb d_R_checkpoint_30 (by decide) (fun hc => ?_) (fun hc => ?_)
      · rw [if_pos hc] at hf
        refine lv_aload_n hx hb d_R_checkpoint_38 rfl (lv_at hl 0 rfl) ?_
        refine lv_iload_n hx hb d_R_checkpoint_39 rfl (lv_at hl 1 rfl) ?_
        refine lv_iconst (v := (0 : Int32)) hx hb d_R_checkpoint_40 (by decide) ?_
        obtain ⟨u3, hu3, hf⟩ := mm_bind hf
        refine mm_calli (va_runV (As := [.int a1, .int (0 : Int32)]) (rest := []) hC (c_R_begin l G L F n hI σ a1 (0 : Int32) hu3) (cwV 2 hts (tw_gV tw_552 tw_554 ts_32 tw_8 tw_555) rfl rfl rfl (by decide +kernel) ⟨Nat.le_of_ble_eq_true rfl, Nat.le_of_ble_eq_true rfl⟩) (mm_preV hK hW (k := 0) (i := 0) (Nat.zero_lt_one) rfl rfl) rfl rfl hl.1 rfl (lv_room (Nat.le_of_ble_eq_true rfl)) d_R_checkpoint_41 ⟨Nat.zero_le _, Nat.zero_le _⟩) hS (fun _ h => h) (fun H locs hW _ _ hS => ?_)
        obtain rfl := Option.some.inj hf
        exact jp1 _ _ _ hW hS (lv_sub hl [] rfl)
      · rw [if_neg hc] at hf
        refine lv_bipush (v := (-3 : Int32)) hx hb d_R_checkpoint_33 (by decide) ?_
        refine lv_goto (tgt := 44) hx hb d_R_checkpoint_35 (by decide) ?_
        obtain rfl := Option.some.inj hf
        exact jp1 _ _ _ hW hS (lv_sub hl [] rfl)
    · rw [if_neg hc] at hf
      refine lv_bipush (v := (-2 : Int32)) hx hb d_R_checkpoint_19 (by decide) ?_
      refine lv_goto (tgt := 44) hx hb d_R_checkpoint_21 (by decide) ?_
      obtain rfl := Option.some.inj hf
      exact jp1 _ _ _ hW hS (lv_sub hl [] rfl)
  · rw [if_pos hc] at hf
    refine lv_iconst (v := (-1 : Int32)) hx hb d_R_checkpoint_8 (by decide) ?_
    obtain rfl := Option.some.inj hf
    exact W.iret (v := (-1 : Int32)) hx hb hr (fun t ht hw => ⟨⟨_, (), rfl, rfl, (mm_back ht hw hW hK)⟩, hS.F ht⟩) hS.2.2 d_R_checkpoint_9
abbrev rm_R_crash : Room := { frames := 1, cells := 0, slots := 0, locals := 21 }
set_option maxHeartbeats 4000000 in
set_option maxRecDepth 100000 in
theorem c_R_crash (l : Launch) (G : ec_G) (L : mm_L) (F n : Nat) (hI : mm_I (er_cnt n) L) (σ : mm_M) (a1 : Int32) {out : Int32 × mm_M} (hf : f_R_crash F n σ a1 = some out) :
    Met l y_R_crash (Cond.code y_R_crash b_R_crash 2 (some .int) :: tw_tbl) rm_R_crash (va_Pc [.ref (L 0 0), .int a1] (mm_pre G.1 ec_cl (ec_T G) (er_cnt n) L (er_E G L n) σ))
      (va_Qi (fun r (_ : Unit) => r = out.1) (fun _ t => mm_pre G.1 ec_cl (ec_T G) (er_cnt n) L (er_E G L n) out.2 t) (mm_A (er_cnt n) L)) 0 0 (mm_A (er_cnt n) L) := by
  refine Met.ofW (cc := b_R_crash) (maxL := 2) (ret := (some .int)) (by decide) rfl ?_
  intro p e s m args below meth c s₁ B hml hv
  obtain ⟨rfl, hW, hK⟩ := hv
  have hx := B.exec
  have hb := B.bytes
  have hr := B.returns
  have hts0 := atoms_spec (ws := Cond.code y_R_crash b_R_crash 2 (some .int) :: tw_tbl) B.pre
  have hts : ∀ w ∈ tw_tbl, w.before [.ref (L 0 0), .int a1].toArray s = true := fun w h => hts0 w (List.mem_cons_of_mem _ h)
  clear hts0
  have hown : s.vm.findClass "TwoPhaseCutsModel" = some m.cls := findClass_of_methodNamed B.named
  have hlocks := B.notSynchronized
  have hC : CallFix p m c b_R_crash 2 s [.ref (L 0 0), .int a1].toArray tw_tbl "TwoPhaseCutsModel" := ⟨hx, hb, hml, hown, hts⟩
  have hS : va_S (mm_A (er_cnt n) L) s.heap s.heap [] := va_S.rf
  have hl := lv_entry ([.ref (L 0 0), .int a1]) (n := 2) (Nat.le_of_ble_eq_true rfl)
  rw [lg_entry_eq]
  generalize (lg_sl ([.ref (L 0 0), .int a1]) ++ List.replicate (2 - (lg_sl ([.ref (L 0 0), .int a1])).length) Slot.unset).toArray = ls at hl ⊢
  have hl : lv_has ls 2 [(0, .ref (L 0 0)), (1, .int a1)] := hl
  have hW : mm_W G.1 ec_cl (er_cnt n) L (er_E G L n) σ s.heap := hW
  clear B
  show W p l e rm_R_crash s m [.ref (L 0 0), .int a1].toArray below meth c s.heap [] 0 0 (MQ below (va_Qi (fun r (_ : Unit) => r = out.1) (fun _ t => mm_pre G.1 ec_cl (ec_T G) (er_cnt n) L (er_E G L n) out.2 t) (mm_A (er_cnt n) L)) [.ref (L 0 0), .int a1].toArray s 0 0 (mm_A (er_cnt n) L)) (F0 m 0 ls [])
  unfold f_R_crash at hf
  refine lv_aload_n hx hb d_R_crash_0 rfl (lv_at hl 0 rfl) ?_
  refine lv_iload_n hx hb d_R_crash_1 rfl (lv_at hl 1 rfl) ?_
  obtain ⟨u1, hu1, hf⟩ := mm_bind hf
  refine mm_calli (va_runV (As := [.int a1]) (rest := []) hC (c_R_is l G L F n hI σ a1 hu1) (cwV 1 hts (tw_gV tw_460 tw_462 ts_14 tw_8 tw_463) rfl rfl rfl (by decide +kernel) ⟨Nat.le_of_ble_eq_true rfl, Nat.le_of_ble_eq_true rfl⟩) (mm_preV hK hW (k := 0) (i := 0) (Nat.zero_lt_one) rfl rfl) rfl rfl hl.1 rfl (lv_room (Nat.le_of_ble_eq_true rfl)) d_R_crash_2 ⟨Nat.zero_le _, Nat.zero_le _⟩) hS (fun _ h => h) (fun H locs hW _ _ hS => ?_)
  refine lv_if_ne (tgt := 10) hx hb d_R_crash_5 (by decide) (fun hc => ?_) (fun hc => ?_)
  · rw [if_neg hc] at hf
    refine lv_aload_n hx hb d_R_crash_10 rfl (lv_at hl 0 rfl) ?_
    refine va_get (D := G.1) (ci := 6) (C := "TwoPhaseCutsModel") (T := T_R) (N := 27) (v := .ref (L 10 0)) hx hb hts ui_R hown hK (hW.one (k := 0) (i := 0) (Nat.zero_lt_one)) 0 rfl rfl 9 (by decide) (hts _ tw_383) (fun _ h9 => h9) rfl d_R_crash_11 ?_
    refine lv_iload_n hx hb d_R_crash_14 rfl (lv_at hl 1 rfl) ?_
    obtain ⟨hg1, hf⟩ := mm_guard hf
    refine va_zald (D := G.1) (cl := ec_cl) hx hb hK (hW.one (k := 10) (i := 0) (Nat.zero_lt_one)) 0 1 rfl rfl (mm_vp hg1) d_R_crash_15 ?_
    refine mm_top (y := (σ 10 0 (Int32.toNatClampNeg a1))) rfl ?_
    refine lv_if_ne (tgt := 28) hx hb d_R_crash_16 (by decide) (fun hc => ?_) (fun hc => ?_)
    · rw [if_neg hc] at hf
      refine lv_aload_n hx hb d_R_crash_28 rfl (lv_at hl 0 rfl) ?_
      refine va_get (D := G.1) (ci := 6) (C := "TwoPhaseCutsModel") (T := T_R) (N := 27) (v := .ref (L 10 0)) hx hb hts ui_R hown hK (hW.one (k := 0) (i := 0) (Nat.zero_lt_one)) 0 rfl rfl 9 (by decide) (hts _ tw_383) (fun _ h9 => h9) rfl d_R_crash_29 ?_
      refine lv_iload_n hx hb d_R_crash_32 rfl (lv_at hl 1 rfl) ?_
      refine va_zald (D := G.1) (cl := ec_cl) hx hb hK (hW.one (k := 10) (i := 0) (Nat.zero_lt_one)) 0 1 rfl rfl (mm_vp hg1) d_R_crash_33 ?_
      refine mm_top (y := (σ 10 0 (Int32.toNatClampNeg a1))) rfl ?_
      obtain ⟨u2, hu2, hf⟩ := mm_bind hf
      have jp1 : ∀ (H : Heap) (locs : List Loc) (ls : Array Slot), mm_W G.1 ec_cl (er_cnt n) L (er_E G L n) σ H → va_S (mm_A (er_cnt n) L) s.heap H locs → lv_has ls 2 [] → W p l e rm_R_crash s m [.ref (L 0 0), .int a1].toArray below meth c H locs 0 0 (MQ below (va_Qi (fun r (_ : Unit) => r = out.1) (fun _ t => mm_pre G.1 ec_cl (ec_T G) (er_cnt n) L (er_E G L n) out.2 t) (mm_A (er_cnt n) L)) [.ref (L 0 0), .int a1].toArray s 0 0 (mm_A (er_cnt n) L)) (F0 m 44 ls [.int u2]) := by
        intro H locs ls hW hS hl
        obtain rfl := Option.some.inj hf
        exact W.iret (v := u2) hx hb hr (fun t ht hw => ⟨⟨_, (), rfl, rfl, (mm_back ht hw hW hK)⟩, hS.F ht⟩) hS.2.2 d_R_crash_44
      clear hf
      have hf := hu2
      clear hu2
      refine lv_if_eq (tgt := 42) hx hb d_R_crash_34 (by decide) (fun hc => ?_) (fun hc => ?_)
      · rw [if_pos hc] at hf
        refine lv_bipush (v := (-3 : Int32)) hx hb d_R_crash_42 (by decide) ?_
        obtain rfl := Option.some.inj hf
        exact jp1 _ _ _ hW hS (lv_sub hl [] rfl)
      · rw [if_neg hc] at hf
        refine lv_bipush (v := (-2 : Int32)) hx hb d_R_crash_37 (by decide) ?_
        refine lv_goto (tgt := 44) hx hb d_R_crash_39 (by decide) ?_
        obtain rfl := Option.some.inj hf
        exact jp1 _ _ _ hW hS (lv_sub hl [] rfl)
    · rw [if_pos hc] at hf
      refine lv_aload_n hx hb d_R_crash_19 rfl (lv_at hl 0 rfl) ?_
      refine va_get (D := G.1) (ci := 6) (C := "TwoPhaseCutsModel") (T := T_R) (N := 27) (v := .ref (L 11 0)) hx hb hts ui_R hown hK (hW.one (k := 0) (i := 0) (Nat.zero_lt_one)) 0 rfl rfl 10 (by decide) (hts _ tw_384) (fun _ h9 => h9) rfl d_R_crash_20 ?_
      refine lv_iload_n hx hb d_R_crash_23 rfl (lv_at hl 1 rfl) ?_
      refine va_iald (D := G.1) (cl := ec_cl) hx hb hK (hW.one (k := 11) (i := 0) (Nat.zero_lt_one)) 0 0 rfl rfl (mm_vp hg1) d_R_crash_24 ?_
      refine mm_top (y := (σ 11 0 (Int32.toNatClampNeg a1))) rfl ?_
      refine lv_if_le (tgt := 45) hx hb d_R_crash_25 (by decide) (fun hc => ?_) (fun hc => ?_)
      · rw [if_pos hc] at hf
        refine lv_aload_n hx hb d_R_crash_45 rfl (lv_at hl 0 rfl) ?_
        refine va_get (D := G.1) (ci := 6) (C := "TwoPhaseCutsModel") (T := T_R) (N := 27) (v := .ref (L 10 0)) hx hb hts ui_R hown hK (hW.one (k := 0) (i := 0) (Nat.zero_lt_one)) 0 rfl rfl 9 (by decide) (hts _ tw_383) (fun _ h9 => h9) rfl d_R_crash_46 ?_
        refine lv_iload_n hx hb d_R_crash_49 rfl (lv_at hl 1 rfl) ?_
        refine lv_iconst (v := (1 : Int32)) hx hb d_R_crash_50 (by decide) ?_
        refine mm_zast hx hb hK hI hW hS (k := 10) (i := 0) (Nat.zero_lt_one) (fun _ => rfl) (t0 := 1) rfl (mm_vp hg1) (Or.inr rfl) d_R_crash_51 (fun H locs hW hS => ?_)
        refine lv_iconst (v := (0 : Int32)) hx hb d_R_crash_52 (by decide) ?_
        obtain rfl := Option.some.inj hf
        exact W.iret (v := (0 : Int32)) hx hb hr (fun t ht hw => ⟨⟨_, (), rfl, rfl, (mm_back ht hw hW hK)⟩, hS.F ht⟩) hS.2.2 d_R_crash_53
      · rw [if_neg hc] at hf
        refine lv_aload_n hx hb d_R_crash_28 rfl (lv_at hl 0 rfl) ?_
        refine va_get (D := G.1) (ci := 6) (C := "TwoPhaseCutsModel") (T := T_R) (N := 27) (v := .ref (L 10 0)) hx hb hts ui_R hown hK (hW.one (k := 0) (i := 0) (Nat.zero_lt_one)) 0 rfl rfl 9 (by decide) (hts _ tw_383) (fun _ h9 => h9) rfl d_R_crash_29 ?_
        refine lv_iload_n hx hb d_R_crash_32 rfl (lv_at hl 1 rfl) ?_
        refine va_zald (D := G.1) (cl := ec_cl) hx hb hK (hW.one (k := 10) (i := 0) (Nat.zero_lt_one)) 0 1 rfl rfl (mm_vp hg1) d_R_crash_33 ?_
        refine mm_top (y := (σ 10 0 (Int32.toNatClampNeg a1))) rfl ?_
        obtain ⟨u3, hu3, hf⟩ := mm_bind hf
        have jp2 : ∀ (H : Heap) (locs : List Loc) (ls : Array Slot), mm_W G.1 ec_cl (er_cnt n) L (er_E G L n) σ H → va_S (mm_A (er_cnt n) L) s.heap H locs → lv_has ls 2 [] → W p l e rm_R_crash s m [.ref (L 0 0), .int a1].toArray below meth c H locs 0 0 (MQ below (va_Qi (fun r (_ : Unit) => r = out.1) (fun _ t => mm_pre G.1 ec_cl (ec_T G) (er_cnt n) L (er_E G L n) out.2 t) (mm_A (er_cnt n) L)) [.ref (L 0 0), .int a1].toArray s 0 0 (mm_A (er_cnt n) L)) (F0 m 44 ls [.int u3]) := by
          intro H locs ls hW hS hl
          obtain rfl := Option.some.inj hf
          exact W.iret (v := u3) hx hb hr (fun t ht hw => ⟨⟨_, (), rfl, rfl, (mm_back ht hw hW hK)⟩, hS.F ht⟩) hS.2.2 d_R_crash_44
        clear hf
        have hf := hu3
        clear hu3
        refine lv_if_eq (tgt := 42) hx hb d_R_crash_34 (by decide) (fun hc => ?_) (fun hc => ?_)
        · rw [if_pos hc] at hf
          refine lv_bipush (v := (-3 : Int32)) hx hb d_R_crash_42 (by decide) ?_
          obtain rfl := Option.some.inj hf
          exact jp2 _ _ _ hW hS (lv_sub hl [] rfl)
        · rw [if_neg hc] at hf
          refine lv_bipush (v := (-2 : Int32)) hx hb d_R_crash_37 (by decide) ?_
          refine lv_goto (tgt := 44) hx hb d_R_crash_39 (by decide) ?_
          obtain rfl := Option.some.inj hf
          exact jp2 _ _ _ hW hS (lv_sub hl [] rfl)
  · rw [if_pos hc] at hf
    refine lv_iconst (v := (-1 : Int32)) hx hb d_R_crash_8 (by decide) ?_
    obtain rfl := Option.some.inj hf
    exact W.iret (v := (-1 : Int32)) hx hb hr (fun t ht hw => ⟨⟨_, (), rfl, rfl, (mm_back ht hw hW hK)⟩, hS.F ht⟩) hS.2.2 d_R_crash_9
abbrev rm_R_restart : Room := { frames := 6, cells := 0, slots := 0, locals := 141 }
set_option maxHeartbeats 4000000 in
set_option maxRecDepth 100000 in
theorem c_R_restart (l : Launch) (G : ec_G) (L : mm_L) (F n : Nat) (hI : mm_I (er_cnt n) L) (σ : mm_M) (a1 : Int32) {out : Int32 × mm_M} (hf : f_R_restart F n σ a1 = some out) :
    Met l y_R_restart (Cond.code y_R_restart b_R_restart 2 (some .int) :: tw_tbl) rm_R_restart (va_Pc [.ref (L 0 0), .int a1] (mm_pre G.1 ec_cl (ec_T G) (er_cnt n) L (er_E G L n) σ))
      (va_Qi (fun r (_ : Unit) => r = out.1) (fun _ t => mm_pre G.1 ec_cl (ec_T G) (er_cnt n) L (er_E G L n) out.2 t) (mm_A (er_cnt n) L)) 0 0 (mm_A (er_cnt n) L) := by
  refine Met.ofW (cc := b_R_restart) (maxL := 2) (ret := (some .int)) (by decide) rfl ?_
  intro p e s m args below meth c s₁ B hml hv
  obtain ⟨rfl, hW, hK⟩ := hv
  have hx := B.exec
  have hb := B.bytes
  have hr := B.returns
  have hts0 := atoms_spec (ws := Cond.code y_R_restart b_R_restart 2 (some .int) :: tw_tbl) B.pre
  have hts : ∀ w ∈ tw_tbl, w.before [.ref (L 0 0), .int a1].toArray s = true := fun w h => hts0 w (List.mem_cons_of_mem _ h)
  clear hts0
  have hown : s.vm.findClass "TwoPhaseCutsModel" = some m.cls := findClass_of_methodNamed B.named
  have hlocks := B.notSynchronized
  have hC : CallFix p m c b_R_restart 2 s [.ref (L 0 0), .int a1].toArray tw_tbl "TwoPhaseCutsModel" := ⟨hx, hb, hml, hown, hts⟩
  have hS : va_S (mm_A (er_cnt n) L) s.heap s.heap [] := va_S.rf
  have hl := lv_entry ([.ref (L 0 0), .int a1]) (n := 2) (Nat.le_of_ble_eq_true rfl)
  rw [lg_entry_eq]
  generalize (lg_sl ([.ref (L 0 0), .int a1]) ++ List.replicate (2 - (lg_sl ([.ref (L 0 0), .int a1])).length) Slot.unset).toArray = ls at hl ⊢
  have hl : lv_has ls 2 [(0, .ref (L 0 0)), (1, .int a1)] := hl
  have hW : mm_W G.1 ec_cl (er_cnt n) L (er_E G L n) σ s.heap := hW
  clear B
  show W p l e rm_R_restart s m [.ref (L 0 0), .int a1].toArray below meth c s.heap [] 0 0 (MQ below (va_Qi (fun r (_ : Unit) => r = out.1) (fun _ t => mm_pre G.1 ec_cl (ec_T G) (er_cnt n) L (er_E G L n) out.2 t) (mm_A (er_cnt n) L)) [.ref (L 0 0), .int a1].toArray s 0 0 (mm_A (er_cnt n) L)) (F0 m 0 ls [])
  unfold f_R_restart at hf
  refine lv_aload_n hx hb d_R_restart_0 rfl (lv_at hl 0 rfl) ?_
  refine lv_iload_n hx hb d_R_restart_1 rfl (lv_at hl 1 rfl) ?_
  obtain ⟨u1, hu1, hf⟩ := mm_bind hf
  refine mm_calli (va_runV (As := [.int a1]) (rest := []) hC (c_R_is l G L F n hI σ a1 hu1) (cwV 1 hts (tw_gV tw_460 tw_462 ts_14 tw_8 tw_463) rfl rfl rfl (by decide +kernel) ⟨Nat.le_of_ble_eq_true rfl, Nat.le_of_ble_eq_true rfl⟩) (mm_preV hK hW (k := 0) (i := 0) (Nat.zero_lt_one) rfl rfl) rfl rfl hl.1 rfl (lv_room (Nat.le_of_ble_eq_true rfl)) d_R_restart_2 ⟨Nat.zero_le _, Nat.zero_le _⟩) hS (fun _ h => h) (fun H locs hW _ _ hS => ?_)
  refine lv_if_ne (tgt := 10) hx hb d_R_restart_5 (by decide) (fun hc => ?_) (fun hc => ?_)
  · rw [if_neg hc] at hf
    refine lv_aload_n hx hb d_R_restart_10 rfl (lv_at hl 0 rfl) ?_
    refine va_get (D := G.1) (ci := 6) (C := "TwoPhaseCutsModel") (T := T_R) (N := 27) (v := .ref (L 10 0)) hx hb hts ui_R hown hK (hW.one (k := 0) (i := 0) (Nat.zero_lt_one)) 0 rfl rfl 9 (by decide) (hts _ tw_383) (fun _ h9 => h9) rfl d_R_restart_11 ?_
    refine lv_iload_n hx hb d_R_restart_14 rfl (lv_at hl 1 rfl) ?_
    obtain ⟨hg1, hf⟩ := mm_guard hf
    refine va_zald (D := G.1) (cl := ec_cl) hx hb hK (hW.one (k := 10) (i := 0) (Nat.zero_lt_one)) 0 1 rfl rfl (mm_vp hg1) d_R_restart_15 ?_
    refine mm_top (y := (σ 10 0 (Int32.toNatClampNeg a1))) rfl ?_
    obtain ⟨u2, hu2, hf⟩ := mm_bind hf
    have jp1 : ∀ (H : Heap) (locs : List Loc) (ls : Array Slot), mm_W G.1 ec_cl (er_cnt n) L (er_E G L n) u2.1 H → va_S (mm_A (er_cnt n) L) s.heap H locs → lv_has ls 2 [] → W p l e rm_R_restart s m [.ref (L 0 0), .int a1].toArray below meth c H locs 0 0 (MQ below (va_Qi (fun r (_ : Unit) => r = out.1) (fun _ t => mm_pre G.1 ec_cl (ec_T G) (er_cnt n) L (er_E G L n) out.2 t) (mm_A (er_cnt n) L)) [.ref (L 0 0), .int a1].toArray s 0 0 (mm_A (er_cnt n) L)) (F0 m 44 ls [.int u2.2]) := by
      intro H locs ls hW hS hl
      obtain rfl := Option.some.inj hf
      exact W.iret (v := u2.2) hx hb hr (fun t ht hw => ⟨⟨_, (), rfl, rfl, (mm_back ht hw hW hK)⟩, hS.F ht⟩) hS.2.2 d_R_restart_44
    clear hf
    have hf := hu2
    clear hu2
    refine lv_if_ne (tgt := 24) hx hb d_R_restart_16 (by decide) (fun hc => ?_) (fun hc => ?_)
    · rw [if_neg hc] at hf
      refine lv_aload_n hx hb d_R_restart_24 rfl (lv_at hl 0 rfl) ?_
      refine va_get (D := G.1) (ci := 6) (C := "TwoPhaseCutsModel") (T := T_R) (N := 27) (v := .ref (L 11 0)) hx hb hts ui_R hown hK (hW.one (k := 0) (i := 0) (Nat.zero_lt_one)) 0 rfl rfl 10 (by decide) (hts _ tw_384) (fun _ h9 => h9) rfl d_R_restart_25 ?_
      refine lv_iload_n hx hb d_R_restart_28 rfl (lv_at hl 1 rfl) ?_
      refine va_iald (D := G.1) (cl := ec_cl) hx hb hK (hW.one (k := 11) (i := 0) (Nat.zero_lt_one)) 0 0 rfl rfl (mm_vp hg1) d_R_restart_29 ?_
      refine mm_top (y := (σ 11 0 (Int32.toNatClampNeg a1))) rfl ?_
      refine lv_if_le (tgt := 38) hx hb d_R_restart_30 (by decide) (fun hc => ?_) (fun hc => ?_)
      · rw [if_pos hc] at hf
        refine lv_aload_n hx hb d_R_restart_38 rfl (lv_at hl 0 rfl) ?_
        refine lv_iload_n hx hb d_R_restart_39 rfl (lv_at hl 1 rfl) ?_
        refine lv_iconst (v := (1 : Int32)) hx hb d_R_restart_40 (by decide) ?_
        obtain ⟨u3, hu3, hf⟩ := mm_bind hf
        refine mm_calli (va_runV (As := [.int a1, .int (1 : Int32)]) (rest := []) hC (c_R_begin l G L F n hI σ a1 (1 : Int32) hu3) (cwV 2 hts (tw_gV tw_552 tw_554 ts_32 tw_8 tw_555) rfl rfl rfl (by decide +kernel) ⟨Nat.le_of_ble_eq_true rfl, Nat.le_of_ble_eq_true rfl⟩) (mm_preV hK hW (k := 0) (i := 0) (Nat.zero_lt_one) rfl rfl) rfl rfl hl.1 rfl (lv_room (Nat.le_of_ble_eq_true rfl)) d_R_restart_41 ⟨Nat.zero_le _, Nat.zero_le _⟩) hS (fun _ h => h) (fun H locs hW _ _ hS => ?_)
        obtain rfl := Option.some.inj hf
        exact jp1 _ _ _ hW hS (lv_sub hl [] rfl)
      · rw [if_neg hc] at hf
        refine lv_bipush (v := (-3 : Int32)) hx hb d_R_restart_33 (by decide) ?_
        refine lv_goto (tgt := 44) hx hb d_R_restart_35 (by decide) ?_
        obtain rfl := Option.some.inj hf
        exact jp1 _ _ _ hW hS (lv_sub hl [] rfl)
    · rw [if_pos hc] at hf
      refine lv_bipush (v := (-2 : Int32)) hx hb d_R_restart_19 (by decide) ?_
      refine lv_goto (tgt := 44) hx hb d_R_restart_21 (by decide) ?_
      obtain rfl := Option.some.inj hf
      exact jp1 _ _ _ hW hS (lv_sub hl [] rfl)
  · rw [if_pos hc] at hf
    refine lv_iconst (v := (-1 : Int32)) hx hb d_R_restart_8 (by decide) ?_
    obtain rfl := Option.some.inj hf
    exact W.iret (v := (-1 : Int32)) hx hb hr (fun t ht hw => ⟨⟨_, (), rfl, rfl, (mm_back ht hw hW hK)⟩, hS.F ht⟩) hS.2.2 d_R_restart_9
abbrev rm_R_value : Room := { frames := 1, cells := 0, slots := 0, locals := 24 }
set_option maxHeartbeats 4000000 in
set_option maxRecDepth 100000 in
theorem c_R_value (l : Launch) (G : ec_G) (L : mm_L) (F n : Nat) (hI : mm_I (er_cnt n) L) (σ : mm_M) (a1 : Int32) {out : Int32} (hf : f_R_value F n σ a1 = some out) :
    Met l y_R_value (Cond.code y_R_value b_R_value 2 (some .int) :: tw_tbl) rm_R_value (va_Pc [.ref (L 0 0), .int a1] (mm_pre G.1 ec_cl (ec_T G) (er_cnt n) L (er_E G L n) σ))
      (va_Qi (fun r (_ : Unit) => r = out) (fun _ t => mm_pre G.1 ec_cl (ec_T G) (er_cnt n) L (er_E G L n) σ t) (mm_A (er_cnt n) L)) 0 0 (mm_A (er_cnt n) L) := by
  refine Met.ofW (cc := b_R_value) (maxL := 2) (ret := (some .int)) (by decide) rfl ?_
  intro p e s m args below meth c s₁ B hml hv
  obtain ⟨rfl, hW, hK⟩ := hv
  have hx := B.exec
  have hb := B.bytes
  have hr := B.returns
  have hts0 := atoms_spec (ws := Cond.code y_R_value b_R_value 2 (some .int) :: tw_tbl) B.pre
  have hts : ∀ w ∈ tw_tbl, w.before [.ref (L 0 0), .int a1].toArray s = true := fun w h => hts0 w (List.mem_cons_of_mem _ h)
  clear hts0
  have hown : s.vm.findClass "TwoPhaseCutsModel" = some m.cls := findClass_of_methodNamed B.named
  have hlocks := B.notSynchronized
  have hC : CallFix p m c b_R_value 2 s [.ref (L 0 0), .int a1].toArray tw_tbl "TwoPhaseCutsModel" := ⟨hx, hb, hml, hown, hts⟩
  have hS : va_S (mm_A (er_cnt n) L) s.heap s.heap [] := va_S.rf
  have hl := lv_entry ([.ref (L 0 0), .int a1]) (n := 2) (Nat.le_of_ble_eq_true rfl)
  rw [lg_entry_eq]
  generalize (lg_sl ([.ref (L 0 0), .int a1]) ++ List.replicate (2 - (lg_sl ([.ref (L 0 0), .int a1])).length) Slot.unset).toArray = ls at hl ⊢
  have hl : lv_has ls 2 [(0, .ref (L 0 0)), (1, .int a1)] := hl
  have hW : mm_W G.1 ec_cl (er_cnt n) L (er_E G L n) σ s.heap := hW
  clear B
  show W p l e rm_R_value s m [.ref (L 0 0), .int a1].toArray below meth c s.heap [] 0 0 (MQ below (va_Qi (fun r (_ : Unit) => r = out) (fun _ t => mm_pre G.1 ec_cl (ec_T G) (er_cnt n) L (er_E G L n) σ t) (mm_A (er_cnt n) L)) [.ref (L 0 0), .int a1].toArray s 0 0 (mm_A (er_cnt n) L)) (F0 m 0 ls [])
  unfold f_R_value at hf
  refine lv_aload_n hx hb d_R_value_0 rfl (lv_at hl 0 rfl) ?_
  refine lv_iload_n hx hb d_R_value_1 rfl (lv_at hl 1 rfl) ?_
  obtain ⟨u1, hu1, hf⟩ := mm_bind hf
  refine mm_calli (va_runV (As := [.int a1]) (rest := []) hC (c_R_is l G L F n hI σ a1 hu1) (cwV 1 hts (tw_gV tw_460 tw_462 ts_14 tw_8 tw_463) rfl rfl rfl (by decide +kernel) ⟨Nat.le_of_ble_eq_true rfl, Nat.le_of_ble_eq_true rfl⟩) (mm_preV hK hW (k := 0) (i := 0) (Nat.zero_lt_one) rfl rfl) rfl rfl hl.1 rfl (lv_room (Nat.le_of_ble_eq_true rfl)) d_R_value_2 ⟨Nat.zero_le _, Nat.zero_le _⟩) hS (fun _ h => h) (fun H locs hW _ _ hS => ?_)
  obtain ⟨u2, hu2, hf⟩ := mm_bind hf
  have jp1 : ∀ (H : Heap) (locs : List Loc) (ls : Array Slot), mm_W G.1 ec_cl (er_cnt n) L (er_E G L n) σ H → va_S (mm_A (er_cnt n) L) s.heap H locs → lv_has ls 2 [] → W p l e rm_R_value s m [.ref (L 0 0), .int a1].toArray below meth c H locs 0 0 (MQ below (va_Qi (fun r (_ : Unit) => r = out) (fun _ t => mm_pre G.1 ec_cl (ec_T G) (er_cnt n) L (er_E G L n) σ t) (mm_A (er_cnt n) L)) [.ref (L 0 0), .int a1].toArray s 0 0 (mm_A (er_cnt n) L)) (F0 m 23 ls [.int u2]) := by
    intro H locs ls hW hS hl
    obtain rfl := Option.some.inj hf
    exact W.iret (v := u2) hx hb hr (fun t ht hw => ⟨⟨_, (), rfl, rfl, (mm_back ht hw hW hK)⟩, hS.F ht⟩) hS.2.2 d_R_value_23
  clear hf
  have hf := hu2
  clear hu2
  refine lv_if_eq (tgt := 22) hx hb d_R_value_5 (by decide) (fun hc => ?_) (fun hc => ?_)
  · rw [if_pos hc] at hf
    refine lv_iconst (v := (0 : Int32)) hx hb d_R_value_22 (by decide) ?_
    obtain rfl := Option.some.inj hf
    exact jp1 _ _ _ hW hS (lv_sub hl [] rfl)
  · rw [if_neg hc] at hf
    refine lv_aload_n hx hb d_R_value_8 rfl (lv_at hl 0 rfl) ?_
    refine lv_iload_n hx hb d_R_value_9 rfl (lv_at hl 1 rfl) ?_
    refine lv_aload_n hx hb d_R_value_10 rfl (lv_at hl 0 rfl) ?_
    refine va_get (D := G.1) (ci := 6) (C := "TwoPhaseCutsModel") (T := T_R) (N := 27) (v := .ref (L 2 0)) hx hb hts ui_R hown hK (hW.one (k := 0) (i := 0) (Nat.zero_lt_one)) 0 rfl rfl 1 (by decide) (hts _ tw_375) (fun _ h9 => h9) rfl d_R_value_11 ?_
    refine lv_iload_n hx hb d_R_value_14 rfl (lv_at hl 1 rfl) ?_
    obtain ⟨hg1, hf⟩ := mm_guard hf
    refine va_iald (D := G.1) (cl := ec_cl) hx hb hK (hW.one (k := 2) (i := 0) (Nat.zero_lt_one)) 0 0 rfl rfl (mm_vp hg1) d_R_value_15 ?_
    refine mm_top (y := (σ 2 0 (Int32.toNatClampNeg a1))) rfl ?_
    obtain ⟨u3, hu3, hf⟩ := mm_bind hf
    refine mm_calli (va_runV (As := [.int a1, .int (σ 2 0 (Int32.toNatClampNeg a1))]) (rest := []) hC (c_R_valueAt l G L F n hI σ a1 (σ 2 0 (Int32.toNatClampNeg a1)) hu3) (cwV 2 hts (tw_gV tw_496 tw_498 ts_21 tw_8 tw_499) rfl rfl rfl (by decide +kernel) ⟨Nat.le_of_ble_eq_true rfl, Nat.le_of_ble_eq_true rfl⟩) (mm_preV hK hW (k := 0) (i := 0) (Nat.zero_lt_one) rfl rfl) rfl rfl hl.1 rfl (lv_room (Nat.le_of_ble_eq_true rfl)) d_R_value_16 ⟨Nat.zero_le _, Nat.zero_le _⟩) hS (fun _ h => h) (fun H locs hW _ _ hS => ?_)
    refine lv_goto (tgt := 23) hx hb d_R_value_19 (by decide) ?_
    obtain rfl := Option.some.inj hf
    exact jp1 _ _ _ hW hS (lv_sub hl [] rfl)
abbrev rm_R_kept : Room := { frames := 1, cells := 0, slots := 0, locals := 24 }
set_option maxHeartbeats 4000000 in
set_option maxRecDepth 100000 in
theorem c_R_kept (l : Launch) (G : ec_G) (L : mm_L) (F n : Nat) (hI : mm_I (er_cnt n) L) (σ : mm_M) (a1 : Int32) {out : Int32} (hf : f_R_kept F n σ a1 = some out) :
    Met l y_R_kept (Cond.code y_R_kept b_R_kept 2 (some .int) :: tw_tbl) rm_R_kept (va_Pc [.ref (L 0 0), .int a1] (mm_pre G.1 ec_cl (ec_T G) (er_cnt n) L (er_E G L n) σ))
      (va_Qi (fun r (_ : Unit) => r = out) (fun _ t => mm_pre G.1 ec_cl (ec_T G) (er_cnt n) L (er_E G L n) σ t) (mm_A (er_cnt n) L)) 0 0 (mm_A (er_cnt n) L) := by
  refine Met.ofW (cc := b_R_kept) (maxL := 2) (ret := (some .int)) (by decide) rfl ?_
  intro p e s m args below meth c s₁ B hml hv
  obtain ⟨rfl, hW, hK⟩ := hv
  have hx := B.exec
  have hb := B.bytes
  have hr := B.returns
  have hts0 := atoms_spec (ws := Cond.code y_R_kept b_R_kept 2 (some .int) :: tw_tbl) B.pre
  have hts : ∀ w ∈ tw_tbl, w.before [.ref (L 0 0), .int a1].toArray s = true := fun w h => hts0 w (List.mem_cons_of_mem _ h)
  clear hts0
  have hown : s.vm.findClass "TwoPhaseCutsModel" = some m.cls := findClass_of_methodNamed B.named
  have hlocks := B.notSynchronized
  have hC : CallFix p m c b_R_kept 2 s [.ref (L 0 0), .int a1].toArray tw_tbl "TwoPhaseCutsModel" := ⟨hx, hb, hml, hown, hts⟩
  have hS : va_S (mm_A (er_cnt n) L) s.heap s.heap [] := va_S.rf
  have hl := lv_entry ([.ref (L 0 0), .int a1]) (n := 2) (Nat.le_of_ble_eq_true rfl)
  rw [lg_entry_eq]
  generalize (lg_sl ([.ref (L 0 0), .int a1]) ++ List.replicate (2 - (lg_sl ([.ref (L 0 0), .int a1])).length) Slot.unset).toArray = ls at hl ⊢
  have hl : lv_has ls 2 [(0, .ref (L 0 0)), (1, .int a1)] := hl
  have hW : mm_W G.1 ec_cl (er_cnt n) L (er_E G L n) σ s.heap := hW
  clear B
  show W p l e rm_R_kept s m [.ref (L 0 0), .int a1].toArray below meth c s.heap [] 0 0 (MQ below (va_Qi (fun r (_ : Unit) => r = out) (fun _ t => mm_pre G.1 ec_cl (ec_T G) (er_cnt n) L (er_E G L n) σ t) (mm_A (er_cnt n) L)) [.ref (L 0 0), .int a1].toArray s 0 0 (mm_A (er_cnt n) L)) (F0 m 0 ls [])
  unfold f_R_kept at hf
  refine lv_aload_n hx hb d_R_kept_0 rfl (lv_at hl 0 rfl) ?_
  refine lv_iload_n hx hb d_R_kept_1 rfl (lv_at hl 1 rfl) ?_
  obtain ⟨u1, hu1, hf⟩ := mm_bind hf
  refine mm_calli (va_runV (As := [.int a1]) (rest := []) hC (c_R_is l G L F n hI σ a1 hu1) (cwV 1 hts (tw_gV tw_460 tw_462 ts_14 tw_8 tw_463) rfl rfl rfl (by decide +kernel) ⟨Nat.le_of_ble_eq_true rfl, Nat.le_of_ble_eq_true rfl⟩) (mm_preV hK hW (k := 0) (i := 0) (Nat.zero_lt_one) rfl rfl) rfl rfl hl.1 rfl (lv_room (Nat.le_of_ble_eq_true rfl)) d_R_kept_2 ⟨Nat.zero_le _, Nat.zero_le _⟩) hS (fun _ h => h) (fun H locs hW _ _ hS => ?_)
  obtain ⟨u2, hu2, hf⟩ := mm_bind hf
  have jp1 : ∀ (H : Heap) (locs : List Loc) (ls : Array Slot), mm_W G.1 ec_cl (er_cnt n) L (er_E G L n) σ H → va_S (mm_A (er_cnt n) L) s.heap H locs → lv_has ls 2 [] → W p l e rm_R_kept s m [.ref (L 0 0), .int a1].toArray below meth c H locs 0 0 (MQ below (va_Qi (fun r (_ : Unit) => r = out) (fun _ t => mm_pre G.1 ec_cl (ec_T G) (er_cnt n) L (er_E G L n) σ t) (mm_A (er_cnt n) L)) [.ref (L 0 0), .int a1].toArray s 0 0 (mm_A (er_cnt n) L)) (F0 m 23 ls [.int u2]) := by
    intro H locs ls hW hS hl
    obtain rfl := Option.some.inj hf
    exact W.iret (v := u2) hx hb hr (fun t ht hw => ⟨⟨_, (), rfl, rfl, (mm_back ht hw hW hK)⟩, hS.F ht⟩) hS.2.2 d_R_kept_23
  clear hf
  have hf := hu2
  clear hu2
  refine lv_if_eq (tgt := 22) hx hb d_R_kept_5 (by decide) (fun hc => ?_) (fun hc => ?_)
  · rw [if_pos hc] at hf
    refine lv_iconst (v := (0 : Int32)) hx hb d_R_kept_22 (by decide) ?_
    obtain rfl := Option.some.inj hf
    exact jp1 _ _ _ hW hS (lv_sub hl [] rfl)
  · rw [if_neg hc] at hf
    refine lv_aload_n hx hb d_R_kept_8 rfl (lv_at hl 0 rfl) ?_
    refine lv_iload_n hx hb d_R_kept_9 rfl (lv_at hl 1 rfl) ?_
    refine lv_aload_n hx hb d_R_kept_10 rfl (lv_at hl 0 rfl) ?_
    refine va_get (D := G.1) (ci := 6) (C := "TwoPhaseCutsModel") (T := T_R) (N := 27) (v := .ref (L 7 0)) hx hb hts ui_R hown hK (hW.one (k := 0) (i := 0) (Nat.zero_lt_one)) 0 rfl rfl 6 (by decide) (hts _ tw_380) (fun _ h9 => h9) rfl d_R_kept_11 ?_
    refine lv_iload_n hx hb d_R_kept_14 rfl (lv_at hl 1 rfl) ?_
    obtain ⟨hg1, hf⟩ := mm_guard hf
    refine va_iald (D := G.1) (cl := ec_cl) hx hb hK (hW.one (k := 7) (i := 0) (Nat.zero_lt_one)) 0 0 rfl rfl (mm_vp hg1) d_R_kept_15 ?_
    refine mm_top (y := (σ 7 0 (Int32.toNatClampNeg a1))) rfl ?_
    obtain ⟨u3, hu3, hf⟩ := mm_bind hf
    refine mm_calli (va_runV (As := [.int a1, .int (σ 7 0 (Int32.toNatClampNeg a1))]) (rest := []) hC (c_R_valueAt l G L F n hI σ a1 (σ 7 0 (Int32.toNatClampNeg a1)) hu3) (cwV 2 hts (tw_gV tw_496 tw_498 ts_21 tw_8 tw_499) rfl rfl rfl (by decide +kernel) ⟨Nat.le_of_ble_eq_true rfl, Nat.le_of_ble_eq_true rfl⟩) (mm_preV hK hW (k := 0) (i := 0) (Nat.zero_lt_one) rfl rfl) rfl rfl hl.1 rfl (lv_room (Nat.le_of_ble_eq_true rfl)) d_R_kept_16 ⟨Nat.zero_le _, Nat.zero_le _⟩) hS (fun _ h => h) (fun H locs hW _ _ hS => ?_)
    refine lv_goto (tgt := 23) hx hb d_R_kept_19 (by decide) ?_
    obtain rfl := Option.some.inj hf
    exact jp1 _ _ _ hW hS (lv_sub hl [] rfl)
abbrev rm_R_label : Room := { frames := 2, cells := 0, slots := 0, locals := 43 }
set_option maxHeartbeats 4000000 in
set_option maxRecDepth 100000 in
theorem c_R_label (l : Launch) (G : ec_G) (L : mm_L) (F n : Nat) (hI : mm_I (er_cnt n) L) (σ : mm_M) (a1 : Int32) (a2 : Int32) (a3 : Int32) {out : Int32} (hf : f_R_label F n σ a1 a2 a3 = some out) :
    Met l y_R_label (Cond.code y_R_label b_R_label 5 (some .int) :: tw_tbl) rm_R_label (va_Pc [.ref (L 0 0), .int a1, .int a2, .int a3] (mm_pre G.1 ec_cl (ec_T G) (er_cnt n) L (er_E G L n) σ))
      (va_Qi (fun r (_ : Unit) => r = out) (fun _ t => mm_pre G.1 ec_cl (ec_T G) (er_cnt n) L (er_E G L n) σ t) (mm_A (er_cnt n) L)) 0 0 (mm_A (er_cnt n) L) := by
  refine Met.ofW (cc := b_R_label) (maxL := 5) (ret := (some .int)) (by decide) rfl ?_
  intro p e s m args below meth c s₁ B hml hv
  obtain ⟨rfl, hW, hK⟩ := hv
  have hx := B.exec
  have hb := B.bytes
  have hr := B.returns
  have hts0 := atoms_spec (ws := Cond.code y_R_label b_R_label 5 (some .int) :: tw_tbl) B.pre
  have hts : ∀ w ∈ tw_tbl, w.before [.ref (L 0 0), .int a1, .int a2, .int a3].toArray s = true := fun w h => hts0 w (List.mem_cons_of_mem _ h)
  clear hts0
  have hown : s.vm.findClass "TwoPhaseCutsModel" = some m.cls := findClass_of_methodNamed B.named
  have hlocks := B.notSynchronized
  have hC : CallFix p m c b_R_label 5 s [.ref (L 0 0), .int a1, .int a2, .int a3].toArray tw_tbl "TwoPhaseCutsModel" := ⟨hx, hb, hml, hown, hts⟩
  have hS : va_S (mm_A (er_cnt n) L) s.heap s.heap [] := va_S.rf
  have hl := lv_entry ([.ref (L 0 0), .int a1, .int a2, .int a3]) (n := 5) (Nat.le_of_ble_eq_true rfl)
  rw [lg_entry_eq]
  generalize (lg_sl ([.ref (L 0 0), .int a1, .int a2, .int a3]) ++ List.replicate (5 - (lg_sl ([.ref (L 0 0), .int a1, .int a2, .int a3])).length) Slot.unset).toArray = ls at hl ⊢
  have hl : lv_has ls 5 [(0, .ref (L 0 0)), (1, .int a1), (2, .int a2), (3, .int a3)] := hl
  have hW : mm_W G.1 ec_cl (er_cnt n) L (er_E G L n) σ s.heap := hW
  clear B
  show W p l e rm_R_label s m [.ref (L 0 0), .int a1, .int a2, .int a3].toArray below meth c s.heap [] 0 0 (MQ below (va_Qi (fun r (_ : Unit) => r = out) (fun _ t => mm_pre G.1 ec_cl (ec_T G) (er_cnt n) L (er_E G L n) σ t) (mm_A (er_cnt n) L)) [.ref (L 0 0), .int a1, .int a2, .int a3].toArray s 0 0 (mm_A (er_cnt n) L)) (F0 m 0 ls [])
  unfold f_R_label at hf
  refine lv_aload_n hx hb d_R_label_0 rfl (lv_at hl 0 rfl) ?_
  refine lv_iload_n hx hb d_R_label_1 rfl (lv_at hl 1 rfl) ?_
  refine lv_iload_n hx hb d_R_label_2 rfl (lv_at hl 2 rfl) ?_
  obtain ⟨u1, hu1, hf⟩ := mm_bind hf
  refine mm_calli (va_runV (As := [.int a1, .int a2]) (rest := []) hC (c_R_pair l G L F n hI σ a1 a2 hu1) (cwV 2 hts (tw_gV tw_476 tw_478 ts_17 tw_8 tw_479) rfl rfl rfl (by decide +kernel) ⟨Nat.le_of_ble_eq_true rfl, Nat.le_of_ble_eq_true rfl⟩) (mm_preV hK hW (k := 0) (i := 0) (Nat.zero_lt_one) rfl rfl) rfl rfl hl.1 rfl (lv_room (Nat.le_of_ble_eq_true rfl)) d_R_label_3 ⟨Nat.zero_le _, Nat.zero_le _⟩) hS (fun _ h => h) (fun H locs hW _ _ hS => ?_)
  refine lv_if_eq (tgt := 18) hx hb d_R_label_6 (by decide) (fun hc => ?_) (fun hc => ?_)
  · rw [if_pos hc] at hf
    refine lv_iconst (v := (-1 : Int32)) hx hb d_R_label_18 (by decide) ?_
    obtain rfl := Option.some.inj hf
    exact W.iret (v := (-1 : Int32)) hx hb hr (fun t ht hw => ⟨⟨_, (), rfl, rfl, (mm_back ht hw hW hK)⟩, hS.F ht⟩) hS.2.2 d_R_label_19
  · rw [if_neg hc] at hf
    refine lv_iload_n hx hb d_R_label_9 rfl (lv_at hl 3 rfl) ?_
    refine lv_if_lt (tgt := 18) hx hb d_R_label_10 (by decide) (fun hc => ?_) (fun hc => ?_)
    · rw [if_pos hc] at hf
      refine lv_iconst (v := (-1 : Int32)) hx hb d_R_label_18 (by decide) ?_
      obtain rfl := Option.some.inj hf
      exact W.iret (v := (-1 : Int32)) hx hb hr (fun t ht hw => ⟨⟨_, (), rfl, rfl, (mm_back ht hw hW hK)⟩, hS.F ht⟩) hS.2.2 d_R_label_19
    · rw [if_neg hc] at hf
      refine lv_iload_n hx hb d_R_label_13 rfl (lv_at hl 3 rfl) ?_
      refine lv_iconst (v := (3 : Int32)) hx hb d_R_label_14 (by decide) ?_
      refine lv_icmp_le (tgt := 20) hx hb d_R_label_15 (by decide) (fun hc => ?_) (fun hc => ?_)
      · rw [if_pos hc] at hf
        refine lv_iload_n hx hb d_R_label_20 rfl (lv_at hl 3 rfl) ?_
        refine lv_iconst (v := (2 : Int32)) hx hb d_R_label_21 (by decide) ?_
        obtain ⟨u2, hu2, hf⟩ := mm_bind hf
        have jp1 : ∀ (H : Heap) (locs : List Loc) (ls : Array Slot), mm_W G.1 ec_cl (er_cnt n) L (er_E G L n) σ H → va_S (mm_A (er_cnt n) L) s.heap H locs → lv_has ls 5 [(0, .ref (L 0 0)), (1, .int a1), (2, .int a2), (3, .int a3)] → W p l e rm_R_label s m [.ref (L 0 0), .int a1, .int a2, .int a3].toArray below meth c H locs 0 0 (MQ below (va_Qi (fun r (_ : Unit) => r = out) (fun _ t => mm_pre G.1 ec_cl (ec_T G) (er_cnt n) L (er_E G L n) σ t) (mm_A (er_cnt n) L)) [.ref (L 0 0), .int a1, .int a2, .int a3].toArray s 0 0 (mm_A (er_cnt n) L)) (F0 m 40 ls [.int u2]) := by
          intro H locs ls hW hS hl
          refine lv_istore (lv' := [(4, .int u2), (0, .ref (L 0 0)), (1, .int a1), (2, .int a2), (3, .int a3)]) hx hb d_R_label_40 hl (by decide) rfl (fun ls hl => ?_)
          refine lv_iload_n hx hb d_R_label_42 rfl (lv_at hl 4 rfl) ?_
          refine lv_iconst (v := (2 : Int32)) hx hb d_R_label_43 (by decide) ?_
          refine lv_irem hx hb d_R_label_44 (by decide) ?_
          obtain ⟨u3, hu3, hf⟩ := mm_bind hf
          have jp2 : ∀ (H : Heap) (locs : List Loc) (ls : Array Slot), mm_W G.1 ec_cl (er_cnt n) L (er_E G L n) σ H → va_S (mm_A (er_cnt n) L) s.heap H locs → lv_has ls 5 [] → W p l e rm_R_label s m [.ref (L 0 0), .int a1, .int a2, .int a3].toArray below meth c H locs 0 0 (MQ below (va_Qi (fun r (_ : Unit) => r = out) (fun _ t => mm_pre G.1 ec_cl (ec_T G) (er_cnt n) L (er_E G L n) σ t) (mm_A (er_cnt n) L)) [.ref (L 0 0), .int a1, .int a2, .int a3].toArray s 0 0 (mm_A (er_cnt n) L)) (F0 m 67 ls [.int u3]) := by
            intro H locs ls hW hS hl
            obtain rfl := Option.some.inj hf
            exact W.iret (v := u3) hx hb hr (fun t ht hw => ⟨⟨_, (), rfl, rfl, (mm_back ht hw hW hK)⟩, hS.F ht⟩) hS.2.2 d_R_label_67
          clear hf
          have hf := hu3
          clear hu3
          refine lv_if_ne (tgt := 59) hx hb d_R_label_45 (by decide) (fun hc => ?_) (fun hc => ?_)
          · rw [if_neg hc] at hf
            refine lv_aload_n hx hb d_R_label_59 rfl (lv_at hl 1 rfl) ?_
            refine lv_iload_n hx hb d_R_label_60 rfl (lv_at hl 2 rfl) ?_
            refine lv_iload_n hx hb d_R_label_61 rfl (lv_at hl 3 rfl) ?_
            refine lv_iload hx hb d_R_label_62 (lv_at hl 0 rfl) ?_
            obtain ⟨u4, hu4, hf⟩ := mm_bind hf
            refine mm_calli (va_runV (As := [.int a1, .int a2, .int u2]) (rest := []) hC (c_R_receivedAt l G L F n hI σ a1 a2 u2 hu4) (cwV 3 hts (tw_gV tw_520 tw_522 ts_25 tw_8 tw_523) rfl rfl rfl (by decide +kernel) ⟨Nat.le_of_ble_eq_true rfl, Nat.le_of_ble_eq_true rfl⟩) (mm_preV hK hW (k := 0) (i := 0) (Nat.zero_lt_one) rfl rfl) rfl rfl hl.1 rfl (lv_room (Nat.le_of_ble_eq_true rfl)) d_R_label_64 ⟨Nat.zero_le _, Nat.zero_le _⟩) hS (fun _ h => h) (fun H locs hW _ _ hS => ?_)
            obtain rfl := Option.some.inj hf
            exact jp2 _ _ _ hW hS (lv_sub hl [] rfl)
          · rw [if_pos hc] at hf
            refine lv_aload_n hx hb d_R_label_48 rfl (lv_at hl 1 rfl) ?_
            refine lv_iload_n hx hb d_R_label_49 rfl (lv_at hl 2 rfl) ?_
            refine lv_iload_n hx hb d_R_label_50 rfl (lv_at hl 3 rfl) ?_
            refine lv_iload hx hb d_R_label_51 (lv_at hl 0 rfl) ?_
            obtain ⟨u5, hu5, hf⟩ := mm_bind hf
            refine mm_calli (va_runV (As := [.int a1, .int a2, .int u2]) (rest := []) hC (c_R_sentAt l G L F n hI σ a1 a2 u2 hu5) (cwV 3 hts (tw_gV tw_484 tw_486 ts_19 tw_8 tw_487) rfl rfl rfl (by decide +kernel) ⟨Nat.le_of_ble_eq_true rfl, Nat.le_of_ble_eq_true rfl⟩) (mm_preV hK hW (k := 0) (i := 0) (Nat.zero_lt_one) rfl rfl) rfl rfl hl.1 rfl (lv_room (Nat.le_of_ble_eq_true rfl)) d_R_label_53 ⟨Nat.zero_le _, Nat.zero_le _⟩) hS (fun _ h => h) (fun H locs hW _ _ hS => ?_)
            refine lv_goto (tgt := 67) hx hb d_R_label_56 (by decide) ?_
            obtain rfl := Option.some.inj hf
            exact jp2 _ _ _ hW hS (lv_sub hl [] rfl)
        clear hf
        have hf := hu2
        clear hu2
        refine lv_icmp_ge (tgt := 34) hx hb d_R_label_22 (by decide) (fun hc => ?_) (fun hc => ?_)
        · rw [if_pos hc] at hf
          refine lv_aload_n hx hb d_R_label_34 rfl (lv_at hl 0 rfl) ?_
          refine va_get (D := G.1) (ci := 6) (C := "TwoPhaseCutsModel") (T := T_R) (N := 27) (v := .ref (L 7 0)) hx hb hts ui_R hown hK (hW.one (k := 0) (i := 0) (Nat.zero_lt_one)) 0 rfl rfl 6 (by decide) (hts _ tw_380) (fun _ h9 => h9) rfl d_R_label_35 ?_
          refine lv_iload_n hx hb d_R_label_38 rfl (lv_at hl 1 rfl) ?_
          obtain ⟨hg1, hf⟩ := mm_guard hf
          refine va_iald (D := G.1) (cl := ec_cl) hx hb hK (hW.one (k := 7) (i := 0) (Nat.zero_lt_one)) 0 0 rfl rfl (mm_vp hg1) d_R_label_39 ?_
          refine mm_top (y := (σ 7 0 (Int32.toNatClampNeg a1))) rfl ?_
          obtain rfl := Option.some.inj hf
          exact jp1 _ _ _ hW hS (lv_sub hl [0, 1, 2, 3] rfl)
        · rw [if_neg hc] at hf
          refine lv_aload_n hx hb d_R_label_25 rfl (lv_at hl 0 rfl) ?_
          refine va_get (D := G.1) (ci := 6) (C := "TwoPhaseCutsModel") (T := T_R) (N := 27) (v := .ref (L 2 0)) hx hb hts ui_R hown hK (hW.one (k := 0) (i := 0) (Nat.zero_lt_one)) 0 rfl rfl 1 (by decide) (hts _ tw_375) (fun _ h9 => h9) rfl d_R_label_26 ?_
          refine lv_iload_n hx hb d_R_label_29 rfl (lv_at hl 1 rfl) ?_
          obtain ⟨hg2, hf⟩ := mm_guard hf
          refine va_iald (D := G.1) (cl := ec_cl) hx hb hK (hW.one (k := 2) (i := 0) (Nat.zero_lt_one)) 0 0 rfl rfl (mm_vp hg2) d_R_label_30 ?_
          refine mm_top (y := (σ 2 0 (Int32.toNatClampNeg a1))) rfl ?_
          refine lv_goto (tgt := 40) hx hb d_R_label_31 (by decide) ?_
          obtain rfl := Option.some.inj hf
          exact jp1 _ _ _ hW hS (lv_sub hl [0, 1, 2, 3] rfl)
      · rw [if_neg hc] at hf
        refine lv_iconst (v := (-1 : Int32)) hx hb d_R_label_18 (by decide) ?_
        obtain rfl := Option.some.inj hf
        exact W.iret (v := (-1 : Int32)) hx hb hr (fun t ht hw => ⟨⟨_, (), rfl, rfl, (mm_back ht hw hW hK)⟩, hS.F ht⟩) hS.2.2 d_R_label_19
abbrev rm_R_waiting : Room := { frames := 2, cells := 0, slots := 0, locals := 47 }
set_option maxHeartbeats 4000000 in
set_option maxRecDepth 100000 in
theorem c_R_waiting (l : Launch) (G : ec_G) (L : mm_L) (F n : Nat) (hI : mm_I (er_cnt n) L) (σ : mm_M) (a1 : Int32) (a2 : Int32) {out : Int32} (hf : f_R_waiting F n σ a1 a2 = some out) :
    Met l y_R_waiting (Cond.code y_R_waiting b_R_waiting 3 (some .int) :: tw_tbl) rm_R_waiting (va_Pc [.ref (L 0 0), .int a1, .int a2] (mm_pre G.1 ec_cl (ec_T G) (er_cnt n) L (er_E G L n) σ))
      (va_Qi (fun r (_ : Unit) => r = out) (fun _ t => mm_pre G.1 ec_cl (ec_T G) (er_cnt n) L (er_E G L n) σ t) (mm_A (er_cnt n) L)) 0 0 (mm_A (er_cnt n) L) := by
  refine Met.ofW (cc := b_R_waiting) (maxL := 3) (ret := (some .int)) (by decide) rfl ?_
  intro p e s m args below meth c s₁ B hml hv
  obtain ⟨rfl, hW, hK⟩ := hv
  have hx := B.exec
  have hb := B.bytes
  have hr := B.returns
  have hts0 := atoms_spec (ws := Cond.code y_R_waiting b_R_waiting 3 (some .int) :: tw_tbl) B.pre
  have hts : ∀ w ∈ tw_tbl, w.before [.ref (L 0 0), .int a1, .int a2].toArray s = true := fun w h => hts0 w (List.mem_cons_of_mem _ h)
  clear hts0
  have hown : s.vm.findClass "TwoPhaseCutsModel" = some m.cls := findClass_of_methodNamed B.named
  have hlocks := B.notSynchronized
  have hC : CallFix p m c b_R_waiting 3 s [.ref (L 0 0), .int a1, .int a2].toArray tw_tbl "TwoPhaseCutsModel" := ⟨hx, hb, hml, hown, hts⟩
  have hS : va_S (mm_A (er_cnt n) L) s.heap s.heap [] := va_S.rf
  have hl := lv_entry ([.ref (L 0 0), .int a1, .int a2]) (n := 3) (Nat.le_of_ble_eq_true rfl)
  rw [lg_entry_eq]
  generalize (lg_sl ([.ref (L 0 0), .int a1, .int a2]) ++ List.replicate (3 - (lg_sl ([.ref (L 0 0), .int a1, .int a2])).length) Slot.unset).toArray = ls at hl ⊢
  have hl : lv_has ls 3 [(0, .ref (L 0 0)), (1, .int a1), (2, .int a2)] := hl
  have hW : mm_W G.1 ec_cl (er_cnt n) L (er_E G L n) σ s.heap := hW
  clear B
  show W p l e rm_R_waiting s m [.ref (L 0 0), .int a1, .int a2].toArray below meth c s.heap [] 0 0 (MQ below (va_Qi (fun r (_ : Unit) => r = out) (fun _ t => mm_pre G.1 ec_cl (ec_T G) (er_cnt n) L (er_E G L n) σ t) (mm_A (er_cnt n) L)) [.ref (L 0 0), .int a1, .int a2].toArray s 0 0 (mm_A (er_cnt n) L)) (F0 m 0 ls [])
  unfold f_R_waiting at hf
  refine lv_aload_n hx hb d_R_waiting_0 rfl (lv_at hl 0 rfl) ?_
  refine lv_iload_n hx hb d_R_waiting_1 rfl (lv_at hl 1 rfl) ?_
  refine lv_iload_n hx hb d_R_waiting_2 rfl (lv_at hl 2 rfl) ?_
  obtain ⟨u1, hu1, hf⟩ := mm_bind hf
  refine mm_calli (va_runV (As := [.int a1, .int a2]) (rest := []) hC (c_R_pair l G L F n hI σ a1 a2 hu1) (cwV 2 hts (tw_gV tw_476 tw_478 ts_17 tw_8 tw_479) rfl rfl rfl (by decide +kernel) ⟨Nat.le_of_ble_eq_true rfl, Nat.le_of_ble_eq_true rfl⟩) (mm_preV hK hW (k := 0) (i := 0) (Nat.zero_lt_one) rfl rfl) rfl rfl hl.1 rfl (lv_room (Nat.le_of_ble_eq_true rfl)) d_R_waiting_3 ⟨Nat.zero_le _, Nat.zero_le _⟩) hS (fun _ h => h) (fun H locs hW _ _ hS => ?_)
  obtain ⟨u2, hu2, hf⟩ := mm_bind hf
  have jp1 : ∀ (H : Heap) (locs : List Loc) (ls : Array Slot), mm_W G.1 ec_cl (er_cnt n) L (er_E G L n) σ H → va_S (mm_A (er_cnt n) L) s.heap H locs → lv_has ls 3 [] → W p l e rm_R_waiting s m [.ref (L 0 0), .int a1, .int a2].toArray below meth c H locs 0 0 (MQ below (va_Qi (fun r (_ : Unit) => r = out) (fun _ t => mm_pre G.1 ec_cl (ec_T G) (er_cnt n) L (er_E G L n) σ t) (mm_A (er_cnt n) L)) [.ref (L 0 0), .int a1, .int a2].toArray s 0 0 (mm_A (er_cnt n) L)) (F0 m 19 ls [.int u2]) := by
    intro H locs ls hW hS hl
    obtain rfl := Option.some.inj hf
    exact W.iret (v := u2) hx hb hr (fun t ht hw => ⟨⟨_, (), rfl, rfl, (mm_back ht hw hW hK)⟩, hS.F ht⟩) hS.2.2 d_R_waiting_19
  clear hf
  have hf := hu2
  clear hu2
  refine lv_if_eq (tgt := 18) hx hb d_R_waiting_6 (by decide) (fun hc => ?_) (fun hc => ?_)
  · rw [if_pos hc] at hf
    refine lv_iconst (v := (-1 : Int32)) hx hb d_R_waiting_18 (by decide) ?_
    obtain rfl := Option.some.inj hf
    exact jp1 _ _ _ hW hS (lv_sub hl [] rfl)
  · rw [if_neg hc] at hf
    refine lv_aload_n hx hb d_R_waiting_9 rfl (lv_at hl 0 rfl) ?_
    refine lv_iload_n hx hb d_R_waiting_10 rfl (lv_at hl 1 rfl) ?_
    refine lv_iload_n hx hb d_R_waiting_11 rfl (lv_at hl 2 rfl) ?_
    obtain ⟨u3, hu3, hf⟩ := mm_bind hf
    refine mm_calli (va_runV (As := [.int a1, .int a2]) (rest := []) hC (c_R_inChannel l G L F n hI σ a1 a2 hu3) (cwV 2 hts (tw_gV tw_480 tw_482 ts_18 tw_8 tw_483) rfl rfl rfl (by decide +kernel) ⟨Nat.le_of_ble_eq_true rfl, Nat.le_of_ble_eq_true rfl⟩) (mm_preV hK hW (k := 0) (i := 0) (Nat.zero_lt_one) rfl rfl) rfl rfl hl.1 rfl (lv_room (Nat.le_of_ble_eq_true rfl)) d_R_waiting_12 ⟨Nat.zero_le _, Nat.zero_le _⟩) hS (fun _ h => h) (fun H locs hW _ _ hS => ?_)
    refine lv_goto (tgt := 19) hx hb d_R_waiting_15 (by decide) ?_
    obtain rfl := Option.some.inj hf
    exact jp1 _ _ _ hW hS (lv_sub hl [] rfl)
abbrev rm_R_down : Room := { frames := 1, cells := 0, slots := 0, locals := 21 }
set_option maxHeartbeats 4000000 in
set_option maxRecDepth 100000 in
theorem c_R_down (l : Launch) (G : ec_G) (L : mm_L) (F n : Nat) (hI : mm_I (er_cnt n) L) (σ : mm_M) (a1 : Int32) {out : Int32} (hf : f_R_down F n σ a1 = some out) :
    Met l y_R_down (Cond.code y_R_down b_R_down 2 (some .boolean) :: tw_tbl) rm_R_down (va_Pc [.ref (L 0 0), .int a1] (mm_pre G.1 ec_cl (ec_T G) (er_cnt n) L (er_E G L n) σ))
      (va_Qi (fun r (_ : Unit) => r = out) (fun _ t => mm_pre G.1 ec_cl (ec_T G) (er_cnt n) L (er_E G L n) σ t) (mm_A (er_cnt n) L)) 0 0 (mm_A (er_cnt n) L) := by
  refine Met.ofW (cc := b_R_down) (maxL := 2) (ret := (some .boolean)) (by decide) rfl ?_
  intro p e s m args below meth c s₁ B hml hv
  obtain ⟨rfl, hW, hK⟩ := hv
  have hx := B.exec
  have hb := B.bytes
  have hr := B.returns
  have hts0 := atoms_spec (ws := Cond.code y_R_down b_R_down 2 (some .boolean) :: tw_tbl) B.pre
  have hts : ∀ w ∈ tw_tbl, w.before [.ref (L 0 0), .int a1].toArray s = true := fun w h => hts0 w (List.mem_cons_of_mem _ h)
  clear hts0
  have hown : s.vm.findClass "TwoPhaseCutsModel" = some m.cls := findClass_of_methodNamed B.named
  have hlocks := B.notSynchronized
  have hC : CallFix p m c b_R_down 2 s [.ref (L 0 0), .int a1].toArray tw_tbl "TwoPhaseCutsModel" := ⟨hx, hb, hml, hown, hts⟩
  have hS : va_S (mm_A (er_cnt n) L) s.heap s.heap [] := va_S.rf
  have hl := lv_entry ([.ref (L 0 0), .int a1]) (n := 2) (Nat.le_of_ble_eq_true rfl)
  rw [lg_entry_eq]
  generalize (lg_sl ([.ref (L 0 0), .int a1]) ++ List.replicate (2 - (lg_sl ([.ref (L 0 0), .int a1])).length) Slot.unset).toArray = ls at hl ⊢
  have hl : lv_has ls 2 [(0, .ref (L 0 0)), (1, .int a1)] := hl
  have hW : mm_W G.1 ec_cl (er_cnt n) L (er_E G L n) σ s.heap := hW
  clear B
  show W p l e rm_R_down s m [.ref (L 0 0), .int a1].toArray below meth c s.heap [] 0 0 (MQ below (va_Qi (fun r (_ : Unit) => r = out) (fun _ t => mm_pre G.1 ec_cl (ec_T G) (er_cnt n) L (er_E G L n) σ t) (mm_A (er_cnt n) L)) [.ref (L 0 0), .int a1].toArray s 0 0 (mm_A (er_cnt n) L)) (F0 m 0 ls [])
  unfold f_R_down at hf
  refine lv_aload_n hx hb d_R_down_0 rfl (lv_at hl 0 rfl) ?_
  refine lv_iload_n hx hb d_R_down_1 rfl (lv_at hl 1 rfl) ?_
  obtain ⟨u1, hu1, hf⟩ := mm_bind hf
  refine mm_calli (va_runV (As := [.int a1]) (rest := []) hC (c_R_is l G L F n hI σ a1 hu1) (cwV 1 hts (tw_gV tw_460 tw_462 ts_14 tw_8 tw_463) rfl rfl rfl (by decide +kernel) ⟨Nat.le_of_ble_eq_true rfl, Nat.le_of_ble_eq_true rfl⟩) (mm_preV hK hW (k := 0) (i := 0) (Nat.zero_lt_one) rfl rfl) rfl rfl hl.1 rfl (lv_room (Nat.le_of_ble_eq_true rfl)) d_R_down_2 ⟨Nat.zero_le _, Nat.zero_le _⟩) hS (fun _ h => h) (fun H locs hW _ _ hS => ?_)
  obtain ⟨u2, hu2, hf⟩ := mm_bind hf
  have jp1 : ∀ (H : Heap) (locs : List Loc) (ls : Array Slot), mm_W G.1 ec_cl (er_cnt n) L (er_E G L n) σ H → va_S (mm_A (er_cnt n) L) s.heap H locs → lv_has ls 2 [] → W p l e rm_R_down s m [.ref (L 0 0), .int a1].toArray below meth c H locs 0 0 (MQ below (va_Qi (fun r (_ : Unit) => r = out) (fun _ t => mm_pre G.1 ec_cl (ec_T G) (er_cnt n) L (er_E G L n) σ t) (mm_A (er_cnt n) L)) [.ref (L 0 0), .int a1].toArray s 0 0 (mm_A (er_cnt n) L)) (F0 m 22 ls [.int u2]) := by
    intro H locs ls hW hS hl
    obtain ⟨hz1, hf⟩ := mm_guard hf
    obtain rfl := Option.some.inj hf
    exact W.zret (v := u2) hx hb hr (mm_zn hz1) (fun t ht hw => ⟨⟨_, (), rfl, rfl, (mm_back ht hw hW hK)⟩, hS.F ht⟩) hS.2.2 d_R_down_22
  clear hf
  have hf := hu2
  clear hu2
  refine lv_if_eq (tgt := 21) hx hb d_R_down_5 (by decide) (fun hc => ?_) (fun hc => ?_)
  · rw [if_pos hc] at hf
    refine lv_iconst (v := (0 : Int32)) hx hb d_R_down_21 (by decide) ?_
    obtain rfl := Option.some.inj hf
    exact jp1 _ _ _ hW hS (lv_sub hl [] rfl)
  · rw [if_neg hc] at hf
    refine lv_aload_n hx hb d_R_down_8 rfl (lv_at hl 0 rfl) ?_
    refine va_get (D := G.1) (ci := 6) (C := "TwoPhaseCutsModel") (T := T_R) (N := 27) (v := .ref (L 10 0)) hx hb hts ui_R hown hK (hW.one (k := 0) (i := 0) (Nat.zero_lt_one)) 0 rfl rfl 9 (by decide) (hts _ tw_383) (fun _ h9 => h9) rfl d_R_down_9 ?_
    refine lv_iload_n hx hb d_R_down_12 rfl (lv_at hl 1 rfl) ?_
    obtain ⟨hg2, hf⟩ := mm_guard hf
    refine va_zald (D := G.1) (cl := ec_cl) hx hb hK (hW.one (k := 10) (i := 0) (Nat.zero_lt_one)) 0 1 rfl rfl (mm_vp hg2) d_R_down_13 ?_
    refine mm_top (y := (σ 10 0 (Int32.toNatClampNeg a1))) rfl ?_
    refine lv_if_eq (tgt := 21) hx hb d_R_down_14 (by decide) (fun hc => ?_) (fun hc => ?_)
    · rw [if_pos hc] at hf
      refine lv_iconst (v := (0 : Int32)) hx hb d_R_down_21 (by decide) ?_
      obtain rfl := Option.some.inj hf
      exact jp1 _ _ _ hW hS (lv_sub hl [] rfl)
    · rw [if_neg hc] at hf
      refine lv_iconst (v := (1 : Int32)) hx hb d_R_down_17 (by decide) ?_
      refine lv_goto (tgt := 22) hx hb d_R_down_18 (by decide) ?_
      obtain rfl := Option.some.inj hf
      exact jp1 _ _ _ hW hS (lv_sub hl [] rfl)
abbrev rm_R_instance : Room := { frames := 1, cells := 0, slots := 0, locals := 21 }
set_option maxHeartbeats 4000000 in
set_option maxRecDepth 100000 in
theorem c_R_instance (l : Launch) (G : ec_G) (L : mm_L) (F n : Nat) (hI : mm_I (er_cnt n) L) (σ : mm_M) (a1 : Int32) {out : Int32} (hf : f_R_instance F n σ a1 = some out) :
    Met l y_R_instance (Cond.code y_R_instance b_R_instance 2 (some .int) :: tw_tbl) rm_R_instance (va_Pc [.ref (L 0 0), .int a1] (mm_pre G.1 ec_cl (ec_T G) (er_cnt n) L (er_E G L n) σ))
      (va_Qi (fun r (_ : Unit) => r = out) (fun _ t => mm_pre G.1 ec_cl (ec_T G) (er_cnt n) L (er_E G L n) σ t) (mm_A (er_cnt n) L)) 0 0 (mm_A (er_cnt n) L) := by
  refine Met.ofW (cc := b_R_instance) (maxL := 2) (ret := (some .int)) (by decide) rfl ?_
  intro p e s m args below meth c s₁ B hml hv
  obtain ⟨rfl, hW, hK⟩ := hv
  have hx := B.exec
  have hb := B.bytes
  have hr := B.returns
  have hts0 := atoms_spec (ws := Cond.code y_R_instance b_R_instance 2 (some .int) :: tw_tbl) B.pre
  have hts : ∀ w ∈ tw_tbl, w.before [.ref (L 0 0), .int a1].toArray s = true := fun w h => hts0 w (List.mem_cons_of_mem _ h)
  clear hts0
  have hown : s.vm.findClass "TwoPhaseCutsModel" = some m.cls := findClass_of_methodNamed B.named
  have hlocks := B.notSynchronized
  have hC : CallFix p m c b_R_instance 2 s [.ref (L 0 0), .int a1].toArray tw_tbl "TwoPhaseCutsModel" := ⟨hx, hb, hml, hown, hts⟩
  have hS : va_S (mm_A (er_cnt n) L) s.heap s.heap [] := va_S.rf
  have hl := lv_entry ([.ref (L 0 0), .int a1]) (n := 2) (Nat.le_of_ble_eq_true rfl)
  rw [lg_entry_eq]
  generalize (lg_sl ([.ref (L 0 0), .int a1]) ++ List.replicate (2 - (lg_sl ([.ref (L 0 0), .int a1])).length) Slot.unset).toArray = ls at hl ⊢
  have hl : lv_has ls 2 [(0, .ref (L 0 0)), (1, .int a1)] := hl
  have hW : mm_W G.1 ec_cl (er_cnt n) L (er_E G L n) σ s.heap := hW
  clear B
  show W p l e rm_R_instance s m [.ref (L 0 0), .int a1].toArray below meth c s.heap [] 0 0 (MQ below (va_Qi (fun r (_ : Unit) => r = out) (fun _ t => mm_pre G.1 ec_cl (ec_T G) (er_cnt n) L (er_E G L n) σ t) (mm_A (er_cnt n) L)) [.ref (L 0 0), .int a1].toArray s 0 0 (mm_A (er_cnt n) L)) (F0 m 0 ls [])
  unfold f_R_instance at hf
  refine lv_aload_n hx hb d_R_instance_0 rfl (lv_at hl 0 rfl) ?_
  refine lv_iload_n hx hb d_R_instance_1 rfl (lv_at hl 1 rfl) ?_
  obtain ⟨u1, hu1, hf⟩ := mm_bind hf
  refine mm_calli (va_runV (As := [.int a1]) (rest := []) hC (c_R_is l G L F n hI σ a1 hu1) (cwV 1 hts (tw_gV tw_460 tw_462 ts_14 tw_8 tw_463) rfl rfl rfl (by decide +kernel) ⟨Nat.le_of_ble_eq_true rfl, Nat.le_of_ble_eq_true rfl⟩) (mm_preV hK hW (k := 0) (i := 0) (Nat.zero_lt_one) rfl rfl) rfl rfl hl.1 rfl (lv_room (Nat.le_of_ble_eq_true rfl)) d_R_instance_2 ⟨Nat.zero_le _, Nat.zero_le _⟩) hS (fun _ h => h) (fun H locs hW _ _ hS => ?_)
  obtain ⟨u2, hu2, hf⟩ := mm_bind hf
  have jp1 : ∀ (H : Heap) (locs : List Loc) (ls : Array Slot), mm_W G.1 ec_cl (er_cnt n) L (er_E G L n) σ H → va_S (mm_A (er_cnt n) L) s.heap H locs → lv_has ls 2 [] → W p l e rm_R_instance s m [.ref (L 0 0), .int a1].toArray below meth c H locs 0 0 (MQ below (va_Qi (fun r (_ : Unit) => r = out) (fun _ t => mm_pre G.1 ec_cl (ec_T G) (er_cnt n) L (er_E G L n) σ t) (mm_A (er_cnt n) L)) [.ref (L 0 0), .int a1].toArray s 0 0 (mm_A (er_cnt n) L)) (F0 m 18 ls [.int u2]) := by
    intro H locs ls hW hS hl
    obtain rfl := Option.some.inj hf
    exact W.iret (v := u2) hx hb hr (fun t ht hw => ⟨⟨_, (), rfl, rfl, (mm_back ht hw hW hK)⟩, hS.F ht⟩) hS.2.2 d_R_instance_18
  clear hf
  have hf := hu2
  clear hu2
  refine lv_if_eq (tgt := 17) hx hb d_R_instance_5 (by decide) (fun hc => ?_) (fun hc => ?_)
  · rw [if_pos hc] at hf
    refine lv_iconst (v := (-1 : Int32)) hx hb d_R_instance_17 (by decide) ?_
    obtain rfl := Option.some.inj hf
    exact jp1 _ _ _ hW hS (lv_sub hl [] rfl)
  · rw [if_neg hc] at hf
    refine lv_aload_n hx hb d_R_instance_8 rfl (lv_at hl 0 rfl) ?_
    refine va_get (D := G.1) (ci := 6) (C := "TwoPhaseCutsModel") (T := T_R) (N := 27) (v := .ref (L 11 0)) hx hb hts ui_R hown hK (hW.one (k := 0) (i := 0) (Nat.zero_lt_one)) 0 rfl rfl 10 (by decide) (hts _ tw_384) (fun _ h9 => h9) rfl d_R_instance_9 ?_
    refine lv_iload_n hx hb d_R_instance_12 rfl (lv_at hl 1 rfl) ?_
    obtain ⟨hg1, hf⟩ := mm_guard hf
    refine va_iald (D := G.1) (cl := ec_cl) hx hb hK (hW.one (k := 11) (i := 0) (Nat.zero_lt_one)) 0 0 rfl rfl (mm_vp hg1) d_R_instance_13 ?_
    refine mm_top (y := (σ 11 0 (Int32.toNatClampNeg a1))) rfl ?_
    refine lv_goto (tgt := 18) hx hb d_R_instance_14 (by decide) ?_
    obtain rfl := Option.some.inj hf
    exact jp1 _ _ _ hW hS (lv_sub hl [] rfl)
abbrev rm_R_decision : Room := { frames := 0, cells := 0, slots := 0, locals := 0 }
set_option maxHeartbeats 4000000 in
set_option maxRecDepth 100000 in
theorem c_R_decision (l : Launch) (G : ec_G) (L : mm_L) (F n : Nat) (hI : mm_I (er_cnt n) L) (σ : mm_M) (a1 : Int32) {out : Int32} (hf : f_R_decision F n σ a1 = some out) :
    Met l y_R_decision (Cond.code y_R_decision b_R_decision 2 (some .int) :: tw_tbl) rm_R_decision (va_Pc [.ref (L 0 0), .int a1] (mm_pre G.1 ec_cl (ec_T G) (er_cnt n) L (er_E G L n) σ))
      (va_Qi (fun r (_ : Unit) => r = out) (fun _ t => mm_pre G.1 ec_cl (ec_T G) (er_cnt n) L (er_E G L n) σ t) (mm_A (er_cnt n) L)) 0 0 (mm_A (er_cnt n) L) := by
  refine Met.ofW (cc := b_R_decision) (maxL := 2) (ret := (some .int)) (by decide) rfl ?_
  intro p e s m args below meth c s₁ B hml hv
  obtain ⟨rfl, hW, hK⟩ := hv
  have hx := B.exec
  have hb := B.bytes
  have hr := B.returns
  have hts0 := atoms_spec (ws := Cond.code y_R_decision b_R_decision 2 (some .int) :: tw_tbl) B.pre
  have hts : ∀ w ∈ tw_tbl, w.before [.ref (L 0 0), .int a1].toArray s = true := fun w h => hts0 w (List.mem_cons_of_mem _ h)
  clear hts0
  have hown : s.vm.findClass "TwoPhaseCutsModel" = some m.cls := findClass_of_methodNamed B.named
  have hlocks := B.notSynchronized
  have hC : CallFix p m c b_R_decision 2 s [.ref (L 0 0), .int a1].toArray tw_tbl "TwoPhaseCutsModel" := ⟨hx, hb, hml, hown, hts⟩
  have hS : va_S (mm_A (er_cnt n) L) s.heap s.heap [] := va_S.rf
  have hl := lv_entry ([.ref (L 0 0), .int a1]) (n := 2) (Nat.le_of_ble_eq_true rfl)
  rw [lg_entry_eq]
  generalize (lg_sl ([.ref (L 0 0), .int a1]) ++ List.replicate (2 - (lg_sl ([.ref (L 0 0), .int a1])).length) Slot.unset).toArray = ls at hl ⊢
  have hl : lv_has ls 2 [(0, .ref (L 0 0)), (1, .int a1)] := hl
  have hW : mm_W G.1 ec_cl (er_cnt n) L (er_E G L n) σ s.heap := hW
  clear B
  show W p l e rm_R_decision s m [.ref (L 0 0), .int a1].toArray below meth c s.heap [] 0 0 (MQ below (va_Qi (fun r (_ : Unit) => r = out) (fun _ t => mm_pre G.1 ec_cl (ec_T G) (er_cnt n) L (er_E G L n) σ t) (mm_A (er_cnt n) L)) [.ref (L 0 0), .int a1].toArray s 0 0 (mm_A (er_cnt n) L)) (F0 m 0 ls [])
  unfold f_R_decision at hf
  refine lv_iload_n hx hb d_R_decision_0 rfl (lv_at hl 1 rfl) ?_
  refine lv_iconst (v := (1 : Int32)) hx hb d_R_decision_1 (by decide) ?_
  obtain ⟨u1, hu1, hf⟩ := mm_bind hf
  have jp1 : ∀ (H : Heap) (locs : List Loc) (ls : Array Slot), mm_W G.1 ec_cl (er_cnt n) L (er_E G L n) σ H → va_S (mm_A (er_cnt n) L) s.heap H locs → lv_has ls 2 [] → W p l e rm_R_decision s m [.ref (L 0 0), .int a1].toArray below meth c H locs 0 0 (MQ below (va_Qi (fun r (_ : Unit) => r = out) (fun _ t => mm_pre G.1 ec_cl (ec_T G) (er_cnt n) L (er_E G L n) σ t) (mm_A (er_cnt n) L)) [.ref (L 0 0), .int a1].toArray s 0 0 (mm_A (er_cnt n) L)) (F0 m 23 ls [.int u1]) := by
    intro H locs ls hW hS hl
    obtain rfl := Option.some.inj hf
    exact W.iret (v := u1) hx hb hr (fun t ht hw => ⟨⟨_, (), rfl, rfl, (mm_back ht hw hW hK)⟩, hS.F ht⟩) hS.2.2 d_R_decision_23
  clear hf
  have hf := hu1
  clear hu1
  refine lv_icmp_lt (tgt := 22) hx hb d_R_decision_2 (by decide) (fun hc => ?_) (fun hc => ?_)
  · rw [if_pos hc] at hf
    refine lv_iconst (v := (-1 : Int32)) hx hb d_R_decision_22 (by decide) ?_
    obtain rfl := Option.some.inj hf
    exact jp1 _ _ _ hW hS (lv_sub hl [] rfl)
  · rw [if_neg hc] at hf
    refine lv_iload_n hx hb d_R_decision_5 rfl (lv_at hl 1 rfl) ?_
    refine lv_aload_n hx hb d_R_decision_6 rfl (lv_at hl 0 rfl) ?_
    refine va_get (D := G.1) (ci := 6) (C := "TwoPhaseCutsModel") (T := T_R) (N := 27) (v := .int (σ 0 0 16)) hx hb hts ui_R hown hK (hW.one (k := 0) (i := 0) (Nat.zero_lt_one)) 0 rfl rfl 16 (by decide) (hts _ tw_390) (fun _ h9 => h9) rfl d_R_decision_7 ?_
    refine lv_icmp_gt (tgt := 22) hx hb d_R_decision_10 (by decide) (fun hc => ?_) (fun hc => ?_)
    · rw [if_pos hc] at hf
      refine lv_iconst (v := (-1 : Int32)) hx hb d_R_decision_22 (by decide) ?_
      obtain rfl := Option.some.inj hf
      exact jp1 _ _ _ hW hS (lv_sub hl [] rfl)
    · rw [if_neg hc] at hf
      refine lv_aload_n hx hb d_R_decision_13 rfl (lv_at hl 0 rfl) ?_
      refine va_get (D := G.1) (ci := 6) (C := "TwoPhaseCutsModel") (T := T_R) (N := 27) (v := .ref (L 18 0)) hx hb hts ui_R hown hK (hW.one (k := 0) (i := 0) (Nat.zero_lt_one)) 0 rfl rfl 17 (by decide) (hts _ tw_391) (fun _ h9 => h9) rfl d_R_decision_14 ?_
      refine lv_iload_n hx hb d_R_decision_17 rfl (lv_at hl 1 rfl) ?_
      obtain ⟨hg1, hf⟩ := mm_guard hf
      refine va_iald (D := G.1) (cl := ec_cl) hx hb hK (hW.one (k := 18) (i := 0) (Nat.zero_lt_one)) 0 0 rfl rfl (mm_vp hg1) d_R_decision_18 ?_
      refine mm_top (y := (σ 18 0 (Int32.toNatClampNeg a1))) rfl ?_
      refine lv_goto (tgt := 23) hx hb d_R_decision_19 (by decide) ?_
      obtain rfl := Option.some.inj hf
      exact jp1 _ _ _ hW hS (lv_sub hl [] rfl)
abbrev rm_R_notes : Room := { frames := 0, cells := 0, slots := 0, locals := 0 }
set_option maxHeartbeats 4000000 in
set_option maxRecDepth 100000 in
theorem c_R_notes (l : Launch) (G : ec_G) (L : mm_L) (F n : Nat) (hI : mm_I (er_cnt n) L) (σ : mm_M) {out : Int32} (hf : f_R_notes F n σ = some out) :
    Met l y_R_notes (Cond.code y_R_notes b_R_notes 1 (some .int) :: tw_tbl) rm_R_notes (va_Pc [.ref (L 0 0)] (mm_pre G.1 ec_cl (ec_T G) (er_cnt n) L (er_E G L n) σ))
      (va_Qi (fun r (_ : Unit) => r = out) (fun _ t => mm_pre G.1 ec_cl (ec_T G) (er_cnt n) L (er_E G L n) σ t) (mm_A (er_cnt n) L)) 0 0 (mm_A (er_cnt n) L) := by
  refine Met.ofW (cc := b_R_notes) (maxL := 1) (ret := (some .int)) (by decide) rfl ?_
  intro p e s m args below meth c s₁ B hml hv
  obtain ⟨rfl, hW, hK⟩ := hv
  have hx := B.exec
  have hb := B.bytes
  have hr := B.returns
  have hts0 := atoms_spec (ws := Cond.code y_R_notes b_R_notes 1 (some .int) :: tw_tbl) B.pre
  have hts : ∀ w ∈ tw_tbl, w.before [.ref (L 0 0)].toArray s = true := fun w h => hts0 w (List.mem_cons_of_mem _ h)
  clear hts0
  have hown : s.vm.findClass "TwoPhaseCutsModel" = some m.cls := findClass_of_methodNamed B.named
  have hlocks := B.notSynchronized
  have hC : CallFix p m c b_R_notes 1 s [.ref (L 0 0)].toArray tw_tbl "TwoPhaseCutsModel" := ⟨hx, hb, hml, hown, hts⟩
  have hS : va_S (mm_A (er_cnt n) L) s.heap s.heap [] := va_S.rf
  have hl := lv_entry ([.ref (L 0 0)]) (n := 1) (Nat.le_of_ble_eq_true rfl)
  rw [lg_entry_eq]
  generalize (lg_sl ([.ref (L 0 0)]) ++ List.replicate (1 - (lg_sl ([.ref (L 0 0)])).length) Slot.unset).toArray = ls at hl ⊢
  have hl : lv_has ls 1 [(0, .ref (L 0 0))] := hl
  have hW : mm_W G.1 ec_cl (er_cnt n) L (er_E G L n) σ s.heap := hW
  clear B
  show W p l e rm_R_notes s m [.ref (L 0 0)].toArray below meth c s.heap [] 0 0 (MQ below (va_Qi (fun r (_ : Unit) => r = out) (fun _ t => mm_pre G.1 ec_cl (ec_T G) (er_cnt n) L (er_E G L n) σ t) (mm_A (er_cnt n) L)) [.ref (L 0 0)].toArray s 0 0 (mm_A (er_cnt n) L)) (F0 m 0 ls [])
  unfold f_R_notes at hf
  refine lv_aload_n hx hb d_R_notes_0 rfl (lv_at hl 0 rfl) ?_
  refine va_get (D := G.1) (ci := 6) (C := "TwoPhaseCutsModel") (T := T_R) (N := 27) (v := .int (σ 0 0 18)) hx hb hts ui_R hown hK (hW.one (k := 0) (i := 0) (Nat.zero_lt_one)) 0 rfl rfl 18 (by decide) (hts _ tw_392) (fun _ h9 => h9) rfl d_R_notes_1 ?_
  obtain rfl := Option.some.inj hf
  exact W.iret (v := (σ 0 0 18)) hx hb hr (fun t ht hw => ⟨⟨_, (), rfl, rfl, (mm_back ht hw hW hK)⟩, hS.F ht⟩) hS.2.2 d_R_notes_4
abbrev rm_R_times : Room := { frames := 1, cells := 0, slots := 0, locals := 21 }
set_option maxHeartbeats 4000000 in
set_option maxRecDepth 100000 in
theorem c_R_times (l : Launch) (G : ec_G) (L : mm_L) (F n : Nat) (hI : mm_I (er_cnt n) L) (σ : mm_M) (a1 : Int32) (a2 : Int32) {out : Int32} (hf : f_R_times F n σ a1 a2 = some out) :
    Met l y_R_times (Cond.code y_R_times b_R_times 3 (some .int) :: tw_tbl) rm_R_times (va_Pc [.ref (L 0 0), .int a1, .int a2] (mm_pre G.1 ec_cl (ec_T G) (er_cnt n) L (er_E G L n) σ))
      (va_Qi (fun r (_ : Unit) => r = out) (fun _ t => mm_pre G.1 ec_cl (ec_T G) (er_cnt n) L (er_E G L n) σ t) (mm_A (er_cnt n) L)) 0 0 (mm_A (er_cnt n) L) := by
  refine Met.ofW (cc := b_R_times) (maxL := 3) (ret := (some .int)) (by decide) rfl ?_
  intro p e s m args below meth c s₁ B hml hv
  obtain ⟨rfl, hW, hK⟩ := hv
  have hx := B.exec
  have hb := B.bytes
  have hr := B.returns
  have hts0 := atoms_spec (ws := Cond.code y_R_times b_R_times 3 (some .int) :: tw_tbl) B.pre
  have hts : ∀ w ∈ tw_tbl, w.before [.ref (L 0 0), .int a1, .int a2].toArray s = true := fun w h => hts0 w (List.mem_cons_of_mem _ h)
  clear hts0
  have hown : s.vm.findClass "TwoPhaseCutsModel" = some m.cls := findClass_of_methodNamed B.named
  have hlocks := B.notSynchronized
  have hC : CallFix p m c b_R_times 3 s [.ref (L 0 0), .int a1, .int a2].toArray tw_tbl "TwoPhaseCutsModel" := ⟨hx, hb, hml, hown, hts⟩
  have hS : va_S (mm_A (er_cnt n) L) s.heap s.heap [] := va_S.rf
  have hl := lv_entry ([.ref (L 0 0), .int a1, .int a2]) (n := 3) (Nat.le_of_ble_eq_true rfl)
  rw [lg_entry_eq]
  generalize (lg_sl ([.ref (L 0 0), .int a1, .int a2]) ++ List.replicate (3 - (lg_sl ([.ref (L 0 0), .int a1, .int a2])).length) Slot.unset).toArray = ls at hl ⊢
  have hl : lv_has ls 3 [(0, .ref (L 0 0)), (1, .int a1), (2, .int a2)] := hl
  have hW : mm_W G.1 ec_cl (er_cnt n) L (er_E G L n) σ s.heap := hW
  clear B
  show W p l e rm_R_times s m [.ref (L 0 0), .int a1, .int a2].toArray below meth c s.heap [] 0 0 (MQ below (va_Qi (fun r (_ : Unit) => r = out) (fun _ t => mm_pre G.1 ec_cl (ec_T G) (er_cnt n) L (er_E G L n) σ t) (mm_A (er_cnt n) L)) [.ref (L 0 0), .int a1, .int a2].toArray s 0 0 (mm_A (er_cnt n) L)) (F0 m 0 ls [])
  unfold f_R_times at hf
  refine lv_aload_n hx hb d_R_times_0 rfl (lv_at hl 0 rfl) ?_
  refine lv_iload_n hx hb d_R_times_1 rfl (lv_at hl 1 rfl) ?_
  obtain ⟨u1, hu1, hf⟩ := mm_bind hf
  refine mm_calli (va_runV (As := [.int a1]) (rest := []) hC (c_R_is l G L F n hI σ a1 hu1) (cwV 1 hts (tw_gV tw_460 tw_462 ts_14 tw_8 tw_463) rfl rfl rfl (by decide +kernel) ⟨Nat.le_of_ble_eq_true rfl, Nat.le_of_ble_eq_true rfl⟩) (mm_preV hK hW (k := 0) (i := 0) (Nat.zero_lt_one) rfl rfl) rfl rfl hl.1 rfl (lv_room (Nat.le_of_ble_eq_true rfl)) d_R_times_2 ⟨Nat.zero_le _, Nat.zero_le _⟩) hS (fun _ h => h) (fun H locs hW _ _ hS => ?_)
  obtain ⟨u2, hu2, hf⟩ := mm_bind hf
  have jp1 : ∀ (H : Heap) (locs : List Loc) (ls : Array Slot), mm_W G.1 ec_cl (er_cnt n) L (er_E G L n) σ H → va_S (mm_A (er_cnt n) L) s.heap H locs → lv_has ls 3 [] → W p l e rm_R_times s m [.ref (L 0 0), .int a1, .int a2].toArray below meth c H locs 0 0 (MQ below (va_Qi (fun r (_ : Unit) => r = out) (fun _ t => mm_pre G.1 ec_cl (ec_T G) (er_cnt n) L (er_E G L n) σ t) (mm_A (er_cnt n) L)) [.ref (L 0 0), .int a1, .int a2].toArray s 0 0 (mm_A (er_cnt n) L)) (F0 m 40 ls [.int u2]) := by
    intro H locs ls hW hS hl
    obtain rfl := Option.some.inj hf
    exact W.iret (v := u2) hx hb hr (fun t ht hw => ⟨⟨_, (), rfl, rfl, (mm_back ht hw hW hK)⟩, hS.F ht⟩) hS.2.2 d_R_times_40
  clear hf
  have hf := hu2
  clear hu2
  refine lv_if_eq (tgt := 17) hx hb d_R_times_5 (by decide) (fun hc => ?_) (fun hc => ?_)
  · rw [if_pos hc] at hf
    refine lv_iconst (v := (-1 : Int32)) hx hb d_R_times_17 (by decide) ?_
    refine lv_goto (tgt := 40) hx hb d_R_times_18 (by decide) ?_
    obtain rfl := Option.some.inj hf
    exact jp1 _ _ _ hW hS (lv_sub hl [] rfl)
  · rw [if_neg hc] at hf
    refine lv_iload_n hx hb d_R_times_8 rfl (lv_at hl 2 rfl) ?_
    refine lv_if_lt (tgt := 17) hx hb d_R_times_9 (by decide) (fun hc => ?_) (fun hc => ?_)
    · rw [if_pos hc] at hf
      refine lv_iconst (v := (-1 : Int32)) hx hb d_R_times_17 (by decide) ?_
      refine lv_goto (tgt := 40) hx hb d_R_times_18 (by decide) ?_
      obtain rfl := Option.some.inj hf
      exact jp1 _ _ _ hW hS (lv_sub hl [] rfl)
    · rw [if_neg hc] at hf
      refine lv_iload_n hx hb d_R_times_12 rfl (lv_at hl 2 rfl) ?_
      refine lv_iconst (v := (1 : Int32)) hx hb d_R_times_13 (by decide) ?_
      refine lv_icmp_le (tgt := 21) hx hb d_R_times_14 (by decide) (fun hc => ?_) (fun hc => ?_)
      · rw [if_pos hc] at hf
        refine lv_iload_n hx hb d_R_times_21 rfl (lv_at hl 2 rfl) ?_
        refine lv_if_ne (tgt := 34) hx hb d_R_times_22 (by decide) (fun hc => ?_) (fun hc => ?_)
        · rw [if_neg hc] at hf
          refine lv_aload_n hx hb d_R_times_34 rfl (lv_at hl 0 rfl) ?_
          refine va_get (D := G.1) (ci := 6) (C := "TwoPhaseCutsModel") (T := T_R) (N := 27) (v := .ref (L 27 0)) hx hb hts ui_R hown hK (hW.one (k := 0) (i := 0) (Nat.zero_lt_one)) 0 rfl rfl 26 (by decide) (hts _ tw_400) (fun _ h9 => h9) rfl d_R_times_35 ?_
          refine lv_iload_n hx hb d_R_times_38 rfl (lv_at hl 1 rfl) ?_
          obtain ⟨hg1, hf⟩ := mm_guard hf
          refine va_iald (D := G.1) (cl := ec_cl) hx hb hK (hW.one (k := 27) (i := 0) (Nat.zero_lt_one)) 0 0 rfl rfl (mm_vp hg1) d_R_times_39 ?_
          refine mm_top (y := (σ 27 0 (Int32.toNatClampNeg a1))) rfl ?_
          obtain rfl := Option.some.inj hf
          exact jp1 _ _ _ hW hS (lv_sub hl [] rfl)
        · rw [if_pos hc] at hf
          refine lv_aload_n hx hb d_R_times_25 rfl (lv_at hl 0 rfl) ?_
          refine va_get (D := G.1) (ci := 6) (C := "TwoPhaseCutsModel") (T := T_R) (N := 27) (v := .ref (L 26 0)) hx hb hts ui_R hown hK (hW.one (k := 0) (i := 0) (Nat.zero_lt_one)) 0 rfl rfl 25 (by decide) (hts _ tw_399) (fun _ h9 => h9) rfl d_R_times_26 ?_
          refine lv_iload_n hx hb d_R_times_29 rfl (lv_at hl 1 rfl) ?_
          obtain ⟨hg2, hf⟩ := mm_guard hf
          refine va_iald (D := G.1) (cl := ec_cl) hx hb hK (hW.one (k := 26) (i := 0) (Nat.zero_lt_one)) 0 0 rfl rfl (mm_vp hg2) d_R_times_30 ?_
          refine mm_top (y := (σ 26 0 (Int32.toNatClampNeg a1))) rfl ?_
          refine lv_goto (tgt := 40) hx hb d_R_times_31 (by decide) ?_
          obtain rfl := Option.some.inj hf
          exact jp1 _ _ _ hW hS (lv_sub hl [] rfl)
      · rw [if_neg hc] at hf
        refine lv_iconst (v := (-1 : Int32)) hx hb d_R_times_17 (by decide) ?_
        refine lv_goto (tgt := 40) hx hb d_R_times_18 (by decide) ?_
        obtain rfl := Option.some.inj hf
        exact jp1 _ _ _ hW hS (lv_sub hl [] rfl)
