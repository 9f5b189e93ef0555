abbrev rm_X_reply : Room := { frames := 2, cells := 0, slots := 0, locals := 47 }
set_option maxHeartbeats 4000000 in
set_option maxRecDepth 100000 in
theorem c_X_reply (l : Launch) (G : ec_G) (L : mm_L) (F n : Nat) (hI : mm_I (ec_cnt n) L) (σ : mm_M) (i1 : Nat) (a2 : Int32) (hi1 : i1 < ec_cnt n 15) {out : mm_M} (hf : f_X_reply F n σ i1 a2 = some out) :
    Met l y_X_reply (Cond.code y_X_reply b_X_reply 3 none :: tw_tbl) rm_X_reply (va_Pc [.ref (L 0 0), .ref (L 15 i1), .int a2] (mm_pre G.1 ec_cl (ec_T G) (ec_cnt n) L (ec_E G L n) σ))
      (va_Qv (fun (_ : Unit) => True) (fun _ t => mm_pre G.1 ec_cl (ec_T G) (ec_cnt n) L (ec_E G L n) out t) (mm_A (ec_cnt n) L)) 0 0 (mm_A (ec_cnt n) L) := by
  refine Met.ofW (cc := b_X_reply) (maxL := 3) (ret := none) (by decide) rfl ?_
  intro p e s m args below meth c s₁ B hml hv
  obtain ⟨rfl, hW, hK⟩ := hv
  have hx := B.exec
  have hb := B.bytes
  have hr := B.returns
  have hts0 := atoms_spec (ws := Cond.code y_X_reply b_X_reply 3 none :: tw_tbl) B.pre
  have hts : ∀ w ∈ tw_tbl, w.before [.ref (L 0 0), .ref (L 15 i1), .int a2].toArray s = true := fun w h => hts0 w (List.mem_cons_of_mem _ h)
  clear hts0
  have hown : s.vm.findClass "TwoPhaseCuts" = some m.cls := findClass_of_methodNamed B.named
  have hlocks := B.notSynchronized
  have hC : CallFix p m c b_X_reply 3 s [.ref (L 0 0), .ref (L 15 i1), .int a2].toArray tw_tbl "TwoPhaseCuts" := ⟨hx, hb, hml, hown, hts⟩
  have hS : va_S (mm_A (ec_cnt n) L) s.heap s.heap [] := va_S.rf
  have hl := lv_entry ([.ref (L 0 0), .ref (L 15 i1), .int a2]) (n := 3) (Nat.le_of_ble_eq_true rfl)
  rw [lg_entry_eq]
  generalize (lg_sl ([.ref (L 0 0), .ref (L 15 i1), .int a2]) ++ List.replicate (3 - (lg_sl ([.ref (L 0 0), .ref (L 15 i1), .int a2])).length) Slot.unset).toArray = ls at hl ⊢
  have hl : lv_has ls 3 [(0, .ref (L 0 0)), (1, .ref (L 15 i1)), (2, .int a2)] := hl
  have hW : mm_W G.1 ec_cl (ec_cnt n) L (ec_E G L n) σ s.heap := hW
  clear B
  show W p l e rm_X_reply s m [.ref (L 0 0), .ref (L 15 i1), .int a2].toArray below meth c s.heap [] 0 0 (MQ below (va_Qv (fun (_ : Unit) => True) (fun _ t => mm_pre G.1 ec_cl (ec_T G) (ec_cnt n) L (ec_E G L n) out t) (mm_A (ec_cnt n) L)) [.ref (L 0 0), .ref (L 15 i1), .int a2].toArray s 0 0 (mm_A (ec_cnt n) L)) (F0 m 0 ls [])
  unfold f_X_reply at hf
  refine lv_aload_n hx hb d_X_reply_0 rfl (lv_at hl 0 rfl) ?_
  refine va_get (D := G.1) (ci := 0) (C := "TwoPhaseCuts") (T := T_X) (N := 7) (v := .ref (L 3 0)) hx hb hts ui_X hown hK (hW.one (k := 0) (i := 0) (Nat.zero_lt_one)) 0 rfl rfl 3 (by decide) (hts _ tw_167) (fun _ h9 => h9) rfl d_X_reply_1 ?_
  refine lv_iconst (v := (1 : Int32)) hx hb d_X_reply_4 (by decide) ?_
  refine lv_aload_n hx hb d_X_reply_5 rfl (lv_at hl 1 rfl) ?_
  refine va_get (D := G.1) (ci := 5) (C := "TwoPhaseCuts$Note") (T := T_N) (N := 5) (v := .int (σ 15 i1 1)) hx hb hts ui_N hown hK (hW.one (k := 15) (i := i1) hi1) 0 rfl rfl 1 (by decide) (hts _ tw_135) (fun _ h9 => h9) rfl d_X_reply_6 ?_
  refine lv_aload_n hx hb d_X_reply_9 rfl (lv_at hl 1 rfl) ?_
  refine va_get (D := G.1) (ci := 5) (C := "TwoPhaseCuts$Note") (T := T_N) (N := 5) (v := .int (σ 15 i1 3)) hx hb hts ui_N hown hK (hW.one (k := 15) (i := i1) hi1) 0 rfl rfl 3 (by decide) (hts _ tw_139) (fun _ h9 => h9) rfl d_X_reply_10 ?_
  refine lv_aload_n hx hb d_X_reply_13 rfl (lv_at hl 1 rfl) ?_
  refine va_get (D := G.1) (ci := 5) (C := "TwoPhaseCuts$Note") (T := T_N) (N := 5) (v := .int (σ 15 i1 2)) hx hb hts ui_N hown hK (hW.one (k := 15) (i := i1) hi1) 0 rfl rfl 2 (by decide) (hts _ tw_137) (fun _ h9 => h9) rfl d_X_reply_14 ?_
  refine lv_iload_n hx hb d_X_reply_17 rfl (lv_at hl 2 rfl) ?_
  obtain ⟨u1, hu1, hf⟩ := mm_bind hf
  refine mm_callv (va_runV (As := [.int (1 : Int32), .int (σ 15 i1 1), .int (σ 15 i1 3), .int (σ 15 i1 2), .int a2]) (rest := []) hC (c_L_add l G L F n hI σ (1 : Int32) (σ 15 i1 1) (σ 15 i1 3) (σ 15 i1 2) a2 hu1) (cwV 5 hts (tw_gV tw_256 tw_257 tw_258 tw_6 tw_259) rfl rfl rfl (by decide +kernel) ⟨Nat.le_of_ble_eq_true rfl, Nat.le_of_ble_eq_true rfl⟩) (mm_preV hK hW (k := 3) (i := 0) (Nat.zero_lt_one) rfl rfl) rfl rfl hl.1 rfl (lv_room (Nat.le_of_ble_eq_true rfl)) d_X_reply_18 ⟨Nat.zero_le _, Nat.zero_le _⟩) hS (fun _ h => h) (fun H locs hW _ _ hS => ?_)
  obtain rfl := Option.some.inj hf
  exact W.vret hx hb hr (fun t ht hw => ⟨⟨(), rfl, trivial, (mm_back ht hw hW hK)⟩, hS.F ht⟩) hS.2.2 d_X_reply_21
abbrev rm_X_hearRequest : Room := { frames := 4, cells := 0, slots := 0, locals := 95 }
set_option maxHeartbeats 4000000 in
set_option maxRecDepth 100000 in
theorem c_X_hearRequest (l : Launch) (G : ec_G) (L : mm_L) (F n : Nat) (hI : mm_I (ec_cnt n) L) (σ : mm_M) (i1 : Nat) (hi1 : i1 < ec_cnt n 15) {out : mm_M} (hf : f_X_hearRequest F n σ i1 = some out) :
    Met l y_X_hearRequest (Cond.code y_X_hearRequest b_X_hearRequest 4 none :: tw_tbl) rm_X_hearRequest (va_Pc [.ref (L 0 0), .ref (L 15 i1)] (mm_pre G.1 ec_cl (ec_T G) (ec_cnt n) L (ec_E G L n) σ))
      (va_Qv (fun (_ : Unit) => True) (fun _ t => mm_pre G.1 ec_cl (ec_T G) (ec_cnt n) L (ec_E G L n) out t) (mm_A (ec_cnt n) L)) 0 0 (mm_A (ec_cnt n) L) := by
  refine Met.ofW (cc := b_X_hearRequest) (maxL := 4) (ret := none) (by decide) rfl ?_
  intro p e s m args below meth c s₁ B hml hv
  obtain ⟨rfl, hW, hK⟩ := hv
  have hx := B.exec
  have hb := B.bytes
  have hr := B.returns
  have hts0 := atoms_spec (ws := Cond.code y_X_hearRequest b_X_hearRequest 4 none :: tw_tbl) B.pre
  have hts : ∀ w ∈ tw_tbl, w.before [.ref (L 0 0), .ref (L 15 i1)].toArray s = true := fun w h => hts0 w (List.mem_cons_of_mem _ h)
  clear hts0
  have hown : s.vm.findClass "TwoPhaseCuts" = some m.cls := findClass_of_methodNamed B.named
  have hlocks := B.notSynchronized
  have hC : CallFix p m c b_X_hearRequest 4 s [.ref (L 0 0), .ref (L 15 i1)].toArray tw_tbl "TwoPhaseCuts" := ⟨hx, hb, hml, hown, hts⟩
  have hS : va_S (mm_A (ec_cnt n) L) s.heap s.heap [] := va_S.rf
  have hl := lv_entry ([.ref (L 0 0), .ref (L 15 i1)]) (n := 4) (Nat.le_of_ble_eq_true rfl)
  rw [lg_entry_eq]
  generalize (lg_sl ([.ref (L 0 0), .ref (L 15 i1)]) ++ List.replicate (4 - (lg_sl ([.ref (L 0 0), .ref (L 15 i1)])).length) Slot.unset).toArray = ls at hl ⊢
  have hl : lv_has ls 4 [(0, .ref (L 0 0)), (1, .ref (L 15 i1))] := hl
  have hW : mm_W G.1 ec_cl (ec_cnt n) L (ec_E G L n) σ s.heap := hW
  clear B
  show W p l e rm_X_hearRequest s m [.ref (L 0 0), .ref (L 15 i1)].toArray below meth c s.heap [] 0 0 (MQ below (va_Qv (fun (_ : Unit) => True) (fun _ t => mm_pre G.1 ec_cl (ec_T G) (ec_cnt n) L (ec_E G L n) out t) (mm_A (ec_cnt n) L)) [.ref (L 0 0), .ref (L 15 i1)].toArray s 0 0 (mm_A (ec_cnt n) L)) (F0 m 0 ls [])
  unfold f_X_hearRequest at hf
  refine lv_aload_n hx hb d_X_hearRequest_0 rfl (lv_at hl 0 rfl) ?_
  refine va_get (D := G.1) (ci := 0) (C := "TwoPhaseCuts") (T := T_X) (N := 7) (v := .ref (L 1 0)) hx hb hts ui_X hown hK (hW.one (k := 0) (i := 0) (Nat.zero_lt_one)) 0 rfl rfl 1 (by decide) (hts _ tw_165) (fun _ h9 => h9) rfl d_X_hearRequest_1 ?_
  refine lv_aload_n hx hb d_X_hearRequest_4 rfl (lv_at hl 1 rfl) ?_
  refine va_get (D := G.1) (ci := 5) (C := "TwoPhaseCuts$Note") (T := T_N) (N := 5) (v := .int (σ 15 i1 3)) hx hb hts ui_N hown hK (hW.one (k := 15) (i := i1) hi1) 0 rfl rfl 3 (by decide) (hts _ tw_139) (fun _ h9 => h9) rfl d_X_hearRequest_5 ?_
  obtain ⟨hg1, hf⟩ := mm_guard hf
  refine va_aldq (D := G.1) (cl := ec_cl) hx hb hK (hW.one (k := 1) (i := 0) (Nat.zero_lt_one)) 0 2 rfl rfl (mm_vp hg1) d_X_hearRequest_8 ?_
  refine lv_astore_n (lv' := [(2, .ref (L 6 (Int32.toNatClampNeg (σ 15 i1 3)))), (0, .ref (L 0 0)), (1, .ref (L 15 i1))]) hx hb d_X_hearRequest_9 rfl hl (by decide) rfl (fun ls hl => ?_)
  refine lv_aload_n hx hb d_X_hearRequest_10 rfl (lv_at hl 1 rfl) ?_
  refine va_get (D := G.1) (ci := 0) (C := "TwoPhaseCuts") (T := T_X) (N := 7) (v := .ref (L 4 0)) hx hb hts ui_X hown hK (hW.one (k := 0) (i := 0) (Nat.zero_lt_one)) 0 rfl rfl 4 (by decide) (hts _ tw_168) (fun _ h9 => h9) rfl d_X_hearRequest_11 ?_
  refine lv_aload_n hx hb d_X_hearRequest_14 rfl (lv_at hl 2 rfl) ?_
  refine va_get (D := G.1) (ci := 5) (C := "TwoPhaseCuts$Note") (T := T_N) (N := 5) (v := .int (σ 15 i1 1)) hx hb hts ui_N hown hK (hW.one (k := 15) (i := i1) hi1) 0 rfl rfl 1 (by decide) (hts _ tw_135) (fun _ h9 => h9) rfl d_X_hearRequest_15 ?_
  obtain ⟨hg2, hf⟩ := mm_guard hf
  refine va_zald (D := G.1) (cl := ec_cl) hx hb hK (hW.one (k := 4) (i := 0) (Nat.zero_lt_one)) 0 1 rfl rfl (mm_vp hg2) d_X_hearRequest_18 ?_
  refine mm_top (y := (σ 4 0 (Int32.toNatClampNeg (σ 15 i1 1)))) rfl ?_
  refine lv_istore_n (lv' := [(3, .int (σ 4 0 (Int32.toNatClampNeg (σ 15 i1 1)))), (2, .ref (L 6 (Int32.toNatClampNeg (σ 15 i1 3)))), (0, .ref (L 0 0)), (1, .ref (L 15 i1))]) hx hb d_X_hearRequest_19 rfl hl (by decide) rfl (fun ls hl => ?_)
  refine lv_aload_n hx hb d_X_hearRequest_20 rfl (lv_at hl 1 rfl) ?_
  refine va_get (D := G.1) (ci := 1) (C := "TwoPhaseCuts$Member") (T := T_M) (N := 12) (v := .int (σ 6 (Int32.toNatClampNeg (σ 15 i1 3)) 6)) hx hb hts ui_M hown hK (hW.one (k := 6) (i := (Int32.toNatClampNeg (σ 15 i1 3))) (mm_nat hg1)) 0 rfl rfl 6 (by decide) (hts _ tw_63) (fun _ h9 => h9) rfl d_X_hearRequest_21 ?_
  refine lv_aload_n hx hb d_X_hearRequest_24 rfl (lv_at hl 3 rfl) ?_
  refine va_get (D := G.1) (ci := 5) (C := "TwoPhaseCuts$Note") (T := T_N) (N := 5) (v := .int (σ 15 i1 1)) hx hb hts ui_N hown hK (hW.one (k := 15) (i := i1) hi1) 0 rfl rfl 1 (by decide) (hts _ tw_135) (fun _ h9 => h9) rfl d_X_hearRequest_25 ?_
  obtain ⟨u1, hu1, hf⟩ := mm_bind hf
  have jp1 : ∀ (H : Heap) (locs : List Loc) (ls : Array Slot), mm_W G.1 ec_cl (ec_cnt n) L (ec_E G L n) u1 H → va_S (mm_A (ec_cnt n) L) s.heap H locs → lv_has ls 4 [] → W p l e rm_X_hearRequest s m [.ref (L 0 0), .ref (L 15 i1)].toArray below meth c H locs 0 0 (MQ below (va_Qv (fun (_ : Unit) => True) (fun _ t => mm_pre G.1 ec_cl (ec_T G) (ec_cnt n) L (ec_E G L n) out t) (mm_A (ec_cnt n) L)) [.ref (L 0 0), .ref (L 15 i1)].toArray s 0 0 (mm_A (ec_cnt n) L)) (F0 m 129 ls []) := by
    intro H locs ls hW hS hl
    obtain rfl := Option.some.inj hf
    exact W.vret hx hb hr (fun t ht hw => ⟨⟨(), rfl, trivial, (mm_back ht hw hW hK)⟩, hS.F ht⟩) hS.2.2 d_X_hearRequest_129
  clear hf
  have hf := hu1
  clear hu1
  refine lv_icmp_ne (tgt := 40) hx hb d_X_hearRequest_28 (by decide) (fun hc => ?_) (fun hc => ?_)
  · rw [if_neg hc] at hf
    refine lv_aload_n hx hb d_X_hearRequest_40 rfl (lv_at hl 1 rfl) ?_
    obtain ⟨u2, hu2, hf⟩ := mm_bind hf
    refine mm_calli (va_runV (As := []) (rest := []) hC (c_M_isInvolved l G L F n hI σ (Int32.toNatClampNeg (σ 15 i1 3)) (mm_nat hg1) hu2) (cwV 0 hts (tw_gV tw_210 tw_199 tw_200 tw_3 tw_201) rfl rfl rfl (by decide +kernel) ⟨Nat.le_of_ble_eq_true rfl, Nat.le_of_ble_eq_true rfl⟩) (mm_preV hK hW (k := 6) (i := (Int32.toNatClampNeg (σ 15 i1 3))) (mm_nat hg1) rfl rfl) rfl rfl hl.1 rfl (lv_room (Nat.le_of_ble_eq_true rfl)) d_X_hearRequest_41 ⟨Nat.zero_le _, Nat.zero_le _⟩) hS (fun _ h => h) (fun H locs hW _ _ hS => ?_)
    refine lv_if_eq (tgt := 56) hx hb d_X_hearRequest_44 (by decide) (fun hc => ?_) (fun hc => ?_)
    · rw [if_pos hc] at hf
      refine lv_aload_n hx hb d_X_hearRequest_56 rfl (lv_at hl 1 rfl) ?_
      refine va_get (D := G.1) (ci := 1) (C := "TwoPhaseCuts$Member") (T := T_M) (N := 12) (v := .int (σ 6 (Int32.toNatClampNeg (σ 15 i1 3)) 3)) hx hb hts ui_M hown hK (hW.one (k := 6) (i := (Int32.toNatClampNeg (σ 15 i1 3))) (mm_nat hg1)) 0 rfl rfl 3 (by decide) (hts _ tw_58) (fun _ h9 => h9) rfl d_X_hearRequest_57 ?_
      refine lv_if_eq (tgt := 80) hx hb d_X_hearRequest_60 (by decide) (fun hc => ?_) (fun hc => ?_)
      · rw [if_pos hc] at hf
        refine lv_aload_n hx hb d_X_hearRequest_80 rfl (lv_at hl 1 rfl) ?_
        refine lv_iload_n hx hb d_X_hearRequest_81 rfl (lv_at hl 0 rfl) ?_
        refine lv_aload_n hx hb d_X_hearRequest_82 rfl (lv_at hl 3 rfl) ?_
        refine va_get (D := G.1) (ci := 5) (C := "TwoPhaseCuts$Note") (T := T_N) (N := 5) (v := .int (σ 15 i1 2)) hx hb hts ui_N hown hK (hW.one (k := 15) (i := i1) hi1) 0 rfl rfl 2 (by decide) (hts _ tw_137) (fun _ h9 => h9) rfl d_X_hearRequest_83 ?_
        refine lv_aload_n hx hb d_X_hearRequest_86 rfl (lv_at hl 3 rfl) ?_
        refine va_get (D := G.1) (ci := 5) (C := "TwoPhaseCuts$Note") (T := T_N) (N := 5) (v := .int (σ 15 i1 4)) hx hb hts ui_N hown hK (hW.one (k := 15) (i := i1) hi1) 0 rfl rfl 4 (by decide) (hts _ tw_141) (fun _ h9 => h9) rfl d_X_hearRequest_87 ?_
        obtain ⟨u3, hu3, hf⟩ := mm_bind hf
        refine mm_calli (va_runV (As := [.int (σ 4 0 (Int32.toNatClampNeg (σ 15 i1 1))), .int (σ 15 i1 2), .int (σ 15 i1 4)]) (rest := []) hC (c_M_isConcerned l G L F n hI σ (Int32.toNatClampNeg (σ 15 i1 3)) (σ 4 0 (Int32.toNatClampNeg (σ 15 i1 1))) (σ 15 i1 2) (σ 15 i1 4) (mm_nat hg1) hu3) (cwV 3 hts (tw_gV tw_313 tw_314 tw_315 tw_3 tw_316) rfl rfl rfl (by decide +kernel) ⟨Nat.le_of_ble_eq_true rfl, Nat.le_of_ble_eq_true rfl⟩) (mm_preV hK hW (k := 6) (i := (Int32.toNatClampNeg (σ 15 i1 3))) (mm_nat hg1) rfl rfl) rfl rfl hl.1 rfl (lv_room (Nat.le_of_ble_eq_true rfl)) d_X_hearRequest_90 ⟨Nat.zero_le _, Nat.zero_le _⟩) hS (fun _ h => h) (fun H locs hW _ _ hS => ?_)
        refine lv_if_ne (tgt := 105) hx hb d_X_hearRequest_93 (by decide) (fun hc => ?_) (fun hc => ?_)
        · rw [if_neg hc] at hf
          refine lv_aload_n hx hb d_X_hearRequest_105 rfl (lv_at hl 2 rfl) ?_
          refine lv_aload_n hx hb d_X_hearRequest_106 rfl (lv_at hl 3 rfl) ?_
          refine va_get (D := G.1) (ci := 5) (C := "TwoPhaseCuts$Note") (T := T_N) (N := 5) (v := .int (σ 15 i1 3)) hx hb hts ui_N hown hK (hW.one (k := 15) (i := i1) hi1) 0 rfl rfl 3 (by decide) (hts _ tw_139) (fun _ h9 => h9) rfl d_X_hearRequest_107 ?_
          refine lv_aload_n hx hb d_X_hearRequest_110 rfl (lv_at hl 3 rfl) ?_
          refine va_get (D := G.1) (ci := 5) (C := "TwoPhaseCuts$Note") (T := T_N) (N := 5) (v := .int (σ 15 i1 1)) hx hb hts ui_N hown hK (hW.one (k := 15) (i := i1) hi1) 0 rfl rfl 1 (by decide) (hts _ tw_135) (fun _ h9 => h9) rfl d_X_hearRequest_111 ?_
          refine lv_aload_n hx hb d_X_hearRequest_114 rfl (lv_at hl 3 rfl) ?_
          refine va_get (D := G.1) (ci := 5) (C := "TwoPhaseCuts$Note") (T := T_N) (N := 5) (v := .int (σ 15 i1 2)) hx hb hts ui_N hown hK (hW.one (k := 15) (i := i1) hi1) 0 rfl rfl 2 (by decide) (hts _ tw_137) (fun _ h9 => h9) rfl d_X_hearRequest_115 ?_
          obtain ⟨u4, hu4, hf⟩ := mm_bind hf
          refine mm_callv (va_runV (As := [.int (σ 15 i1 3), .int (σ 15 i1 1), .int (σ 15 i1 2)]) (rest := []) hC (c_X_join l G L F n hI σ (σ 15 i1 3) (σ 15 i1 1) (σ 15 i1 2) hu4) (cwV 3 hts (tw_gV tw_240 tw_242 ts_4 tw_1 tw_243) rfl rfl rfl (by decide +kernel) ⟨Nat.le_of_ble_eq_true rfl, Nat.le_of_ble_eq_true rfl⟩) (mm_preV hK hW (k := 0) (i := 0) (Nat.zero_lt_one) rfl rfl) rfl rfl hl.1 rfl (lv_room (Nat.le_of_ble_eq_true rfl)) d_X_hearRequest_118 ⟨Nat.zero_le _, Nat.zero_le _⟩) hS (fun _ h => h) (fun H locs hW _ _ hS => ?_)
          refine lv_aload_n hx hb d_X_hearRequest_121 rfl (lv_at hl 2 rfl) ?_
          refine lv_aload_n hx hb d_X_hearRequest_122 rfl (lv_at hl 3 rfl) ?_
          refine va_get (D := G.1) (ci := 5) (C := "TwoPhaseCuts$Note") (T := T_N) (N := 5) (v := .int (u4 15 i1 3)) hx hb hts ui_N hown hK (hW.one (k := 15) (i := i1) hi1) 0 rfl rfl 3 (by decide) (hts _ tw_139) (fun _ h9 => h9) rfl d_X_hearRequest_123 ?_
          obtain ⟨u5, hu5, hf⟩ := mm_bind hf
          refine mm_callv (va_runV (As := [.int (u4 15 i1 3)]) (rest := []) hC (c_X_concludeWhenAnswered l G L F n hI u4 (u4 15 i1 3) hu5) (cwV 1 hts (tw_gV tw_264 tw_266 ts_6 tw_1 tw_267) rfl rfl rfl (by decide +kernel) ⟨Nat.le_of_ble_eq_true rfl, Nat.le_of_ble_eq_true rfl⟩) (mm_preV hK hW (k := 0) (i := 0) (Nat.zero_lt_one) rfl rfl) rfl rfl hl.1 rfl (lv_room (Nat.le_of_ble_eq_true rfl)) d_X_hearRequest_126 ⟨Nat.zero_le _, Nat.zero_le _⟩) hS (fun _ h => h) (fun H locs hW _ _ hS => ?_)
          obtain rfl := Option.some.inj hf
          exact jp1 _ _ _ hW hS (lv_sub hl [] rfl)
        · rw [if_pos hc] at hf
          refine lv_aload_n hx hb d_X_hearRequest_96 rfl (lv_at hl 2 rfl) ?_
          refine lv_aload_n hx hb d_X_hearRequest_97 rfl (lv_at hl 3 rfl) ?_
          refine lv_iconst (v := (1 : Int32)) hx hb d_X_hearRequest_98 (by decide) ?_
          obtain ⟨u6, hu6, hf⟩ := mm_bind hf
          refine mm_callv (va_runV (As := [.ref (L 15 i1), .int (1 : Int32)]) (rest := []) hC (c_X_reply l G L F n hI σ i1 (1 : Int32) hi1 hu6) (cwV 2 hts (tw_gV tw_309 tw_311 ts_11 tw_1 tw_312) rfl rfl rfl (by decide +kernel) ⟨Nat.le_of_ble_eq_true rfl, Nat.le_of_ble_eq_true rfl⟩) (mm_preV hK hW (k := 0) (i := 0) (Nat.zero_lt_one) rfl rfl) rfl rfl hl.1 rfl (lv_room (Nat.le_of_ble_eq_true rfl)) d_X_hearRequest_99 ⟨Nat.zero_le _, Nat.zero_le _⟩) hS (fun _ h => h) (fun H locs hW _ _ hS => ?_)
          refine lv_goto (tgt := 129) hx hb d_X_hearRequest_102 (by decide) ?_
          obtain rfl := Option.some.inj hf
          exact jp1 _ _ _ hW hS (lv_sub hl [] rfl)
      · rw [if_neg hc] at hf
        refine lv_aload_n hx hb d_X_hearRequest_63 rfl (lv_at hl 2 rfl) ?_
        refine lv_aload_n hx hb d_X_hearRequest_64 rfl (lv_at hl 3 rfl) ?_
        refine lv_iload_n hx hb d_X_hearRequest_65 rfl (lv_at hl 0 rfl) ?_
        obtain ⟨u7, hu7, hf⟩ := mm_bind hf
        have jp2 : ∀ (H : Heap) (locs : List Loc) (ls : Array Slot), mm_W G.1 ec_cl (ec_cnt n) L (ec_E G L n) σ H → va_S (mm_A (ec_cnt n) L) s.heap H locs → lv_has ls 4 [] → W p l e rm_X_hearRequest s m [.ref (L 0 0), .ref (L 15 i1)].toArray below meth c H locs 0 0 (MQ below (va_Qv (fun (_ : Unit) => True) (fun _ t => mm_pre G.1 ec_cl (ec_T G) (ec_cnt n) L (ec_E G L n) out t) (mm_A (ec_cnt n) L)) [.ref (L 0 0), .ref (L 15 i1)].toArray s 0 0 (mm_A (ec_cnt n) L)) (F0 m 74 ls [.int u7, .ref (L 15 i1), .ref (L 0 0)]) := by
          intro H locs ls hW hS hl
          obtain ⟨u8, hu8, hf⟩ := mm_bind hf
          refine mm_callv (va_runV (As := [.ref (L 15 i1), .int u7]) (rest := []) hC (c_X_reply l G L F n hI σ i1 u7 hi1 hu8) (cwV 2 hts (tw_gV tw_309 tw_311 ts_11 tw_1 tw_312) rfl rfl rfl (by decide +kernel) ⟨Nat.le_of_ble_eq_true rfl, Nat.le_of_ble_eq_true rfl⟩) (mm_preV hK hW (k := 0) (i := 0) (Nat.zero_lt_one) rfl rfl) rfl rfl hl.1 rfl (lv_room (Nat.le_of_ble_eq_true rfl)) d_X_hearRequest_74 ⟨Nat.zero_le _, Nat.zero_le _⟩) hS (fun _ h => h) (fun H locs hW _ _ hS => ?_)
          refine lv_goto (tgt := 129) hx hb d_X_hearRequest_77 (by decide) ?_
          obtain rfl := Option.some.inj hf
          exact jp1 _ _ _ hW hS (lv_sub hl [] rfl)
        clear hf
        have hf := hu7
        clear hu7
        refine lv_if_eq (tgt := 73) hx hb d_X_hearRequest_66 (by decide) (fun hc => ?_) (fun hc => ?_)
        · rw [if_pos hc] at hf
          refine lv_iconst (v := (0 : Int32)) hx hb d_X_hearRequest_73 (by decide) ?_
          obtain rfl := Option.some.inj hf
          exact jp2 _ _ _ hW hS (lv_sub hl [] rfl)
        · rw [if_neg hc] at hf
          refine lv_iconst (v := (1 : Int32)) hx hb d_X_hearRequest_69 (by decide) ?_
          refine lv_goto (tgt := 74) hx hb d_X_hearRequest_70 (by decide) ?_
          obtain rfl := Option.some.inj hf
          exact jp2 _ _ _ hW hS (lv_sub hl [] rfl)
    · rw [if_neg hc] at hf
      refine lv_aload_n hx hb d_X_hearRequest_47 rfl (lv_at hl 2 rfl) ?_
      refine lv_aload_n hx hb d_X_hearRequest_48 rfl (lv_at hl 3 rfl) ?_
      refine lv_iconst (v := (0 : Int32)) hx hb d_X_hearRequest_49 (by decide) ?_
      obtain ⟨u9, hu9, hf⟩ := mm_bind hf
      refine mm_callv (va_runV (As := [.ref (L 15 i1), .int (0 : Int32)]) (rest := []) hC (c_X_reply l G L F n hI σ i1 (0 : Int32) hi1 hu9) (cwV 2 hts (tw_gV tw_309 tw_311 ts_11 tw_1 tw_312) rfl rfl rfl (by decide +kernel) ⟨Nat.le_of_ble_eq_true rfl, Nat.le_of_ble_eq_true rfl⟩) (mm_preV hK hW (k := 0) (i := 0) (Nat.zero_lt_one) rfl rfl) rfl rfl hl.1 rfl (lv_room (Nat.le_of_ble_eq_true rfl)) d_X_hearRequest_50 ⟨Nat.zero_le _, Nat.zero_le _⟩) hS (fun _ h => h) (fun H locs hW _ _ hS => ?_)
      refine lv_goto (tgt := 129) hx hb d_X_hearRequest_53 (by decide) ?_
      obtain rfl := Option.some.inj hf
      exact jp1 _ _ _ hW hS (lv_sub hl [] rfl)
  · rw [if_pos hc] at hf
    refine lv_aload_n hx hb d_X_hearRequest_31 rfl (lv_at hl 2 rfl) ?_
    refine lv_aload_n hx hb d_X_hearRequest_32 rfl (lv_at hl 3 rfl) ?_
    refine lv_iconst (v := (1 : Int32)) hx hb d_X_hearRequest_33 (by decide) ?_
    obtain ⟨u10, hu10, hf⟩ := mm_bind hf
    refine mm_callv (va_runV (As := [.ref (L 15 i1), .int (1 : Int32)]) (rest := []) hC (c_X_reply l G L F n hI σ i1 (1 : Int32) hi1 hu10) (cwV 2 hts (tw_gV tw_309 tw_311 ts_11 tw_1 tw_312) rfl rfl rfl (by decide +kernel) ⟨Nat.le_of_ble_eq_true rfl, Nat.le_of_ble_eq_true rfl⟩) (mm_preV hK hW (k := 0) (i := 0) (Nat.zero_lt_one) rfl rfl) rfl rfl hl.1 rfl (lv_room (Nat.le_of_ble_eq_true rfl)) d_X_hearRequest_34 ⟨Nat.zero_le _, Nat.zero_le _⟩) hS (fun _ h => h) (fun H locs hW _ _ hS => ?_)
    refine lv_goto (tgt := 129) hx hb d_X_hearRequest_37 (by decide) ?_
    obtain rfl := Option.some.inj hf
    exact jp1 _ _ _ hW hS (lv_sub hl [] rfl)
abbrev rm_X_hearAnswer : Room := { frames := 4, cells := 0, slots := 0, locals := 95 }
set_option maxHeartbeats 4000000 in
set_option maxRecDepth 100000 in
theorem c_X_hearAnswer (l : Launch) (G : ec_G) (L : mm_L) (F n : Nat) (hI : mm_I (ec_cnt n) L) (σ : mm_M) (i1 : Nat) (hi1 : i1 < ec_cnt n 15) {out : mm_M} (hf : f_X_hearAnswer F n σ i1 = some out) :
    Met l y_X_hearAnswer (Cond.code y_X_hearAnswer b_X_hearAnswer 3 none :: tw_tbl) rm_X_hearAnswer (va_Pc [.ref (L 0 0), .ref (L 15 i1)] (mm_pre G.1 ec_cl (ec_T G) (ec_cnt n) L (ec_E G L n) σ))
      (va_Qv (fun (_ : Unit) => True) (fun _ t => mm_pre G.1 ec_cl (ec_T G) (ec_cnt n) L (ec_E G L n) out t) (mm_A (ec_cnt n) L)) 0 0 (mm_A (ec_cnt n) L) := by
  refine Met.ofW (cc := b_X_hearAnswer) (maxL := 3) (ret := none) (by decide) rfl ?_
  intro p e s m args below meth c s₁ B hml hv
  obtain ⟨rfl, hW, hK⟩ := hv
  have hx := B.exec
  have hb := B.bytes
  have hr := B.returns
  have hts0 := atoms_spec (ws := Cond.code y_X_hearAnswer b_X_hearAnswer 3 none :: tw_tbl) B.pre
  have hts : ∀ w ∈ tw_tbl, w.before [.ref (L 0 0), .ref (L 15 i1)].toArray s = true := fun w h => hts0 w (List.mem_cons_of_mem _ h)
  clear hts0
  have hown : s.vm.findClass "TwoPhaseCuts" = some m.cls := findClass_of_methodNamed B.named
  have hlocks := B.notSynchronized
  have hC : CallFix p m c b_X_hearAnswer 3 s [.ref (L 0 0), .ref (L 15 i1)].toArray tw_tbl "TwoPhaseCuts" := ⟨hx, hb, hml, hown, hts⟩
  have hS : va_S (mm_A (ec_cnt n) L) s.heap s.heap [] := va_S.rf
  have hl := lv_entry ([.ref (L 0 0), .ref (L 15 i1)]) (n := 3) (Nat.le_of_ble_eq_true rfl)
  rw [lg_entry_eq]
  generalize (lg_sl ([.ref (L 0 0), .ref (L 15 i1)]) ++ List.replicate (3 - (lg_sl ([.ref (L 0 0), .ref (L 15 i1)])).length) Slot.unset).toArray = ls at hl ⊢
  have hl : lv_has ls 3 [(0, .ref (L 0 0)), (1, .ref (L 15 i1))] := hl
  have hW : mm_W G.1 ec_cl (ec_cnt n) L (ec_E G L n) σ s.heap := hW
  clear B
  show W p l e rm_X_hearAnswer s m [.ref (L 0 0), .ref (L 15 i1)].toArray below meth c s.heap [] 0 0 (MQ below (va_Qv (fun (_ : Unit) => True) (fun _ t => mm_pre G.1 ec_cl (ec_T G) (ec_cnt n) L (ec_E G L n) out t) (mm_A (ec_cnt n) L)) [.ref (L 0 0), .ref (L 15 i1)].toArray s 0 0 (mm_A (ec_cnt n) L)) (F0 m 0 ls [])
  unfold f_X_hearAnswer at hf
  refine lv_aload_n hx hb d_X_hearAnswer_0 rfl (lv_at hl 0 rfl) ?_
  refine va_get (D := G.1) (ci := 0) (C := "TwoPhaseCuts") (T := T_X) (N := 7) (v := .ref (L 1 0)) hx hb hts ui_X hown hK (hW.one (k := 0) (i := 0) (Nat.zero_lt_one)) 0 rfl rfl 1 (by decide) (hts _ tw_165) (fun _ h9 => h9) rfl d_X_hearAnswer_1 ?_
  refine lv_aload_n hx hb d_X_hearAnswer_4 rfl (lv_at hl 1 rfl) ?_
  refine va_get (D := G.1) (ci := 5) (C := "TwoPhaseCuts$Note") (T := T_N) (N := 5) (v := .int (σ 15 i1 3)) hx hb hts ui_N hown hK (hW.one (k := 15) (i := i1) hi1) 0 rfl rfl 3 (by decide) (hts _ tw_139) (fun _ h9 => h9) rfl d_X_hearAnswer_5 ?_
  obtain ⟨hg1, hf⟩ := mm_guard hf
  refine va_aldq (D := G.1) (cl := ec_cl) hx hb hK (hW.one (k := 1) (i := 0) (Nat.zero_lt_one)) 0 2 rfl rfl (mm_vp hg1) d_X_hearAnswer_8 ?_
  refine lv_astore_n (lv' := [(2, .ref (L 6 (Int32.toNatClampNeg (σ 15 i1 3)))), (0, .ref (L 0 0)), (1, .ref (L 15 i1))]) hx hb d_X_hearAnswer_9 rfl hl (by decide) rfl (fun ls hl => ?_)
  refine lv_aload_n hx hb d_X_hearAnswer_10 rfl (lv_at hl 0 rfl) ?_
  refine lv_dup hx hb d_X_hearAnswer_11 rfl ?_
  refine va_get (D := G.1) (ci := 1) (C := "TwoPhaseCuts$Member") (T := T_M) (N := 12) (v := .int (σ 6 (Int32.toNatClampNeg (σ 15 i1 3)) 10)) hx hb hts ui_M hown hK (hW.one (k := 6) (i := (Int32.toNatClampNeg (σ 15 i1 3))) (mm_nat hg1)) 0 rfl rfl 10 (by decide) (hts _ tw_70) (fun _ h9 => h9) rfl d_X_hearAnswer_12 ?_
  refine lv_iconst (v := (1 : Int32)) hx hb d_X_hearAnswer_15 (by decide) ?_
  refine lv_isub hx hb d_X_hearAnswer_16 ?_
  refine mm_put (D := G.1) (ci := 1) (C := "TwoPhaseCuts$Member") (T := T_M) (N := 12) (x := ((σ 6 (Int32.toNatClampNeg (σ 15 i1 3)) 10) - (1 : Int32))) hx hb hts ui_M ty_M tyo_M nmo_M hown hK hI hW hS (k := 6) (i := (Int32.toNatClampNeg (σ 15 i1 3))) (mm_nat hg1) rfl rfl 10 (by decide) (hts _ tw_70) (fun _ h9 => h9) rfl (ty := .int) (by decide +kernel) (vp_nar_int _) rfl (Nat.le_of_ble_eq_true rfl) rfl d_X_hearAnswer_17 (fun H locs hW hS => ?_)
  refine lv_aload_n hx hb d_X_hearAnswer_20 rfl (lv_at hl 2 rfl) ?_
  refine va_get (D := G.1) (ci := 5) (C := "TwoPhaseCuts$Note") (T := T_N) (N := 5) (v := .int (σ 15 i1 4)) hx hb hts ui_N hown hK (hW.one (k := 15) (i := i1) hi1) 0 rfl rfl 4 (by decide) (hts _ tw_141) (fun _ h9 => h9) rfl d_X_hearAnswer_21 ?_
  obtain ⟨u1, hu1, hf⟩ := mm_bind hf
  have jp1 : ∀ (H : Heap) (locs : List Loc) (ls : Array Slot), mm_W G.1 ec_cl (ec_cnt n) L (ec_E G L n) u1 H → va_S (mm_A (ec_cnt n) L) s.heap H locs → lv_has ls 3 [(0, .ref (L 0 0)), (1, .ref (L 15 i1))] → W p l e rm_X_hearAnswer s m [.ref (L 0 0), .ref (L 15 i1)].toArray below meth c H locs 0 0 (MQ below (va_Qv (fun (_ : Unit) => True) (fun _ t => mm_pre G.1 ec_cl (ec_T G) (ec_cnt n) L (ec_E G L n) out t) (mm_A (ec_cnt n) L)) [.ref (L 0 0), .ref (L 15 i1)].toArray s 0 0 (mm_A (ec_cnt n) L)) (F0 m 32 ls []) := by
    intro H locs ls hW hS hl
    refine lv_aload_n hx hb d_X_hearAnswer_32 rfl (lv_at hl 0 rfl) ?_
    refine lv_aload_n hx hb d_X_hearAnswer_33 rfl (lv_at hl 1 rfl) ?_
    refine va_get (D := G.1) (ci := 5) (C := "TwoPhaseCuts$Note") (T := T_N) (N := 5) (v := .int (u1 15 i1 3)) hx hb hts ui_N hown hK (hW.one (k := 15) (i := i1) hi1) 0 rfl rfl 3 (by decide) (hts _ tw_139) (fun _ h9 => h9) rfl d_X_hearAnswer_34 ?_
    obtain ⟨u2, hu2, hf⟩ := mm_bind hf
    refine mm_callv (va_runV (As := [.int (u1 15 i1 3)]) (rest := []) hC (c_X_concludeWhenAnswered l G L F n hI u1 (u1 15 i1 3) hu2) (cwV 1 hts (tw_gV tw_264 tw_266 ts_6 tw_1 tw_267) rfl rfl rfl (by decide +kernel) ⟨Nat.le_of_ble_eq_true rfl, Nat.le_of_ble_eq_true rfl⟩) (mm_preV hK hW (k := 0) (i := 0) (Nat.zero_lt_one) rfl rfl) rfl rfl hl.1 rfl (lv_room (Nat.le_of_ble_eq_true rfl)) d_X_hearAnswer_37 ⟨Nat.zero_le _, Nat.zero_le _⟩) hS (fun _ h => h) (fun H locs hW _ _ hS => ?_)
    obtain rfl := Option.some.inj hf
    exact W.vret hx hb hr (fun t ht hw => ⟨⟨(), rfl, trivial, (mm_back ht hw hW hK)⟩, hS.F ht⟩) hS.2.2 d_X_hearAnswer_40
  clear hf
  have hf := hu1
  clear hu1
  refine lv_if_ne (tgt := 32) hx hb d_X_hearAnswer_24 (by decide) (fun hc => ?_) (fun hc => ?_)
  · rw [if_neg hc] at hf
    obtain rfl := Option.some.inj hf
    exact jp1 _ _ _ hW hS (lv_sub hl [1, 2] rfl)
  · rw [if_pos hc] at hf
    refine lv_aload_n hx hb d_X_hearAnswer_27 rfl (lv_at hl 0 rfl) ?_
    refine lv_iconst (v := (0 : Int32)) hx hb d_X_hearAnswer_28 (by decide) ?_
    refine mm_put (D := G.1) (ci := 1) (C := "TwoPhaseCuts$Member") (T := T_M) (N := 12) (x := (0 : Int32)) hx hb hts ui_M ty_M tyo_M nmo_M hown hK hI hW hS (k := 6) (i := (Int32.toNatClampNeg (σ 15 i1 3))) (mm_nat hg1) rfl rfl 11 (by decide) (hts _ tw_72) (fun _ h9 => h9) rfl (ty := .boolean) (by decide +kernel) (mm_zn (Or.inl rfl)) (mm_zf (Or.inl rfl)) (Nat.le_of_ble_eq_true rfl) rfl d_X_hearAnswer_29 (fun H locs hW hS => ?_)
    obtain rfl := Option.some.inj hf
    exact jp1 _ _ _ hW hS (lv_sub hl [1, 2] rfl)
abbrev rm_X_hearDecision : Room := { frames := 3, cells := 0, slots := 0, locals := 72 }
set_option maxHeartbeats 4000000 in
set_option maxRecDepth 100000 in
theorem c_X_hearDecision (l : Launch) (G : ec_G) (L : mm_L) (F n : Nat) (hI : mm_I (ec_cnt n) L) (σ : mm_M) (i1 : Nat) (hi1 : i1 < ec_cnt n 15) {out : mm_M} (hf : f_X_hearDecision F n σ i1 = some out) :
    Met l y_X_hearDecision (Cond.code y_X_hearDecision b_X_hearDecision 2 none :: tw_tbl) rm_X_hearDecision (va_Pc [.ref (L 0 0), .ref (L 15 i1)] (mm_pre G.1 ec_cl (ec_T G) (ec_cnt n) L (ec_E G L n) σ))
      (va_Qv (fun (_ : Unit) => True) (fun _ t => mm_pre G.1 ec_cl (ec_T G) (ec_cnt n) L (ec_E G L n) out t) (mm_A (ec_cnt n) L)) 0 0 (mm_A (ec_cnt n) L) := by
  refine Met.ofW (cc := b_X_hearDecision) (maxL := 2) (ret := none) (by decide) rfl ?_
  intro p e s m args below meth c s₁ B hml hv
  obtain ⟨rfl, hW, hK⟩ := hv
  have hx := B.exec
  have hb := B.bytes
  have hr := B.returns
  have hts0 := atoms_spec (ws := Cond.code y_X_hearDecision b_X_hearDecision 2 none :: tw_tbl) B.pre
  have hts : ∀ w ∈ tw_tbl, w.before [.ref (L 0 0), .ref (L 15 i1)].toArray s = true := fun w h => hts0 w (List.mem_cons_of_mem _ h)
  clear hts0
  have hown : s.vm.findClass "TwoPhaseCuts" = some m.cls := findClass_of_methodNamed B.named
  have hlocks := B.notSynchronized
  have hC : CallFix p m c b_X_hearDecision 2 s [.ref (L 0 0), .ref (L 15 i1)].toArray tw_tbl "TwoPhaseCuts" := ⟨hx, hb, hml, hown, hts⟩
  have hS : va_S (mm_A (ec_cnt n) L) s.heap s.heap [] := va_S.rf
  have hl := lv_entry ([.ref (L 0 0), .ref (L 15 i1)]) (n := 2) (Nat.le_of_ble_eq_true rfl)
  rw [lg_entry_eq]
  generalize (lg_sl ([.ref (L 0 0), .ref (L 15 i1)]) ++ List.replicate (2 - (lg_sl ([.ref (L 0 0), .ref (L 15 i1)])).length) Slot.unset).toArray = ls at hl ⊢
  have hl : lv_has ls 2 [(0, .ref (L 0 0)), (1, .ref (L 15 i1))] := hl
  have hW : mm_W G.1 ec_cl (ec_cnt n) L (ec_E G L n) σ s.heap := hW
  clear B
  show W p l e rm_X_hearDecision s m [.ref (L 0 0), .ref (L 15 i1)].toArray below meth c s.heap [] 0 0 (MQ below (va_Qv (fun (_ : Unit) => True) (fun _ t => mm_pre G.1 ec_cl (ec_T G) (ec_cnt n) L (ec_E G L n) out t) (mm_A (ec_cnt n) L)) [.ref (L 0 0), .ref (L 15 i1)].toArray s 0 0 (mm_A (ec_cnt n) L)) (F0 m 0 ls [])
  unfold f_X_hearDecision at hf
  refine lv_aload_n hx hb d_X_hearDecision_0 rfl (lv_at hl 0 rfl) ?_
  refine va_get (D := G.1) (ci := 0) (C := "TwoPhaseCuts") (T := T_X) (N := 7) (v := .ref (L 1 0)) hx hb hts ui_X hown hK (hW.one (k := 0) (i := 0) (Nat.zero_lt_one)) 0 rfl rfl 1 (by decide) (hts _ tw_165) (fun _ h9 => h9) rfl d_X_hearDecision_1 ?_
  refine lv_aload_n hx hb d_X_hearDecision_4 rfl (lv_at hl 1 rfl) ?_
  refine va_get (D := G.1) (ci := 5) (C := "TwoPhaseCuts$Note") (T := T_N) (N := 5) (v := .int (σ 15 i1 3)) hx hb hts ui_N hown hK (hW.one (k := 15) (i := i1) hi1) 0 rfl rfl 3 (by decide) (hts _ tw_139) (fun _ h9 => h9) rfl d_X_hearDecision_5 ?_
  obtain ⟨hg1, hf⟩ := mm_guard hf
  refine va_aldq (D := G.1) (cl := ec_cl) hx hb hK (hW.one (k := 1) (i := 0) (Nat.zero_lt_one)) 0 2 rfl rfl (mm_vp hg1) d_X_hearDecision_8 ?_
  refine va_get (D := G.1) (ci := 1) (C := "TwoPhaseCuts$Member") (T := T_M) (N := 12) (v := .int (σ 6 (Int32.toNatClampNeg (σ 15 i1 3)) 6)) hx hb hts ui_M hown hK (hW.one (k := 6) (i := (Int32.toNatClampNeg (σ 15 i1 3))) (mm_nat hg1)) 0 rfl rfl 6 (by decide) (hts _ tw_63) (fun _ h9 => h9) rfl d_X_hearDecision_9 ?_
  refine lv_aload_n hx hb d_X_hearDecision_12 rfl (lv_at hl 1 rfl) ?_
  refine va_get (D := G.1) (ci := 5) (C := "TwoPhaseCuts$Note") (T := T_N) (N := 5) (v := .int (σ 15 i1 1)) hx hb hts ui_N hown hK (hW.one (k := 15) (i := i1) hi1) 0 rfl rfl 1 (by decide) (hts _ tw_135) (fun _ h9 => h9) rfl d_X_hearDecision_13 ?_
  obtain ⟨u1, hu1, hf⟩ := mm_bind hf
  have jp1 : ∀ (H : Heap) (locs : List Loc) (ls : Array Slot), mm_W G.1 ec_cl (ec_cnt n) L (ec_E G L n) u1 H → va_S (mm_A (ec_cnt n) L) s.heap H locs → lv_has ls 2 [] → W p l e rm_X_hearDecision s m [.ref (L 0 0), .ref (L 15 i1)].toArray below meth c H locs 0 0 (MQ below (va_Qv (fun (_ : Unit) => True) (fun _ t => mm_pre G.1 ec_cl (ec_T G) (ec_cnt n) L (ec_E G L n) out t) (mm_A (ec_cnt n) L)) [.ref (L 0 0), .ref (L 15 i1)].toArray s 0 0 (mm_A (ec_cnt n) L)) (F0 m 31 ls []) := by
    intro H locs ls hW hS hl
    obtain rfl := Option.some.inj hf
    exact W.vret hx hb hr (fun t ht hw => ⟨⟨(), rfl, trivial, (mm_back ht hw hW hK)⟩, hS.F ht⟩) hS.2.2 d_X_hearDecision_31
  clear hf
  have hf := hu1
  clear hu1
  refine lv_icmp_ne (tgt := 31) hx hb d_X_hearDecision_16 (by decide) (fun hc => ?_) (fun hc => ?_)
  · rw [if_neg hc] at hf
    obtain rfl := Option.some.inj hf
    exact jp1 _ _ _ hW hS (lv_sub hl [] rfl)
  · rw [if_pos hc] at hf
    refine lv_aload_n hx hb d_X_hearDecision_19 rfl (lv_at hl 0 rfl) ?_
    refine lv_aload_n hx hb d_X_hearDecision_20 rfl (lv_at hl 1 rfl) ?_
    refine va_get (D := G.1) (ci := 5) (C := "TwoPhaseCuts$Note") (T := T_N) (N := 5) (v := .int (σ 15 i1 3)) hx hb hts ui_N hown hK (hW.one (k := 15) (i := i1) hi1) 0 rfl rfl 3 (by decide) (hts _ tw_139) (fun _ h9 => h9) rfl d_X_hearDecision_21 ?_
    refine lv_aload_n hx hb d_X_hearDecision_24 rfl (lv_at hl 1 rfl) ?_
    refine va_get (D := G.1) (ci := 5) (C := "TwoPhaseCuts$Note") (T := T_N) (N := 5) (v := .int (σ 15 i1 4)) hx hb hts ui_N hown hK (hW.one (k := 15) (i := i1) hi1) 0 rfl rfl 4 (by decide) (hts _ tw_141) (fun _ h9 => h9) rfl d_X_hearDecision_25 ?_
    obtain ⟨u2, hu2, hf⟩ := mm_bind hf
    refine mm_callv (va_runV (As := [.int (σ 15 i1 3), .int (σ 15 i1 4)]) (rest := []) hC (c_X_follow l G L F n hI σ (σ 15 i1 3) (σ 15 i1 4) hu2) (cwV 2 hts (tw_gV tw_268 tw_270 ts_7 tw_1 tw_271) rfl rfl rfl (by decide +kernel) ⟨Nat.le_of_ble_eq_true rfl, Nat.le_of_ble_eq_true rfl⟩) (mm_preV hK hW (k := 0) (i := 0) (Nat.zero_lt_one) rfl rfl) rfl rfl hl.1 rfl (lv_room (Nat.le_of_ble_eq_true rfl)) d_X_hearDecision_28 ⟨Nat.zero_le _, Nat.zero_le _⟩) hS (fun _ h => h) (fun H locs hW _ _ hS => ?_)
    obtain rfl := Option.some.inj hf
    exact jp1 _ _ _ hW hS (lv_sub hl [] rfl)
abbrev rm_X_deliver : Room := { frames := 5, cells := 0, slots := 0, locals := 118 }
set_option maxHeartbeats 4000000 in
set_option maxRecDepth 100000 in
theorem c_X_deliver (l : Launch) (G : ec_G) (L : mm_L) (F n : Nat) (hI : mm_I (ec_cnt n) L) (σ : mm_M) (i1 : Nat) (hi1 : i1 < ec_cnt n 15) {out : mm_M} (hf : f_X_deliver F n σ i1 = some out) :
    Met l y_X_deliver (Cond.code y_X_deliver b_X_deliver 2 none :: tw_tbl) rm_X_deliver (va_Pc [.ref (L 0 0), .ref (L 15 i1)] (mm_pre G.1 ec_cl (ec_T G) (ec_cnt n) L (ec_E G L n) σ))
      (va_Qv (fun (_ : Unit) => True) (fun _ t => mm_pre G.1 ec_cl (ec_T G) (ec_cnt n) L (ec_E G L n) out t) (mm_A (ec_cnt n) L)) 0 0 (mm_A (ec_cnt n) L) := by
  refine Met.ofW (cc := b_X_deliver) (maxL := 2) (ret := none) (by decide) rfl ?_
  intro p e s m args below meth c s₁ B hml hv
  obtain ⟨rfl, hW, hK⟩ := hv
  have hx := B.exec
  have hb := B.bytes
  have hr := B.returns
  have hts0 := atoms_spec (ws := Cond.code y_X_deliver b_X_deliver 2 none :: tw_tbl) B.pre
  have hts : ∀ w ∈ tw_tbl, w.before [.ref (L 0 0), .ref (L 15 i1)].toArray s = true := fun w h => hts0 w (List.mem_cons_of_mem _ h)
  clear hts0
  have hown : s.vm.findClass "TwoPhaseCuts" = some m.cls := findClass_of_methodNamed B.named
  have hlocks := B.notSynchronized
  have hC : CallFix p m c b_X_deliver 2 s [.ref (L 0 0), .ref (L 15 i1)].toArray tw_tbl "TwoPhaseCuts" := ⟨hx, hb, hml, hown, hts⟩
  have hS : va_S (mm_A (ec_cnt n) L) s.heap s.heap [] := va_S.rf
  have hl := lv_entry ([.ref (L 0 0), .ref (L 15 i1)]) (n := 2) (Nat.le_of_ble_eq_true rfl)
  rw [lg_entry_eq]
  generalize (lg_sl ([.ref (L 0 0), .ref (L 15 i1)]) ++ List.replicate (2 - (lg_sl ([.ref (L 0 0), .ref (L 15 i1)])).length) Slot.unset).toArray = ls at hl ⊢
  have hl : lv_has ls 2 [(0, .ref (L 0 0)), (1, .ref (L 15 i1))] := hl
  have hW : mm_W G.1 ec_cl (ec_cnt n) L (ec_E G L n) σ s.heap := hW
  clear B
  show W p l e rm_X_deliver s m [.ref (L 0 0), .ref (L 15 i1)].toArray below meth c s.heap [] 0 0 (MQ below (va_Qv (fun (_ : Unit) => True) (fun _ t => mm_pre G.1 ec_cl (ec_T G) (ec_cnt n) L (ec_E G L n) out t) (mm_A (ec_cnt n) L)) [.ref (L 0 0), .ref (L 15 i1)].toArray s 0 0 (mm_A (ec_cnt n) L)) (F0 m 0 ls [])
  unfold f_X_deliver at hf
  refine lv_aload_n hx hb d_X_deliver_0 rfl (lv_at hl 1 rfl) ?_
  refine va_get (D := G.1) (ci := 5) (C := "TwoPhaseCuts$Note") (T := T_N) (N := 5) (v := .int (σ 15 i1 0)) hx hb hts ui_N hown hK (hW.one (k := 15) (i := i1) hi1) 0 rfl rfl 0 (by decide) (hts _ tw_133) (fun _ h9 => h9) rfl d_X_deliver_1 ?_
  obtain ⟨u1, hu1, hf⟩ := mm_bind hf
  have jp1 : ∀ (H : Heap) (locs : List Loc) (ls : Array Slot), mm_W G.1 ec_cl (ec_cnt n) L (ec_E G L n) u1 H → va_S (mm_A (ec_cnt n) L) s.heap H locs → lv_has ls 2 [] → W p l e rm_X_deliver s m [.ref (L 0 0), .ref (L 15 i1)].toArray below meth c H locs 0 0 (MQ below (va_Qv (fun (_ : Unit) => True) (fun _ t => mm_pre G.1 ec_cl (ec_T G) (ec_cnt n) L (ec_E G L n) out t) (mm_A (ec_cnt n) L)) [.ref (L 0 0), .ref (L 15 i1)].toArray s 0 0 (mm_A (ec_cnt n) L)) (F0 m 53 ls []) := by
    intro H locs ls hW hS hl
    obtain rfl := Option.some.inj hf
    exact W.vret hx hb hr (fun t ht hw => ⟨⟨(), rfl, trivial, (mm_back ht hw hW hK)⟩, hS.F ht⟩) hS.2.2 d_X_deliver_53
  clear hf
  have hf := hu1
  clear hu1
  by_cases hk0 : (σ 15 i1 0) = (0 : Int32)
  · rw [if_pos hk0] at hf
    refine mm_top hk0 ?_
    refine lv_lookup (tgt := 32) hx hb d_X_deliver_4 (by decide) rfl (by decide) ?_
    refine lv_aload_n hx hb d_X_deliver_32 rfl (lv_at hl 0 rfl) ?_
    refine lv_aload_n hx hb d_X_deliver_33 rfl (lv_at hl 1 rfl) ?_
    obtain ⟨u2, hu2, hf⟩ := mm_bind hf
    refine mm_callv (va_runV (As := [.ref (L 15 i1)]) (rest := []) hC (c_X_hearRequest l G L F n hI σ i1 hi1 hu2) (cwV 1 hts (tw_gV tw_305 tw_307 ts_10 tw_1 tw_308) rfl rfl rfl (by decide +kernel) ⟨Nat.le_of_ble_eq_true rfl, Nat.le_of_ble_eq_true rfl⟩) (mm_preV hK hW (k := 0) (i := 0) (Nat.zero_lt_one) rfl rfl) rfl rfl hl.1 rfl (lv_room (Nat.le_of_ble_eq_true rfl)) d_X_deliver_34 ⟨Nat.zero_le _, Nat.zero_le _⟩) hS (fun _ h => h) (fun H locs hW _ _ hS => ?_)
    refine lv_goto (tgt := 53) hx hb d_X_deliver_37 (by decide) ?_
    obtain rfl := Option.some.inj hf
    exact jp1 _ _ _ hW hS (lv_sub hl [] rfl)
  · rw [if_neg hk0] at hf
    by_cases hk1 : (σ 15 i1 0) = (1 : Int32)
    · rw [if_pos hk1] at hf
      refine mm_top hk1 ?_
      refine lv_lookup (tgt := 40) hx hb d_X_deliver_4 (by decide) rfl (by decide) ?_
      refine lv_aload_n hx hb d_X_deliver_40 rfl (lv_at hl 0 rfl) ?_
      refine lv_aload_n hx hb d_X_deliver_41 rfl (lv_at hl 1 rfl) ?_
      obtain ⟨u3, hu3, hf⟩ := mm_bind hf
      refine mm_callv (va_runV (As := [.ref (L 15 i1)]) (rest := []) hC (c_X_hearAnswer l G L F n hI σ i1 hi1 hu3) (cwV 1 hts (tw_gV tw_317 tw_319 ts_12 tw_1 tw_320) rfl rfl rfl (by decide +kernel) ⟨Nat.le_of_ble_eq_true rfl, Nat.le_of_ble_eq_true rfl⟩) (mm_preV hK hW (k := 0) (i := 0) (Nat.zero_lt_one) rfl rfl) rfl rfl hl.1 rfl (lv_room (Nat.le_of_ble_eq_true rfl)) d_X_deliver_42 ⟨Nat.zero_le _, Nat.zero_le _⟩) hS (fun _ h => h) (fun H locs hW _ _ hS => ?_)
      refine lv_goto (tgt := 53) hx hb d_X_deliver_45 (by decide) ?_
      obtain rfl := Option.some.inj hf
      exact jp1 _ _ _ hW hS (lv_sub hl [] rfl)
    · rw [if_neg hk1] at hf
      refine lv_lookup (tgt := 48) hx hb d_X_deliver_4 (by decide) (mm_lk2 hk0 hk1) (by decide) ?_
      refine lv_aload_n hx hb d_X_deliver_48 rfl (lv_at hl 0 rfl) ?_
      refine lv_aload_n hx hb d_X_deliver_49 rfl (lv_at hl 1 rfl) ?_
      obtain ⟨u4, hu4, hf⟩ := mm_bind hf
      refine mm_callv (va_runV (As := [.ref (L 15 i1)]) (rest := []) hC (c_X_hearDecision l G L F n hI σ i1 hi1 hu4) (cwV 1 hts (tw_gV tw_321 tw_323 ts_13 tw_1 tw_324) rfl rfl rfl (by decide +kernel) ⟨Nat.le_of_ble_eq_true rfl, Nat.le_of_ble_eq_true rfl⟩) (mm_preV hK hW (k := 0) (i := 0) (Nat.zero_lt_one) rfl rfl) rfl rfl hl.1 rfl (lv_room (Nat.le_of_ble_eq_true rfl)) d_X_deliver_50 ⟨Nat.zero_le _, Nat.zero_le _⟩) hS (fun _ h => h) (fun H locs hW _ _ hS => ?_)
      obtain rfl := Option.some.inj hf
      exact jp1 _ _ _ hW hS (lv_sub hl [] rfl)
abbrev rm_X_tick : Room := { frames := 6, cells := 0, slots := 0, locals := 139 }
set_option maxHeartbeats 4000000 in
set_option maxRecDepth 100000 in
theorem w_X_tick_l10 (l : Launch) (G : ec_G) (L : mm_L) {p : Program} {e : Env} {s : State} {m : MethodId} {args : Array Value} {below : List Frame} {meth : Method} {c : Code} {H0 : Heap} {Q : State → Prop} (F n : Nat) (hI : mm_I (ec_cnt n) L) (hC : CallFix p m c b_X_tick 3 s args tw_tbl "TwoPhaseCuts") (hK : va_K G.1 ec_cl (ec_T G) s) (x1 : Int32) {out : mm_M} :
    ∀ (K : Nat) (σ : mm_M) (v2 : Int32) (H : Heap) (locs : List Loc) (ls : Array Slot), f_X_tick_l10 F n x1 K σ v2 = some out → mm_W G.1 ec_cl (ec_cnt n) L (ec_E G L n) σ H → va_S (mm_A (ec_cnt n) L) H0 H locs → lv_has ls 3 [(0, .ref (L 0 0)), (1, .int x1), (2, .int v2)] →
    (∀ (H : Heap) (locs : List Loc) (ls : Array Slot), mm_W G.1 ec_cl (ec_cnt n) L (ec_E G L n) out H → va_S (mm_A (ec_cnt n) L) H0 H locs → lv_has ls 3 [(1, .int x1)] → W p l e rm_X_tick s m args below meth c H locs 0 0 Q (F0 m 39 ls [])) →
    W p l e rm_X_tick s m args below meth c H locs 0 0 Q (F0 m 10 ls []) := by
  obtain ⟨hx, hb, hml, hown, hts⟩ := id hC
  intro K
  induction K with
  | zero =>
    intro σ v2 H locs ls hf
    simp [f_X_tick_l10] at hf
  | succ K ih =>
    intro σ v2 H locs ls hf hW hS hl kx
    rw [f_X_tick_l10] at hf
    refine lv_iload_n hx hb d_X_tick_10 rfl (lv_at hl 2 rfl) ?_
    refine lv_iload_n hx hb d_X_tick_11 rfl (lv_at hl 1 rfl) ?_
    refine lv_icmp_ge (tgt := 39) hx hb d_X_tick_12 (by decide) (fun hc => ?_) (fun hc => ?_)
    · rw [if_pos hc] at hf
      obtain rfl := Option.some.inj hf
      exact kx _ _ _ hW hS (lv_sub hl [1] rfl)
    · rw [if_neg hc] at hf
      refine lv_aload_n hx hb d_X_tick_15 rfl (lv_at hl 0 rfl) ?_
      refine lv_aload_n hx hb d_X_tick_16 rfl (lv_at hl 0 rfl) ?_
      refine va_get (D := G.1) (ci := 0) (C := "TwoPhaseCuts") (T := T_X) (N := 7) (v := .ref (L 3 0)) hx hb hts ui_X hown hK (hW.one (k := 0) (i := 0) (Nat.zero_lt_one)) 0 rfl rfl 3 (by decide) (hts _ tw_167) (fun _ h9 => h9) rfl d_X_tick_17 ?_
      obtain ⟨u1, hu1, hf⟩ := mm_bind hf
      refine mm_callr (va_runV (As := []) (rest := [.ref (L 0 0)]) hC (c_L_first l G L F n hI σ hu1) (cwV 0 hts (tw_gV tw_297 tw_298 tw_299 tw_6 tw_300) rfl rfl rfl (by decide +kernel) ⟨Nat.le_of_ble_eq_true rfl, Nat.le_of_ble_eq_true rfl⟩) (mm_preV hK hW (k := 3) (i := 0) (Nat.zero_lt_one) rfl rfl) rfl rfl hl.1 rfl (lv_room (Nat.le_of_ble_eq_true rfl)) d_X_tick_20 ⟨Nat.zero_le _, Nat.zero_le _⟩) hS (fun _ h => h) (fun H locs hbu1 hW _ _ hS => ?_)
      obtain ⟨u2, hu2, hf⟩ := mm_bind hf
      refine mm_callv (va_runV (As := [.ref (L 15 u1)]) (rest := []) hC (c_X_deliver l G L F n hI σ u1 hbu1 hu2) (cwV 1 hts (tw_gV tw_301 tw_303 ts_9 tw_1 tw_304) rfl rfl rfl (by decide +kernel) ⟨Nat.le_of_ble_eq_true rfl, Nat.le_of_ble_eq_true rfl⟩) (mm_preV hK hW (k := 0) (i := 0) (Nat.zero_lt_one) rfl rfl) rfl rfl hl.1 rfl (lv_room (Nat.le_of_ble_eq_true rfl)) d_X_tick_23 ⟨Nat.zero_le _, Nat.zero_le _⟩) hS (fun _ h => h) (fun H locs hW _ _ hS => ?_)
      refine lv_aload_n hx hb d_X_tick_26 rfl (lv_at hl 0 rfl) ?_
      refine va_get (D := G.1) (ci := 0) (C := "TwoPhaseCuts") (T := T_X) (N := 7) (v := .ref (L 3 0)) hx hb hts ui_X hown hK (hW.one (k := 0) (i := 0) (Nat.zero_lt_one)) 0 rfl rfl 3 (by decide) (hts _ tw_167) (fun _ h9 => h9) rfl d_X_tick_27 ?_
      obtain ⟨u3, hu3, hf⟩ := mm_bind hf
      refine mm_callv (va_runV (As := []) (rest := []) hC (c_L_takeFirst l G L F n hI u2 hu3) (cwV 0 hts (tw_gV tw_325 tw_326 tw_327 tw_6 tw_328) rfl rfl rfl (by decide +kernel) ⟨Nat.le_of_ble_eq_true rfl, Nat.le_of_ble_eq_true rfl⟩) (mm_preV hK hW (k := 3) (i := 0) (Nat.zero_lt_one) rfl rfl) rfl rfl hl.1 rfl (lv_room (Nat.le_of_ble_eq_true rfl)) d_X_tick_30 ⟨Nat.zero_le _, Nat.zero_le _⟩) hS (fun _ h => h) (fun H locs hW _ _ hS => ?_)
      refine lv_iinc (v := (v2 + (1 : Int32))) (lv' := [(2, .int (v2 + (1 : Int32))), (0, .ref (L 0 0)), (1, .int x1)]) hx hb d_X_tick_33 hl (k := 2) rfl (mm_inc _) (by decide) rfl (fun ls hl => ?_)
      refine lv_goto (tgt := 10) hx hb d_X_tick_36 (by decide) ?_
      exact ih _ _ _ _ _ hf hW hS (lv_sub hl [1, 2, 0] rfl) kx
set_option maxHeartbeats 4000000 in
set_option maxRecDepth 100000 in
theorem c_X_tick (l : Launch) (G : ec_G) (L : mm_L) (F n : Nat) (hI : mm_I (ec_cnt n) L) (σ : mm_M) {out : Int32 × mm_M} (hf : f_X_tick F n σ = some out) :
    Met l y_X_tick (Cond.code y_X_tick b_X_tick 3 (some .int) :: tw_tbl) rm_X_tick (va_Pc [.ref (L 0 0)] (mm_pre G.1 ec_cl (ec_T G) (ec_cnt n) L (ec_E G L n) σ))
      (va_Qi (fun r (_ : Unit) => r = out.1) (fun _ t => mm_pre G.1 ec_cl (ec_T G) (ec_cnt n) L (ec_E G L n) out.2 t) (mm_A (ec_cnt n) L)) 0 0 (mm_A (ec_cnt n) L) := by
  refine Met.ofW (cc := b_X_tick) (maxL := 3) (ret := (some .int)) (by decide) rfl ?_
  intro p e s m args below meth c s₁ B hml hv
  obtain ⟨rfl, hW, hK⟩ := hv
  have hx := B.exec
  have hb := B.bytes
  have hr := B.returns
  have hts0 := atoms_spec (ws := Cond.code y_X_tick b_X_tick 3 (some .int) :: tw_tbl) B.pre
  have hts : ∀ w ∈ tw_tbl, w.before [.ref (L 0 0)].toArray s = true := fun w h => hts0 w (List.mem_cons_of_mem _ h)
  clear hts0
  have hown : s.vm.findClass "TwoPhaseCuts" = some m.cls := findClass_of_methodNamed B.named
  have hlocks := B.notSynchronized
  have hC : CallFix p m c b_X_tick 3 s [.ref (L 0 0)].toArray tw_tbl "TwoPhaseCuts" := ⟨hx, hb, hml, hown, hts⟩
  have hS : va_S (mm_A (ec_cnt n) L) s.heap s.heap [] := va_S.rf
  have hl := lv_entry ([.ref (L 0 0)]) (n := 3) (Nat.le_of_ble_eq_true rfl)
  rw [lg_entry_eq]
  generalize (lg_sl ([.ref (L 0 0)]) ++ List.replicate (3 - (lg_sl ([.ref (L 0 0)])).length) Slot.unset).toArray = ls at hl ⊢
  have hl : lv_has ls 3 [(0, .ref (L 0 0))] := hl
  have hW : mm_W G.1 ec_cl (ec_cnt n) L (ec_E G L n) σ s.heap := hW
  clear B
  show W p l e rm_X_tick s m [.ref (L 0 0)].toArray below meth c s.heap [] 0 0 (MQ below (va_Qi (fun r (_ : Unit) => r = out.1) (fun _ t => mm_pre G.1 ec_cl (ec_T G) (ec_cnt n) L (ec_E G L n) out.2 t) (mm_A (ec_cnt n) L)) [.ref (L 0 0)].toArray s 0 0 (mm_A (ec_cnt n) L)) (F0 m 0 ls [])
  unfold f_X_tick at hf
  refine lv_aload_n hx hb d_X_tick_0 rfl (lv_at hl 0 rfl) ?_
  refine va_get (D := G.1) (ci := 0) (C := "TwoPhaseCuts") (T := T_X) (N := 7) (v := .ref (L 3 0)) hx hb hts ui_X hown hK (hW.one (k := 0) (i := 0) (Nat.zero_lt_one)) 0 rfl rfl 3 (by decide) (hts _ tw_167) (fun _ h9 => h9) rfl d_X_tick_1 ?_
  refine va_get (D := G.1) (ci := 4) (C := "TwoPhaseCuts$NoteLine") (T := T_L) (N := 3) (v := .int (σ 3 0 2)) hx hb hts ui_L hown hK (hW.one (k := 3) (i := 0) (Nat.zero_lt_one)) 0 rfl rfl 2 (by decide) (hts _ tw_156) (fun _ h9 => h9) rfl d_X_tick_4 ?_
  refine lv_istore_n (lv' := [(1, .int (σ 3 0 2)), (0, .ref (L 0 0))]) hx hb d_X_tick_7 rfl hl (by decide) rfl (fun ls hl => ?_)
  refine lv_iconst (v := (0 : Int32)) hx hb d_X_tick_8 (by decide) ?_
  refine lv_istore_n (lv' := [(2, .int (0 : Int32)), (1, .int (σ 3 0 2)), (0, .ref (L 0 0))]) hx hb d_X_tick_9 rfl hl (by decide) rfl (fun ls hl => ?_)
  obtain ⟨u1, hu1, hf⟩ := mm_bind hf
  refine w_X_tick_l10 l G L F n hI hC hK (σ 3 0 2) F σ (0 : Int32) _ _ _ hu1 hW hS (lv_sub hl [2, 1, 0] rfl) (fun H locs ls hW hS hl => ?_)
  refine lv_iload_n hx hb d_X_tick_39 rfl (lv_at hl 0 rfl) ?_
  obtain rfl := Option.some.inj hf
  exact W.iret (v := (σ 3 0 2)) hx hb hr (fun t ht hw => ⟨⟨_, (), rfl, rfl, (mm_back ht hw hW hK)⟩, hS.F ht⟩) hS.2.2 d_X_tick_40
abbrev rm_X_value : Room := { frames := 1, cells := 0, slots := 0, locals := 21 }
set_option maxHeartbeats 4000000 in
set_option maxRecDepth 100000 in
theorem c_X_value (l : Launch) (G : ec_G) (L : mm_L) (F n : Nat) (hI : mm_I (ec_cnt n) L) (σ : mm_M) (a1 : Int32) {out : Int32} (hf : f_X_value F n σ a1 = some out) :
    Met l y_X_value (Cond.code y_X_value b_X_value 2 (some .int) :: tw_tbl) rm_X_value (va_Pc [.ref (L 0 0), .int a1] (mm_pre G.1 ec_cl (ec_T G) (ec_cnt n) L (ec_E G L n) σ))
      (va_Qi (fun r (_ : Unit) => r = out) (fun _ t => mm_pre G.1 ec_cl (ec_T G) (ec_cnt n) L (ec_E G L n) σ t) (mm_A (ec_cnt n) L)) 0 0 (mm_A (ec_cnt n) L) := by
  refine Met.ofW (cc := b_X_value) (maxL := 2) (ret := (some .int)) (by decide) rfl ?_
  intro p e s m args below meth c s₁ B hml hv
  obtain ⟨rfl, hW, hK⟩ := hv
  have hx := B.exec
  have hb := B.bytes
  have hr := B.returns
  have hts0 := atoms_spec (ws := Cond.code y_X_value b_X_value 2 (some .int) :: tw_tbl) B.pre
  have hts : ∀ w ∈ tw_tbl, w.before [.ref (L 0 0), .int a1].toArray s = true := fun w h => hts0 w (List.mem_cons_of_mem _ h)
  clear hts0
  have hown : s.vm.findClass "TwoPhaseCuts" = some m.cls := findClass_of_methodNamed B.named
  have hlocks := B.notSynchronized
  have hC : CallFix p m c b_X_value 2 s [.ref (L 0 0), .int a1].toArray tw_tbl "TwoPhaseCuts" := ⟨hx, hb, hml, hown, hts⟩
  have hS : va_S (mm_A (ec_cnt n) L) s.heap s.heap [] := va_S.rf
  have hl := lv_entry ([.ref (L 0 0), .int a1]) (n := 2) (Nat.le_of_ble_eq_true rfl)
  rw [lg_entry_eq]
  generalize (lg_sl ([.ref (L 0 0), .int a1]) ++ List.replicate (2 - (lg_sl ([.ref (L 0 0), .int a1])).length) Slot.unset).toArray = ls at hl ⊢
  have hl : lv_has ls 2 [(0, .ref (L 0 0)), (1, .int a1)] := hl
  have hW : mm_W G.1 ec_cl (ec_cnt n) L (ec_E G L n) σ s.heap := hW
  clear B
  show W p l e rm_X_value s m [.ref (L 0 0), .int a1].toArray below meth c s.heap [] 0 0 (MQ below (va_Qi (fun r (_ : Unit) => r = out) (fun _ t => mm_pre G.1 ec_cl (ec_T G) (ec_cnt n) L (ec_E G L n) σ t) (mm_A (ec_cnt n) L)) [.ref (L 0 0), .int a1].toArray s 0 0 (mm_A (ec_cnt n) L)) (F0 m 0 ls [])
  unfold f_X_value at hf
  refine lv_aload_n hx hb d_X_value_0 rfl (lv_at hl 0 rfl) ?_
  refine lv_iload_n hx hb d_X_value_1 rfl (lv_at hl 1 rfl) ?_
  obtain ⟨u1, hu1, hf⟩ := mm_bind hf
  refine mm_calli (va_runV (As := [.int a1]) (rest := []) hC (c_X_isProcess l G L F n hI σ a1 hu1) (cwV 1 hts (tw_gV tw_190 tw_192 ts_0 tw_1 tw_193) rfl rfl rfl (by decide +kernel) ⟨Nat.le_of_ble_eq_true rfl, Nat.le_of_ble_eq_true rfl⟩) (mm_preV hK hW (k := 0) (i := 0) (Nat.zero_lt_one) rfl rfl) rfl rfl hl.1 rfl (lv_room (Nat.le_of_ble_eq_true rfl)) d_X_value_2 ⟨Nat.zero_le _, Nat.zero_le _⟩) hS (fun _ h => h) (fun H locs hW _ _ hS => ?_)
  obtain ⟨u2, hu2, hf⟩ := mm_bind hf
  have jp1 : ∀ (H : Heap) (locs : List Loc) (ls : Array Slot), mm_W G.1 ec_cl (ec_cnt n) L (ec_E G L n) σ H → va_S (mm_A (ec_cnt n) L) s.heap H locs → lv_has ls 2 [] → W p l e rm_X_value s m [.ref (L 0 0), .int a1].toArray below meth c H locs 0 0 (MQ below (va_Qi (fun r (_ : Unit) => r = out) (fun _ t => mm_pre G.1 ec_cl (ec_T G) (ec_cnt n) L (ec_E G L n) σ t) (mm_A (ec_cnt n) L)) [.ref (L 0 0), .int a1].toArray s 0 0 (mm_A (ec_cnt n) L)) (F0 m 24 ls [.int u2]) := by
    intro H locs ls hW hS hl
    obtain rfl := Option.some.inj hf
    exact W.iret (v := u2) hx hb hr (fun t ht hw => ⟨⟨_, (), rfl, rfl, (mm_back ht hw hW hK)⟩, hS.F ht⟩) hS.2.2 d_X_value_24
  clear hf
  have hf := hu2
  clear hu2
  refine lv_if_eq (tgt := 23) hx hb d_X_value_5 (by decide) (fun hc => ?_) (fun hc => ?_)
  · rw [if_pos hc] at hf
    refine lv_iconst (v := (0 : Int32)) hx hb d_X_value_23 (by decide) ?_
    obtain rfl := Option.some.inj hf
    exact jp1 _ _ _ hW hS (lv_sub hl [] rfl)
  · rw [if_neg hc] at hf
    refine lv_aload_n hx hb d_X_value_8 rfl (lv_at hl 0 rfl) ?_
    refine va_get (D := G.1) (ci := 0) (C := "TwoPhaseCuts") (T := T_X) (N := 7) (v := .ref (L 1 0)) hx hb hts ui_X hown hK (hW.one (k := 0) (i := 0) (Nat.zero_lt_one)) 0 rfl rfl 1 (by decide) (hts _ tw_165) (fun _ h9 => h9) rfl d_X_value_9 ?_
    refine lv_iload_n hx hb d_X_value_12 rfl (lv_at hl 1 rfl) ?_
    obtain ⟨hg1, hf⟩ := mm_guard hf
    refine va_aldq (D := G.1) (cl := ec_cl) hx hb hK (hW.one (k := 1) (i := 0) (Nat.zero_lt_one)) 0 2 rfl rfl (mm_vp hg1) d_X_value_13 ?_
    refine va_get (D := G.1) (ci := 1) (C := "TwoPhaseCuts$Member") (T := T_M) (N := 12) (v := .ref (L 7 (3 * (Int32.toNatClampNeg a1)))) hx hb hts ui_M hown hK (hW.one (k := 6) (i := (Int32.toNatClampNeg a1)) (mm_nat hg1)) 0 rfl rfl 0 (by decide) (hts _ tw_53) (fun _ h9 => h9) rfl d_X_value_14 ?_
    refine va_get (D := G.1) (ci := 2) (C := "TwoPhaseCuts$State") (T := T_S) (N := 3) (v := .int (σ 7 (3 * (Int32.toNatClampNeg a1)) 0)) hx hb hts ui_S hown hK (hW.one (k := 7) (i := (3 * (Int32.toNatClampNeg a1))) (ec_h0 (mm_nat hg1))) 0 rfl rfl 0 (by decide) (hts _ tw_37) (fun _ h9 => h9) rfl d_X_value_17 ?_
    refine lv_goto (tgt := 24) hx hb d_X_value_20 (by decide) ?_
    obtain rfl := Option.some.inj hf
    exact jp1 _ _ _ hW hS (lv_sub hl [] rfl)
abbrev rm_X_kept : Room := { frames := 1, cells := 0, slots := 0, locals := 21 }
set_option maxHeartbeats 4000000 in
set_option maxRecDepth 100000 in
theorem c_X_kept (l : Launch) (G : ec_G) (L : mm_L) (F n : Nat) (hI : mm_I (ec_cnt n) L) (σ : mm_M) (a1 : Int32) {out : Int32} (hf : f_X_kept F n σ a1 = some out) :
    Met l y_X_kept (Cond.code y_X_kept b_X_kept 2 (some .int) :: tw_tbl) rm_X_kept (va_Pc [.ref (L 0 0), .int a1] (mm_pre G.1 ec_cl (ec_T G) (ec_cnt n) L (ec_E G L n) σ))
      (va_Qi (fun r (_ : Unit) => r = out) (fun _ t => mm_pre G.1 ec_cl (ec_T G) (ec_cnt n) L (ec_E G L n) σ t) (mm_A (ec_cnt n) L)) 0 0 (mm_A (ec_cnt n) L) := by
  refine Met.ofW (cc := b_X_kept) (maxL := 2) (ret := (some .int)) (by decide) rfl ?_
  intro p e s m args below meth c s₁ B hml hv
  obtain ⟨rfl, hW, hK⟩ := hv
  have hx := B.exec
  have hb := B.bytes
  have hr := B.returns
  have hts0 := atoms_spec (ws := Cond.code y_X_kept b_X_kept 2 (some .int) :: tw_tbl) B.pre
  have hts : ∀ w ∈ tw_tbl, w.before [.ref (L 0 0), .int a1].toArray s = true := fun w h => hts0 w (List.mem_cons_of_mem _ h)
  clear hts0
  have hown : s.vm.findClass "TwoPhaseCuts" = some m.cls := findClass_of_methodNamed B.named
  have hlocks := B.notSynchronized
  have hC : CallFix p m c b_X_kept 2 s [.ref (L 0 0), .int a1].toArray tw_tbl "TwoPhaseCuts" := ⟨hx, hb, hml, hown, hts⟩
  have hS : va_S (mm_A (ec_cnt n) L) s.heap s.heap [] := va_S.rf
  have hl := lv_entry ([.ref (L 0 0), .int a1]) (n := 2) (Nat.le_of_ble_eq_true rfl)
  rw [lg_entry_eq]
  generalize (lg_sl ([.ref (L 0 0), .int a1]) ++ List.replicate (2 - (lg_sl ([.ref (L 0 0), .int a1])).length) Slot.unset).toArray = ls at hl ⊢
  have hl : lv_has ls 2 [(0, .ref (L 0 0)), (1, .int a1)] := hl
  have hW : mm_W G.1 ec_cl (ec_cnt n) L (ec_E G L n) σ s.heap := hW
  clear B
  show W p l e rm_X_kept s m [.ref (L 0 0), .int a1].toArray below meth c s.heap [] 0 0 (MQ below (va_Qi (fun r (_ : Unit) => r = out) (fun _ t => mm_pre G.1 ec_cl (ec_T G) (ec_cnt n) L (ec_E G L n) σ t) (mm_A (ec_cnt n) L)) [.ref (L 0 0), .int a1].toArray s 0 0 (mm_A (ec_cnt n) L)) (F0 m 0 ls [])
  unfold f_X_kept at hf
  refine lv_aload_n hx hb d_X_kept_0 rfl (lv_at hl 0 rfl) ?_
  refine lv_iload_n hx hb d_X_kept_1 rfl (lv_at hl 1 rfl) ?_
  obtain ⟨u1, hu1, hf⟩ := mm_bind hf
  refine mm_calli (va_runV (As := [.int a1]) (rest := []) hC (c_X_isProcess l G L F n hI σ a1 hu1) (cwV 1 hts (tw_gV tw_190 tw_192 ts_0 tw_1 tw_193) rfl rfl rfl (by decide +kernel) ⟨Nat.le_of_ble_eq_true rfl, Nat.le_of_ble_eq_true rfl⟩) (mm_preV hK hW (k := 0) (i := 0) (Nat.zero_lt_one) rfl rfl) rfl rfl hl.1 rfl (lv_room (Nat.le_of_ble_eq_true rfl)) d_X_kept_2 ⟨Nat.zero_le _, Nat.zero_le _⟩) hS (fun _ h => h) (fun H locs hW _ _ hS => ?_)
  obtain ⟨u2, hu2, hf⟩ := mm_bind hf
  have jp1 : ∀ (H : Heap) (locs : List Loc) (ls : Array Slot), mm_W G.1 ec_cl (ec_cnt n) L (ec_E G L n) σ H → va_S (mm_A (ec_cnt n) L) s.heap H locs → lv_has ls 2 [] → W p l e rm_X_kept s m [.ref (L 0 0), .int a1].toArray below meth c H locs 0 0 (MQ below (va_Qi (fun r (_ : Unit) => r = out) (fun _ t => mm_pre G.1 ec_cl (ec_T G) (ec_cnt n) L (ec_E G L n) σ t) (mm_A (ec_cnt n) L)) [.ref (L 0 0), .int a1].toArray s 0 0 (mm_A (ec_cnt n) L)) (F0 m 24 ls [.int u2]) := by
    intro H locs ls hW hS hl
    obtain rfl := Option.some.inj hf
    exact W.iret (v := u2) hx hb hr (fun t ht hw => ⟨⟨_, (), rfl, rfl, (mm_back ht hw hW hK)⟩, hS.F ht⟩) hS.2.2 d_X_kept_24
  clear hf
  have hf := hu2
  clear hu2
  refine lv_if_eq (tgt := 23) hx hb d_X_kept_5 (by decide) (fun hc => ?_) (fun hc => ?_)
  · rw [if_pos hc] at hf
    refine lv_iconst (v := (0 : Int32)) hx hb d_X_kept_23 (by decide) ?_
    obtain rfl := Option.some.inj hf
    exact jp1 _ _ _ hW hS (lv_sub hl [] rfl)
  · rw [if_neg hc] at hf
    refine lv_aload_n hx hb d_X_kept_8 rfl (lv_at hl 0 rfl) ?_
    refine va_get (D := G.1) (ci := 0) (C := "TwoPhaseCuts") (T := T_X) (N := 7) (v := .ref (L 1 0)) hx hb hts ui_X hown hK (hW.one (k := 0) (i := 0) (Nat.zero_lt_one)) 0 rfl rfl 1 (by decide) (hts _ tw_165) (fun _ h9 => h9) rfl d_X_kept_9 ?_
    refine lv_iload_n hx hb d_X_kept_12 rfl (lv_at hl 1 rfl) ?_
    obtain ⟨hg1, hf⟩ := mm_guard hf
    refine va_aldq (D := G.1) (cl := ec_cl) hx hb hK (hW.one (k := 1) (i := 0) (Nat.zero_lt_one)) 0 2 rfl rfl (mm_vp hg1) d_X_kept_13 ?_
    refine va_get (D := G.1) (ci := 1) (C := "TwoPhaseCuts$Member") (T := T_M) (N := 12) (v := .ref (L 7 (3 * (Int32.toNatClampNeg a1) + 1))) hx hb hts ui_M hown hK (hW.one (k := 6) (i := (Int32.toNatClampNeg a1)) (mm_nat hg1)) 0 rfl rfl 1 (by decide) (hts _ tw_55) (fun _ h9 => h9) rfl d_X_kept_14 ?_
    refine va_get (D := G.1) (ci := 2) (C := "TwoPhaseCuts$State") (T := T_S) (N := 3) (v := .int (σ 7 (3 * (Int32.toNatClampNeg a1) + 1) 0)) hx hb hts ui_S hown hK (hW.one (k := 7) (i := (3 * (Int32.toNatClampNeg a1) + 1)) (ec_h1 (mm_nat hg1))) 0 rfl rfl 0 (by decide) (hts _ tw_37) (fun _ h9 => h9) rfl d_X_kept_17 ?_
    refine lv_goto (tgt := 24) hx hb d_X_kept_20 (by decide) ?_
    obtain rfl := Option.some.inj hf
    exact jp1 _ _ _ hW hS (lv_sub hl [] rfl)
abbrev rm_X_label : Room := { frames := 2, cells := 0, slots := 0, locals := 43 }
set_option maxHeartbeats 4000000 in
set_option maxRecDepth 100000 in
theorem c_X_label (l : Launch) (G : ec_G) (L : mm_L) (F n : Nat) (hI : mm_I (ec_cnt n) L) (σ : mm_M) (a1 : Int32) (a2 : Int32) (a3 : Int32) {out : Int32} (hf : f_X_label F n σ a1 a2 a3 = some out) :
    Met l y_X_label (Cond.code y_X_label b_X_label 4 (some .int) :: tw_tbl) rm_X_label (va_Pc [.ref (L 0 0), .int a1, .int a2, .int a3] (mm_pre G.1 ec_cl (ec_T G) (ec_cnt n) L (ec_E G L n) σ))
      (va_Qi (fun r (_ : Unit) => r = out) (fun _ t => mm_pre G.1 ec_cl (ec_T G) (ec_cnt n) L (ec_E G L n) σ t) (mm_A (ec_cnt n) L)) 0 0 (mm_A (ec_cnt n) L) := by
  refine Met.ofW (cc := b_X_label) (maxL := 4) (ret := (some .int)) (by decide) rfl ?_
  intro p e s m args below meth c s₁ B hml hv
  obtain ⟨rfl, hW, hK⟩ := hv
  have hx := B.exec
  have hb := B.bytes
  have hr := B.returns
  have hts0 := atoms_spec (ws := Cond.code y_X_label b_X_label 4 (some .int) :: tw_tbl) B.pre
  have hts : ∀ w ∈ tw_tbl, w.before [.ref (L 0 0), .int a1, .int a2, .int a3].toArray s = true := fun w h => hts0 w (List.mem_cons_of_mem _ h)
  clear hts0
  have hown : s.vm.findClass "TwoPhaseCuts" = some m.cls := findClass_of_methodNamed B.named
  have hlocks := B.notSynchronized
  have hC : CallFix p m c b_X_label 4 s [.ref (L 0 0), .int a1, .int a2, .int a3].toArray tw_tbl "TwoPhaseCuts" := ⟨hx, hb, hml, hown, hts⟩
  have hS : va_S (mm_A (ec_cnt n) L) s.heap s.heap [] := va_S.rf
  have hl := lv_entry ([.ref (L 0 0), .int a1, .int a2, .int a3]) (n := 4) (Nat.le_of_ble_eq_true rfl)
  rw [lg_entry_eq]
  generalize (lg_sl ([.ref (L 0 0), .int a1, .int a2, .int a3]) ++ List.replicate (4 - (lg_sl ([.ref (L 0 0), .int a1, .int a2, .int a3])).length) Slot.unset).toArray = ls at hl ⊢
  have hl : lv_has ls 4 [(0, .ref (L 0 0)), (1, .int a1), (2, .int a2), (3, .int a3)] := hl
  have hW : mm_W G.1 ec_cl (ec_cnt n) L (ec_E G L n) σ s.heap := hW
  clear B
  show W p l e rm_X_label s m [.ref (L 0 0), .int a1, .int a2, .int a3].toArray below meth c s.heap [] 0 0 (MQ below (va_Qi (fun r (_ : Unit) => r = out) (fun _ t => mm_pre G.1 ec_cl (ec_T G) (ec_cnt n) L (ec_E G L n) σ t) (mm_A (ec_cnt n) L)) [.ref (L 0 0), .int a1, .int a2, .int a3].toArray s 0 0 (mm_A (ec_cnt n) L)) (F0 m 0 ls [])
  unfold f_X_label at hf
  refine lv_aload_n hx hb d_X_label_0 rfl (lv_at hl 0 rfl) ?_
  refine lv_iload_n hx hb d_X_label_1 rfl (lv_at hl 1 rfl) ?_
  refine lv_iload_n hx hb d_X_label_2 rfl (lv_at hl 2 rfl) ?_
  obtain ⟨u1, hu1, hf⟩ := mm_bind hf
  refine mm_calli (va_runV (As := [.int a1, .int a2]) (rest := []) hC (c_X_isChannel l G L F n hI σ a1 a2 hu1) (cwV 2 hts (tw_gV tw_206 tw_208 ts_1 tw_1 tw_209) rfl rfl rfl (by decide +kernel) ⟨Nat.le_of_ble_eq_true rfl, Nat.le_of_ble_eq_true rfl⟩) (mm_preV hK hW (k := 0) (i := 0) (Nat.zero_lt_one) rfl rfl) rfl rfl hl.1 rfl (lv_room (Nat.le_of_ble_eq_true rfl)) d_X_label_3 ⟨Nat.zero_le _, Nat.zero_le _⟩) hS (fun _ h => h) (fun H locs hW _ _ hS => ?_)
  refine lv_if_ne (tgt := 11) hx hb d_X_label_6 (by decide) (fun hc => ?_) (fun hc => ?_)
  · rw [if_neg hc] at hf
    refine lv_iload_n hx hb d_X_label_11 rfl (lv_at hl 3 rfl) ?_
    by_cases hk0 : a3 = (0 : Int32)
    · rw [if_pos hk0] at hf
      refine mm_top hk0 ?_
      refine lv_tableIn (tgt := 44) hx hb d_X_label_12 (by decide) (by decide) rfl (by decide) ?_
      refine lv_aload_n hx hb d_X_label_44 rfl (lv_at hl 0 rfl) ?_
      refine va_get (D := G.1) (ci := 0) (C := "TwoPhaseCuts") (T := T_X) (N := 7) (v := .ref (L 1 0)) hx hb hts ui_X hown hK (hW.one (k := 0) (i := 0) (Nat.zero_lt_one)) 0 rfl rfl 1 (by decide) (hts _ tw_165) (fun _ h9 => h9) rfl d_X_label_45 ?_
      refine lv_iload_n hx hb d_X_label_48 rfl (lv_at hl 1 rfl) ?_
      obtain ⟨hg1, hf⟩ := mm_guard hf
      refine va_aldq (D := G.1) (cl := ec_cl) hx hb hK (hW.one (k := 1) (i := 0) (Nat.zero_lt_one)) 0 2 rfl rfl (mm_vp hg1) d_X_label_49 ?_
      refine va_get (D := G.1) (ci := 1) (C := "TwoPhaseCuts$Member") (T := T_M) (N := 12) (v := .ref (L 7 (3 * (Int32.toNatClampNeg a1)))) hx hb hts ui_M hown hK (hW.one (k := 6) (i := (Int32.toNatClampNeg a1)) (mm_nat hg1)) 0 rfl rfl 0 (by decide) (hts _ tw_53) (fun _ h9 => h9) rfl d_X_label_50 ?_
      refine va_get (D := G.1) (ci := 2) (C := "TwoPhaseCuts$State") (T := T_S) (N := 3) (v := .ref (L 8 (3 * (Int32.toNatClampNeg a1)))) hx hb hts ui_S hown hK (hW.one (k := 7) (i := (3 * (Int32.toNatClampNeg a1))) (ec_h0 (mm_nat hg1))) 0 rfl rfl 1 (by decide) (hts _ tw_39) (fun _ h9 => h9) rfl d_X_label_53 ?_
      refine lv_iload_n hx hb d_X_label_56 rfl (lv_at hl 2 rfl) ?_
      obtain ⟨hg2, hf⟩ := mm_guard hf
      refine va_iald (D := G.1) (cl := ec_cl) hx hb hK (hW.one (k := 8) (i := (3 * (Int32.toNatClampNeg a1))) (ec_h0 (mm_nat hg1))) 0 0 rfl rfl (mm_vp hg2) d_X_label_57 ?_
      refine mm_top (y := (σ 8 (3 * (Int32.toNatClampNeg a1)) (Int32.toNatClampNeg a2))) rfl ?_
      obtain rfl := Option.some.inj hf
      exact W.iret (v := (σ 8 (3 * (Int32.toNatClampNeg a1)) (Int32.toNatClampNeg a2))) hx hb hr (fun t ht hw => ⟨⟨_, (), rfl, rfl, (mm_back ht hw hW hK)⟩, hS.F ht⟩) hS.2.2 d_X_label_58
    · rw [if_neg hk0] at hf
      by_cases hk1 : a3 = (1 : Int32)
      · rw [if_pos hk1] at hf
        refine mm_top hk1 ?_
        refine lv_tableIn (tgt := 59) hx hb d_X_label_12 (by decide) (by decide) rfl (by decide) ?_
        refine lv_aload_n hx hb d_X_label_59 rfl (lv_at hl 0 rfl) ?_
        refine va_get (D := G.1) (ci := 0) (C := "TwoPhaseCuts") (T := T_X) (N := 7) (v := .ref (L 1 0)) hx hb hts ui_X hown hK (hW.one (k := 0) (i := 0) (Nat.zero_lt_one)) 0 rfl rfl 1 (by decide) (hts _ tw_165) (fun _ h9 => h9) rfl d_X_label_60 ?_
        refine lv_iload_n hx hb d_X_label_63 rfl (lv_at hl 1 rfl) ?_
        obtain ⟨hg3, hf⟩ := mm_guard hf
        refine va_aldq (D := G.1) (cl := ec_cl) hx hb hK (hW.one (k := 1) (i := 0) (Nat.zero_lt_one)) 0 2 rfl rfl (mm_vp hg3) d_X_label_64 ?_
        refine va_get (D := G.1) (ci := 1) (C := "TwoPhaseCuts$Member") (T := T_M) (N := 12) (v := .ref (L 7 (3 * (Int32.toNatClampNeg a1)))) hx hb hts ui_M hown hK (hW.one (k := 6) (i := (Int32.toNatClampNeg a1)) (mm_nat hg3)) 0 rfl rfl 0 (by decide) (hts _ tw_53) (fun _ h9 => h9) rfl d_X_label_65 ?_
        refine va_get (D := G.1) (ci := 2) (C := "TwoPhaseCuts$State") (T := T_S) (N := 3) (v := .ref (L 9 (3 * (Int32.toNatClampNeg a1)))) hx hb hts ui_S hown hK (hW.one (k := 7) (i := (3 * (Int32.toNatClampNeg a1))) (ec_h0 (mm_nat hg3))) 0 rfl rfl 2 (by decide) (hts _ tw_43) (fun _ h9 => h9) rfl d_X_label_68 ?_
        refine lv_iload_n hx hb d_X_label_71 rfl (lv_at hl 2 rfl) ?_
        obtain ⟨hg4, hf⟩ := mm_guard hf
        refine va_iald (D := G.1) (cl := ec_cl) hx hb hK (hW.one (k := 9) (i := (3 * (Int32.toNatClampNeg a1))) (ec_h0 (mm_nat hg3))) 0 0 rfl rfl (mm_vp hg4) d_X_label_72 ?_
        refine mm_top (y := (σ 9 (3 * (Int32.toNatClampNeg a1)) (Int32.toNatClampNeg a2))) rfl ?_
        obtain rfl := Option.some.inj hf
        exact W.iret (v := (σ 9 (3 * (Int32.toNatClampNeg a1)) (Int32.toNatClampNeg a2))) hx hb hr (fun t ht hw => ⟨⟨_, (), rfl, rfl, (mm_back ht hw hW hK)⟩, hS.F ht⟩) hS.2.2 d_X_label_73
      · rw [if_neg hk1] at hf
        by_cases hk2 : a3 = (2 : Int32)
        · rw [if_pos hk2] at hf
          refine mm_top hk2 ?_
          refine lv_tableIn (tgt := 74) hx hb d_X_label_12 (by decide) (by decide) rfl (by decide) ?_
          refine lv_aload_n hx hb d_X_label_74 rfl (lv_at hl 0 rfl) ?_
          refine va_get (D := G.1) (ci := 0) (C := "TwoPhaseCuts") (T := T_X) (N := 7) (v := .ref (L 1 0)) hx hb hts ui_X hown hK (hW.one (k := 0) (i := 0) (Nat.zero_lt_one)) 0 rfl rfl 1 (by decide) (hts _ tw_165) (fun _ h9 => h9) rfl d_X_label_75 ?_
          refine lv_iload_n hx hb d_X_label_78 rfl (lv_at hl 1 rfl) ?_
          obtain ⟨hg5, hf⟩ := mm_guard hf
          refine va_aldq (D := G.1) (cl := ec_cl) hx hb hK (hW.one (k := 1) (i := 0) (Nat.zero_lt_one)) 0 2 rfl rfl (mm_vp hg5) d_X_label_79 ?_
          refine va_get (D := G.1) (ci := 1) (C := "TwoPhaseCuts$Member") (T := T_M) (N := 12) (v := .ref (L 7 (3 * (Int32.toNatClampNeg a1) + 1))) hx hb hts ui_M hown hK (hW.one (k := 6) (i := (Int32.toNatClampNeg a1)) (mm_nat hg5)) 0 rfl rfl 1 (by decide) (hts _ tw_55) (fun _ h9 => h9) rfl d_X_label_80 ?_
          refine va_get (D := G.1) (ci := 2) (C := "TwoPhaseCuts$State") (T := T_S) (N := 3) (v := .ref (L 8 (3 * (Int32.toNatClampNeg a1) + 1))) hx hb hts ui_S hown hK (hW.one (k := 7) (i := (3 * (Int32.toNatClampNeg a1) + 1)) (ec_h1 (mm_nat hg5))) 0 rfl rfl 1 (by decide) (hts _ tw_39) (fun _ h9 => h9) rfl d_X_label_83 ?_
          refine lv_iload_n hx hb d_X_label_86 rfl (lv_at hl 2 rfl) ?_
          obtain ⟨hg6, hf⟩ := mm_guard hf
          refine va_iald (D := G.1) (cl := ec_cl) hx hb hK (hW.one (k := 8) (i := (3 * (Int32.toNatClampNeg a1) + 1)) (ec_h1 (mm_nat hg5))) 0 0 rfl rfl (mm_vp hg6) d_X_label_87 ?_
          refine mm_top (y := (σ 8 (3 * (Int32.toNatClampNeg a1) + 1) (Int32.toNatClampNeg a2))) rfl ?_
          obtain rfl := Option.some.inj hf
          exact W.iret (v := (σ 8 (3 * (Int32.toNatClampNeg a1) + 1) (Int32.toNatClampNeg a2))) hx hb hr (fun t ht hw => ⟨⟨_, (), rfl, rfl, (mm_back ht hw hW hK)⟩, hS.F ht⟩) hS.2.2 d_X_label_88
        · rw [if_neg hk2] at hf
          by_cases hk3 : a3 = (3 : Int32)
          · rw [if_pos hk3] at hf
            refine mm_top hk3 ?_
            refine lv_tableIn (tgt := 89) hx hb d_X_label_12 (by decide) (by decide) rfl (by decide) ?_
            refine lv_aload_n hx hb d_X_label_89 rfl (lv_at hl 0 rfl) ?_
            refine va_get (D := G.1) (ci := 0) (C := "TwoPhaseCuts") (T := T_X) (N := 7) (v := .ref (L 1 0)) hx hb hts ui_X hown hK (hW.one (k := 0) (i := 0) (Nat.zero_lt_one)) 0 rfl rfl 1 (by decide) (hts _ tw_165) (fun _ h9 => h9) rfl d_X_label_90 ?_
            refine lv_iload_n hx hb d_X_label_93 rfl (lv_at hl 1 rfl) ?_
            obtain ⟨hg7, hf⟩ := mm_guard hf
            refine va_aldq (D := G.1) (cl := ec_cl) hx hb hK (hW.one (k := 1) (i := 0) (Nat.zero_lt_one)) 0 2 rfl rfl (mm_vp hg7) d_X_label_94 ?_
            refine va_get (D := G.1) (ci := 1) (C := "TwoPhaseCuts$Member") (T := T_M) (N := 12) (v := .ref (L 7 (3 * (Int32.toNatClampNeg a1) + 1))) hx hb hts ui_M hown hK (hW.one (k := 6) (i := (Int32.toNatClampNeg a1)) (mm_nat hg7)) 0 rfl rfl 1 (by decide) (hts _ tw_55) (fun _ h9 => h9) rfl d_X_label_95 ?_
            refine va_get (D := G.1) (ci := 2) (C := "TwoPhaseCuts$State") (T := T_S) (N := 3) (v := .ref (L 9 (3 * (Int32.toNatClampNeg a1) + 1))) hx hb hts ui_S hown hK (hW.one (k := 7) (i := (3 * (Int32.toNatClampNeg a1) + 1)) (ec_h1 (mm_nat hg7))) 0 rfl rfl 2 (by decide) (hts _ tw_43) (fun _ h9 => h9) rfl d_X_label_98 ?_
            refine lv_iload_n hx hb d_X_label_101 rfl (lv_at hl 2 rfl) ?_
            obtain ⟨hg8, hf⟩ := mm_guard hf
            refine va_iald (D := G.1) (cl := ec_cl) hx hb hK (hW.one (k := 9) (i := (3 * (Int32.toNatClampNeg a1) + 1)) (ec_h1 (mm_nat hg7))) 0 0 rfl rfl (mm_vp hg8) d_X_label_102 ?_
            refine mm_top (y := (σ 9 (3 * (Int32.toNatClampNeg a1) + 1) (Int32.toNatClampNeg a2))) rfl ?_
            obtain rfl := Option.some.inj hf
            exact W.iret (v := (σ 9 (3 * (Int32.toNatClampNeg a1) + 1) (Int32.toNatClampNeg a2))) hx hb hr (fun t ht hw => ⟨⟨_, (), rfl, rfl, (mm_back ht hw hW hK)⟩, hS.F ht⟩) hS.2.2 d_X_label_103
          · rw [if_neg hk3] at hf
            refine lv_tableOut (tgt := 104) hx hb d_X_label_12 (mm_out4 hk0 hk1 hk2 hk3) (by decide) ?_
            refine lv_iconst (v := (-1 : Int32)) hx hb d_X_label_104 (by decide) ?_
            obtain rfl := Option.some.inj hf
            exact W.iret (v := (-1 : Int32)) hx hb hr (fun t ht hw => ⟨⟨_, (), rfl, rfl, (mm_back ht hw hW hK)⟩, hS.F ht⟩) hS.2.2 d_X_label_105
  · rw [if_pos hc] at hf
    refine lv_iconst (v := (-1 : Int32)) hx hb d_X_label_9 (by decide) ?_
    obtain rfl := Option.some.inj hf
    exact W.iret (v := (-1 : Int32)) hx hb hr (fun t ht hw => ⟨⟨_, (), rfl, rfl, (mm_back ht hw hW hK)⟩, hS.F ht⟩) hS.2.2 d_X_label_10
abbrev rm_X_waiting : Room := { frames := 2, cells := 0, slots := 0, locals := 43 }
set_option maxHeartbeats 4000000 in
set_option maxRecDepth 100000 in
theorem c_X_waiting (l : Launch) (G : ec_G) (L : mm_L) (F n : Nat) (hI : mm_I (ec_cnt n) L) (σ : mm_M) (a1 : Int32) (a2 : Int32) {out : Int32} (hf : f_X_waiting F n σ a1 a2 = some out) :
    Met l y_X_waiting (Cond.code y_X_waiting b_X_waiting 3 (some .int) :: tw_tbl) rm_X_waiting (va_Pc [.ref (L 0 0), .int a1, .int a2] (mm_pre G.1 ec_cl (ec_T G) (ec_cnt n) L (ec_E G L n) σ))
      (va_Qi (fun r (_ : Unit) => r = out) (fun _ t => mm_pre G.1 ec_cl (ec_T G) (ec_cnt n) L (ec_E G L n) σ t) (mm_A (ec_cnt n) L)) 0 0 (mm_A (ec_cnt n) L) := by
  refine Met.ofW (cc := b_X_waiting) (maxL := 3) (ret := (some .int)) (by decide) rfl ?_
  intro p e s m args below meth c s₁ B hml hv
  obtain ⟨rfl, hW, hK⟩ := hv
  have hx := B.exec
  have hb := B.bytes
  have hr := B.returns
  have hts0 := atoms_spec (ws := Cond.code y_X_waiting b_X_waiting 3 (some .int) :: tw_tbl) B.pre
  have hts : ∀ w ∈ tw_tbl, w.before [.ref (L 0 0), .int a1, .int a2].toArray s = true := fun w h => hts0 w (List.mem_cons_of_mem _ h)
  clear hts0
  have hown : s.vm.findClass "TwoPhaseCuts" = some m.cls := findClass_of_methodNamed B.named
  have hlocks := B.notSynchronized
  have hC : CallFix p m c b_X_waiting 3 s [.ref (L 0 0), .int a1, .int a2].toArray tw_tbl "TwoPhaseCuts" := ⟨hx, hb, hml, hown, hts⟩
  have hS : va_S (mm_A (ec_cnt n) L) s.heap s.heap [] := va_S.rf
  have hl := lv_entry ([.ref (L 0 0), .int a1, .int a2]) (n := 3) (Nat.le_of_ble_eq_true rfl)
  rw [lg_entry_eq]
  generalize (lg_sl ([.ref (L 0 0), .int a1, .int a2]) ++ List.replicate (3 - (lg_sl ([.ref (L 0 0), .int a1, .int a2])).length) Slot.unset).toArray = ls at hl ⊢
  have hl : lv_has ls 3 [(0, .ref (L 0 0)), (1, .int a1), (2, .int a2)] := hl
  have hW : mm_W G.1 ec_cl (ec_cnt n) L (ec_E G L n) σ s.heap := hW
  clear B
  show W p l e rm_X_waiting s m [.ref (L 0 0), .int a1, .int a2].toArray below meth c s.heap [] 0 0 (MQ below (va_Qi (fun r (_ : Unit) => r = out) (fun _ t => mm_pre G.1 ec_cl (ec_T G) (ec_cnt n) L (ec_E G L n) σ t) (mm_A (ec_cnt n) L)) [.ref (L 0 0), .int a1, .int a2].toArray s 0 0 (mm_A (ec_cnt n) L)) (F0 m 0 ls [])
  unfold f_X_waiting at hf
  refine lv_aload_n hx hb d_X_waiting_0 rfl (lv_at hl 0 rfl) ?_
  refine lv_iload_n hx hb d_X_waiting_1 rfl (lv_at hl 1 rfl) ?_
  refine lv_iload_n hx hb d_X_waiting_2 rfl (lv_at hl 2 rfl) ?_
  obtain ⟨u1, hu1, hf⟩ := mm_bind hf
  refine mm_calli (va_runV (As := [.int a1, .int a2]) (rest := []) hC (c_X_isChannel l G L F n hI σ a1 a2 hu1) (cwV 2 hts (tw_gV tw_206 tw_208 ts_1 tw_1 tw_209) rfl rfl rfl (by decide +kernel) ⟨Nat.le_of_ble_eq_true rfl, Nat.le_of_ble_eq_true rfl⟩) (mm_preV hK hW (k := 0) (i := 0) (Nat.zero_lt_one) rfl rfl) rfl rfl hl.1 rfl (lv_room (Nat.le_of_ble_eq_true rfl)) d_X_waiting_3 ⟨Nat.zero_le _, Nat.zero_le _⟩) hS (fun _ h => h) (fun H locs hW _ _ hS => ?_)
  obtain ⟨u2, hu2, hf⟩ := mm_bind hf
  have jp1 : ∀ (H : Heap) (locs : List Loc) (ls : Array Slot), mm_W G.1 ec_cl (ec_cnt n) L (ec_E G L n) σ H → va_S (mm_A (ec_cnt n) L) s.heap H locs → lv_has ls 3 [] → W p l e rm_X_waiting s m [.ref (L 0 0), .int a1, .int a2].toArray below meth c H locs 0 0 (MQ below (va_Qi (fun r (_ : Unit) => r = out) (fun _ t => mm_pre G.1 ec_cl (ec_T G) (ec_cnt n) L (ec_E G L n) σ t) (mm_A (ec_cnt n) L)) [.ref (L 0 0), .int a1, .int a2].toArray s 0 0 (mm_A (ec_cnt n) L)) (F0 m 22 ls [.int u2]) := by
    intro H locs ls hW hS hl
    obtain rfl := Option.some.inj hf
    exact W.iret (v := u2) hx hb hr (fun t ht hw => ⟨⟨_, (), rfl, rfl, (mm_back ht hw hW hK)⟩, hS.F ht⟩) hS.2.2 d_X_waiting_22
  clear hf
  have hf := hu2
  clear hu2
  refine lv_if_eq (tgt := 21) hx hb d_X_waiting_6 (by decide) (fun hc => ?_) (fun hc => ?_)
  · rw [if_pos hc] at hf
    refine lv_iconst (v := (-1 : Int32)) hx hb d_X_waiting_21 (by decide) ?_
    obtain rfl := Option.some.inj hf
    exact jp1 _ _ _ hW hS (lv_sub hl [] rfl)
  · rw [if_neg hc] at hf
    refine lv_aload_n hx hb d_X_waiting_9 rfl (lv_at hl 0 rfl) ?_
    refine lv_iload_n hx hb d_X_waiting_10 rfl (lv_at hl 1 rfl) ?_
    refine lv_iload_n hx hb d_X_waiting_11 rfl (lv_at hl 2 rfl) ?_
    obtain ⟨u3, hu3, hf⟩ := mm_bind hf
    refine mm_callr (va_runV (As := [.int a1, .int a2]) (rest := []) hC (c_X_channelOf l G L F n hI σ a1 a2 hu3) (cwV 2 hts (tw_gV tw_211 tw_213 ts_2 tw_1 tw_214) rfl rfl rfl (by decide +kernel) ⟨Nat.le_of_ble_eq_true rfl, Nat.le_of_ble_eq_true rfl⟩) (mm_preV hK hW (k := 0) (i := 0) (Nat.zero_lt_one) rfl rfl) rfl rfl hl.1 rfl (lv_room (Nat.le_of_ble_eq_true rfl)) d_X_waiting_12 ⟨Nat.zero_le _, Nat.zero_le _⟩) hS (fun _ h => h) (fun H locs hbu3 hW _ _ hS => ?_)
    refine va_get (D := G.1) (ci := 3) (C := "TwoPhaseCuts$Channel") (T := T_H) (N := 3) (v := .int (σ 11 u3 2)) hx hb hts ui_H hown hK (hW.one (k := 11) (i := u3) hbu3) 0 rfl rfl 2 (by decide) (hts _ tw_111) (fun _ h9 => h9) rfl d_X_waiting_15 ?_
    refine lv_goto (tgt := 22) hx hb d_X_waiting_18 (by decide) ?_
    obtain rfl := Option.some.inj hf
    exact jp1 _ _ _ hW hS (lv_sub hl [] rfl)
abbrev rm_X_down : Room := { frames := 1, cells := 0, slots := 0, locals := 21 }
set_option maxHeartbeats 4000000 in
set_option maxRecDepth 100000 in
theorem c_X_down (l : Launch) (G : ec_G) (L : mm_L) (F n : Nat) (hI : mm_I (ec_cnt n) L) (σ : mm_M) (a1 : Int32) {out : Int32} (hf : f_X_down F n σ a1 = some out) :
    Met l y_X_down (Cond.code y_X_down b_X_down 2 (some .boolean) :: tw_tbl) rm_X_down (va_Pc [.ref (L 0 0), .int a1] (mm_pre G.1 ec_cl (ec_T G) (ec_cnt n) L (ec_E G L n) σ))
      (va_Qi (fun r (_ : Unit) => r = out) (fun _ t => mm_pre G.1 ec_cl (ec_T G) (ec_cnt n) L (ec_E G L n) σ t) (mm_A (ec_cnt n) L)) 0 0 (mm_A (ec_cnt n) L) := by
  refine Met.ofW (cc := b_X_down) (maxL := 2) (ret := (some .boolean)) (by decide) rfl ?_
  intro p e s m args below meth c s₁ B hml hv
  obtain ⟨rfl, hW, hK⟩ := hv
  have hx := B.exec
  have hb := B.bytes
  have hr := B.returns
  have hts0 := atoms_spec (ws := Cond.code y_X_down b_X_down 2 (some .boolean) :: tw_tbl) B.pre
  have hts : ∀ w ∈ tw_tbl, w.before [.ref (L 0 0), .int a1].toArray s = true := fun w h => hts0 w (List.mem_cons_of_mem _ h)
  clear hts0
  have hown : s.vm.findClass "TwoPhaseCuts" = some m.cls := findClass_of_methodNamed B.named
  have hlocks := B.notSynchronized
  have hC : CallFix p m c b_X_down 2 s [.ref (L 0 0), .int a1].toArray tw_tbl "TwoPhaseCuts" := ⟨hx, hb, hml, hown, hts⟩
  have hS : va_S (mm_A (ec_cnt n) L) s.heap s.heap [] := va_S.rf
  have hl := lv_entry ([.ref (L 0 0), .int a1]) (n := 2) (Nat.le_of_ble_eq_true rfl)
  rw [lg_entry_eq]
  generalize (lg_sl ([.ref (L 0 0), .int a1]) ++ List.replicate (2 - (lg_sl ([.ref (L 0 0), .int a1])).length) Slot.unset).toArray = ls at hl ⊢
  have hl : lv_has ls 2 [(0, .ref (L 0 0)), (1, .int a1)] := hl
  have hW : mm_W G.1 ec_cl (ec_cnt n) L (ec_E G L n) σ s.heap := hW
  clear B
  show W p l e rm_X_down s m [.ref (L 0 0), .int a1].toArray below meth c s.heap [] 0 0 (MQ below (va_Qi (fun r (_ : Unit) => r = out) (fun _ t => mm_pre G.1 ec_cl (ec_T G) (ec_cnt n) L (ec_E G L n) σ t) (mm_A (ec_cnt n) L)) [.ref (L 0 0), .int a1].toArray s 0 0 (mm_A (ec_cnt n) L)) (F0 m 0 ls [])
  unfold f_X_down at hf
  refine lv_aload_n hx hb d_X_down_0 rfl (lv_at hl 0 rfl) ?_
  refine lv_iload_n hx hb d_X_down_1 rfl (lv_at hl 1 rfl) ?_
  obtain ⟨u1, hu1, hf⟩ := mm_bind hf
  refine mm_calli (va_runV (As := [.int a1]) (rest := []) hC (c_X_isProcess l G L F n hI σ a1 hu1) (cwV 1 hts (tw_gV tw_190 tw_192 ts_0 tw_1 tw_193) rfl rfl rfl (by decide +kernel) ⟨Nat.le_of_ble_eq_true rfl, Nat.le_of_ble_eq_true rfl⟩) (mm_preV hK hW (k := 0) (i := 0) (Nat.zero_lt_one) rfl rfl) rfl rfl hl.1 rfl (lv_room (Nat.le_of_ble_eq_true rfl)) d_X_down_2 ⟨Nat.zero_le _, Nat.zero_le _⟩) hS (fun _ h => h) (fun H locs hW _ _ hS => ?_)
  obtain ⟨u2, hu2, hf⟩ := mm_bind hf
  have jp1 : ∀ (H : Heap) (locs : List Loc) (ls : Array Slot), mm_W G.1 ec_cl (ec_cnt n) L (ec_E G L n) σ H → va_S (mm_A (ec_cnt n) L) s.heap H locs → lv_has ls 2 [] → W p l e rm_X_down s m [.ref (L 0 0), .int a1].toArray below meth c H locs 0 0 (MQ below (va_Qi (fun r (_ : Unit) => r = out) (fun _ t => mm_pre G.1 ec_cl (ec_T G) (ec_cnt n) L (ec_E G L n) σ t) (mm_A (ec_cnt n) L)) [.ref (L 0 0), .int a1].toArray s 0 0 (mm_A (ec_cnt n) L)) (F0 m 25 ls [.int u2]) := by
    intro H locs ls hW hS hl
    obtain ⟨hz1, hf⟩ := mm_guard hf
    obtain rfl := Option.some.inj hf
    exact W.zret (v := u2) hx hb hr (mm_zn hz1) (fun t ht hw => ⟨⟨_, (), rfl, rfl, (mm_back ht hw hW hK)⟩, hS.F ht⟩) hS.2.2 d_X_down_25
  clear hf
  have hf := hu2
  clear hu2
  refine lv_if_eq (tgt := 24) hx hb d_X_down_5 (by decide) (fun hc => ?_) (fun hc => ?_)
  · rw [if_pos hc] at hf
    refine lv_iconst (v := (0 : Int32)) hx hb d_X_down_24 (by decide) ?_
    obtain rfl := Option.some.inj hf
    exact jp1 _ _ _ hW hS (lv_sub hl [] rfl)
  · rw [if_neg hc] at hf
    refine lv_aload_n hx hb d_X_down_8 rfl (lv_at hl 0 rfl) ?_
    refine va_get (D := G.1) (ci := 0) (C := "TwoPhaseCuts") (T := T_X) (N := 7) (v := .ref (L 1 0)) hx hb hts ui_X hown hK (hW.one (k := 0) (i := 0) (Nat.zero_lt_one)) 0 rfl rfl 1 (by decide) (hts _ tw_165) (fun _ h9 => h9) rfl d_X_down_9 ?_
    refine lv_iload_n hx hb d_X_down_12 rfl (lv_at hl 1 rfl) ?_
    obtain ⟨hg2, hf⟩ := mm_guard hf
    refine va_aldq (D := G.1) (cl := ec_cl) hx hb hK (hW.one (k := 1) (i := 0) (Nat.zero_lt_one)) 0 2 rfl rfl (mm_vp hg2) d_X_down_13 ?_
    refine va_get (D := G.1) (ci := 1) (C := "TwoPhaseCuts$Member") (T := T_M) (N := 12) (v := .int (σ 6 (Int32.toNatClampNeg a1) 3)) hx hb hts ui_M hown hK (hW.one (k := 6) (i := (Int32.toNatClampNeg a1)) (mm_nat hg2)) 0 rfl rfl 3 (by decide) (hts _ tw_58) (fun _ h9 => h9) rfl d_X_down_14 ?_
    refine lv_if_eq (tgt := 24) hx hb d_X_down_17 (by decide) (fun hc => ?_) (fun hc => ?_)
    · rw [if_pos hc] at hf
      refine lv_iconst (v := (0 : Int32)) hx hb d_X_down_24 (by decide) ?_
      obtain rfl := Option.some.inj hf
      exact jp1 _ _ _ hW hS (lv_sub hl [] rfl)
    · rw [if_neg hc] at hf
      refine lv_iconst (v := (1 : Int32)) hx hb d_X_down_20 (by decide) ?_
      refine lv_goto (tgt := 25) hx hb d_X_down_21 (by decide) ?_
      obtain rfl := Option.some.inj hf
      exact jp1 _ _ _ hW hS (lv_sub hl [] rfl)
abbrev rm_X_instance : Room := { frames := 1, cells := 0, slots := 0, locals := 21 }
set_option maxHeartbeats 4000000 in
set_option maxRecDepth 100000 in
theorem c_X_instance (l : Launch) (G : ec_G) (L : mm_L) (F n : Nat) (hI : mm_I (ec_cnt n) L) (σ : mm_M) (a1 : Int32) {out : Int32} (hf : f_X_instance F n σ a1 = some out) :
    Met l y_X_instance (Cond.code y_X_instance b_X_instance 2 (some .int) :: tw_tbl) rm_X_instance (va_Pc [.ref (L 0 0), .int a1] (mm_pre G.1 ec_cl (ec_T G) (ec_cnt n) L (ec_E G L n) σ))
      (va_Qi (fun r (_ : Unit) => r = out) (fun _ t => mm_pre G.1 ec_cl (ec_T G) (ec_cnt n) L (ec_E G L n) σ t) (mm_A (ec_cnt n) L)) 0 0 (mm_A (ec_cnt n) L) := by
  refine Met.ofW (cc := b_X_instance) (maxL := 2) (ret := (some .int)) (by decide) rfl ?_
  intro p e s m args below meth c s₁ B hml hv
  obtain ⟨rfl, hW, hK⟩ := hv
  have hx := B.exec
  have hb := B.bytes
  have hr := B.returns
  have hts0 := atoms_spec (ws := Cond.code y_X_instance b_X_instance 2 (some .int) :: tw_tbl) B.pre
  have hts : ∀ w ∈ tw_tbl, w.before [.ref (L 0 0), .int a1].toArray s = true := fun w h => hts0 w (List.mem_cons_of_mem _ h)
  clear hts0
  have hown : s.vm.findClass "TwoPhaseCuts" = some m.cls := findClass_of_methodNamed B.named
  have hlocks := B.notSynchronized
  have hC : CallFix p m c b_X_instance 2 s [.ref (L 0 0), .int a1].toArray tw_tbl "TwoPhaseCuts" := ⟨hx, hb, hml, hown, hts⟩
  have hS : va_S (mm_A (ec_cnt n) L) s.heap s.heap [] := va_S.rf
  have hl := lv_entry ([.ref (L 0 0), .int a1]) (n := 2) (Nat.le_of_ble_eq_true rfl)
  rw [lg_entry_eq]
  generalize (lg_sl ([.ref (L 0 0), .int a1]) ++ List.replicate (2 - (lg_sl ([.ref (L 0 0), .int a1])).length) Slot.unset).toArray = ls at hl ⊢
  have hl : lv_has ls 2 [(0, .ref (L 0 0)), (1, .int a1)] := hl
  have hW : mm_W G.1 ec_cl (ec_cnt n) L (ec_E G L n) σ s.heap := hW
  clear B
  show W p l e rm_X_instance s m [.ref (L 0 0), .int a1].toArray below meth c s.heap [] 0 0 (MQ below (va_Qi (fun r (_ : Unit) => r = out) (fun _ t => mm_pre G.1 ec_cl (ec_T G) (ec_cnt n) L (ec_E G L n) σ t) (mm_A (ec_cnt n) L)) [.ref (L 0 0), .int a1].toArray s 0 0 (mm_A (ec_cnt n) L)) (F0 m 0 ls [])
  unfold f_X_instance at hf
  refine lv_aload_n hx hb d_X_instance_0 rfl (lv_at hl 0 rfl) ?_
  refine lv_iload_n hx hb d_X_instance_1 rfl (lv_at hl 1 rfl) ?_
  obtain ⟨u1, hu1, hf⟩ := mm_bind hf
  refine mm_calli (va_runV (As := [.int a1]) (rest := []) hC (c_X_isProcess l G L F n hI σ a1 hu1) (cwV 1 hts (tw_gV tw_190 tw_192 ts_0 tw_1 tw_193) rfl rfl rfl (by decide +kernel) ⟨Nat.le_of_ble_eq_true rfl, Nat.le_of_ble_eq_true rfl⟩) (mm_preV hK hW (k := 0) (i := 0) (Nat.zero_lt_one) rfl rfl) rfl rfl hl.1 rfl (lv_room (Nat.le_of_ble_eq_true rfl)) d_X_instance_2 ⟨Nat.zero_le _, Nat.zero_le _⟩) hS (fun _ h => h) (fun H locs hW _ _ hS => ?_)
  obtain ⟨u2, hu2, hf⟩ := mm_bind hf
  have jp1 : ∀ (H : Heap) (locs : List Loc) (ls : Array Slot), mm_W G.1 ec_cl (ec_cnt n) L (ec_E G L n) σ H → va_S (mm_A (ec_cnt n) L) s.heap H locs → lv_has ls 2 [] → W p l e rm_X_instance s m [.ref (L 0 0), .int a1].toArray below meth c H locs 0 0 (MQ below (va_Qi (fun r (_ : Unit) => r = out) (fun _ t => mm_pre G.1 ec_cl (ec_T G) (ec_cnt n) L (ec_E G L n) σ t) (mm_A (ec_cnt n) L)) [.ref (L 0 0), .int a1].toArray s 0 0 (mm_A (ec_cnt n) L)) (F0 m 21 ls [.int u2]) := by
    intro H locs ls hW hS hl
    obtain rfl := Option.some.inj hf
    exact W.iret (v := u2) hx hb hr (fun t ht hw => ⟨⟨_, (), rfl, rfl, (mm_back ht hw hW hK)⟩, hS.F ht⟩) hS.2.2 d_X_instance_21
  clear hf
  have hf := hu2
  clear hu2
  refine lv_if_eq (tgt := 20) hx hb d_X_instance_5 (by decide) (fun hc => ?_) (fun hc => ?_)
  · rw [if_pos hc] at hf
    refine lv_iconst (v := (-1 : Int32)) hx hb d_X_instance_20 (by decide) ?_
    obtain rfl := Option.some.inj hf
    exact jp1 _ _ _ hW hS (lv_sub hl [] rfl)
  · rw [if_neg hc] at hf
    refine lv_aload_n hx hb d_X_instance_8 rfl (lv_at hl 0 rfl) ?_
    refine va_get (D := G.1) (ci := 0) (C := "TwoPhaseCuts") (T := T_X) (N := 7) (v := .ref (L 1 0)) hx hb hts ui_X hown hK (hW.one (k := 0) (i := 0) (Nat.zero_lt_one)) 0 rfl rfl 1 (by decide) (hts _ tw_165) (fun _ h9 => h9) rfl d_X_instance_9 ?_
    refine lv_iload_n hx hb d_X_instance_12 rfl (lv_at hl 1 rfl) ?_
    obtain ⟨hg1, hf⟩ := mm_guard hf
    refine va_aldq (D := G.1) (cl := ec_cl) hx hb hK (hW.one (k := 1) (i := 0) (Nat.zero_lt_one)) 0 2 rfl rfl (mm_vp hg1) d_X_instance_13 ?_
    refine va_get (D := G.1) (ci := 1) (C := "TwoPhaseCuts$Member") (T := T_M) (N := 12) (v := .int (σ 6 (Int32.toNatClampNeg a1) 6)) hx hb hts ui_M hown hK (hW.one (k := 6) (i := (Int32.toNatClampNeg a1)) (mm_nat hg1)) 0 rfl rfl 6 (by decide) (hts _ tw_63) (fun _ h9 => h9) rfl d_X_instance_14 ?_
    refine lv_goto (tgt := 21) hx hb d_X_instance_17 (by decide) ?_
    obtain rfl := Option.some.inj hf
    exact jp1 _ _ _ hW hS (lv_sub hl [] rfl)
abbrev rm_X_decision : Room := { frames := 0, cells := 0, slots := 0, locals := 0 }
set_option maxHeartbeats 4000000 in
set_option maxRecDepth 100000 in
theorem c_X_decision (l : Launch) (G : ec_G) (L : mm_L) (F n : Nat) (hI : mm_I (ec_cnt n) L) (σ : mm_M) (a1 : Int32) {out : Int32} (hf : f_X_decision F n σ a1 = some out) :
    Met l y_X_decision (Cond.code y_X_decision b_X_decision 2 (some .int) :: tw_tbl) rm_X_decision (va_Pc [.ref (L 0 0), .int a1] (mm_pre G.1 ec_cl (ec_T G) (ec_cnt n) L (ec_E G L n) σ))
      (va_Qi (fun r (_ : Unit) => r = out) (fun _ t => mm_pre G.1 ec_cl (ec_T G) (ec_cnt n) L (ec_E G L n) σ t) (mm_A (ec_cnt n) L)) 0 0 (mm_A (ec_cnt n) L) := by
  refine Met.ofW (cc := b_X_decision) (maxL := 2) (ret := (some .int)) (by decide) rfl ?_
  intro p e s m args below meth c s₁ B hml hv
  obtain ⟨rfl, hW, hK⟩ := hv
  have hx := B.exec
  have hb := B.bytes
  have hr := B.returns
  have hts0 := atoms_spec (ws := Cond.code y_X_decision b_X_decision 2 (some .int) :: tw_tbl) B.pre
  have hts : ∀ w ∈ tw_tbl, w.before [.ref (L 0 0), .int a1].toArray s = true := fun w h => hts0 w (List.mem_cons_of_mem _ h)
  clear hts0
  have hown : s.vm.findClass "TwoPhaseCuts" = some m.cls := findClass_of_methodNamed B.named
  have hlocks := B.notSynchronized
  have hC : CallFix p m c b_X_decision 2 s [.ref (L 0 0), .int a1].toArray tw_tbl "TwoPhaseCuts" := ⟨hx, hb, hml, hown, hts⟩
  have hS : va_S (mm_A (ec_cnt n) L) s.heap s.heap [] := va_S.rf
  have hl := lv_entry ([.ref (L 0 0), .int a1]) (n := 2) (Nat.le_of_ble_eq_true rfl)
  rw [lg_entry_eq]
  generalize (lg_sl ([.ref (L 0 0), .int a1]) ++ List.replicate (2 - (lg_sl ([.ref (L 0 0), .int a1])).length) Slot.unset).toArray = ls at hl ⊢
  have hl : lv_has ls 2 [(0, .ref (L 0 0)), (1, .int a1)] := hl
  have hW : mm_W G.1 ec_cl (ec_cnt n) L (ec_E G L n) σ s.heap := hW
  clear B
  show W p l e rm_X_decision s m [.ref (L 0 0), .int a1].toArray below meth c s.heap [] 0 0 (MQ below (va_Qi (fun r (_ : Unit) => r = out) (fun _ t => mm_pre G.1 ec_cl (ec_T G) (ec_cnt n) L (ec_E G L n) σ t) (mm_A (ec_cnt n) L)) [.ref (L 0 0), .int a1].toArray s 0 0 (mm_A (ec_cnt n) L)) (F0 m 0 ls [])
  unfold f_X_decision at hf
  refine lv_iload_n hx hb d_X_decision_0 rfl (lv_at hl 1 rfl) ?_
  refine lv_iconst (v := (1 : Int32)) hx hb d_X_decision_1 (by decide) ?_
  obtain ⟨u1, hu1, hf⟩ := mm_bind hf
  have jp1 : ∀ (H : Heap) (locs : List Loc) (ls : Array Slot), mm_W G.1 ec_cl (ec_cnt n) L (ec_E G L n) σ H → va_S (mm_A (ec_cnt n) L) s.heap H locs → lv_has ls 2 [] → W p l e rm_X_decision s m [.ref (L 0 0), .int a1].toArray below meth c H locs 0 0 (MQ below (va_Qi (fun r (_ : Unit) => r = out) (fun _ t => mm_pre G.1 ec_cl (ec_T G) (ec_cnt n) L (ec_E G L n) σ t) (mm_A (ec_cnt n) L)) [.ref (L 0 0), .int a1].toArray s 0 0 (mm_A (ec_cnt n) L)) (F0 m 23 ls [.int u1]) := by
    intro H locs ls hW hS hl
    obtain rfl := Option.some.inj hf
    exact W.iret (v := u1) hx hb hr (fun t ht hw => ⟨⟨_, (), rfl, rfl, (mm_back ht hw hW hK)⟩, hS.F ht⟩) hS.2.2 d_X_decision_23
  clear hf
  have hf := hu1
  clear hu1
  refine lv_icmp_lt (tgt := 22) hx hb d_X_decision_2 (by decide) (fun hc => ?_) (fun hc => ?_)
  · rw [if_pos hc] at hf
    refine lv_iconst (v := (-1 : Int32)) hx hb d_X_decision_22 (by decide) ?_
    obtain rfl := Option.some.inj hf
    exact jp1 _ _ _ hW hS (lv_sub hl [] rfl)
  · rw [if_neg hc] at hf
    refine lv_iload_n hx hb d_X_decision_5 rfl (lv_at hl 1 rfl) ?_
    refine lv_aload_n hx hb d_X_decision_6 rfl (lv_at hl 0 rfl) ?_
    refine va_get (D := G.1) (ci := 0) (C := "TwoPhaseCuts") (T := T_X) (N := 7) (v := .int (σ 0 0 6)) hx hb hts ui_X hown hK (hW.one (k := 0) (i := 0) (Nat.zero_lt_one)) 0 rfl rfl 6 (by decide) (hts _ tw_170) (fun _ h9 => h9) rfl d_X_decision_7 ?_
    refine lv_icmp_gt (tgt := 22) hx hb d_X_decision_10 (by decide) (fun hc => ?_) (fun hc => ?_)
    · rw [if_pos hc] at hf
      refine lv_iconst (v := (-1 : Int32)) hx hb d_X_decision_22 (by decide) ?_
      obtain rfl := Option.some.inj hf
      exact jp1 _ _ _ hW hS (lv_sub hl [] rfl)
    · rw [if_neg hc] at hf
      refine lv_aload_n hx hb d_X_decision_13 rfl (lv_at hl 0 rfl) ?_
      refine va_get (D := G.1) (ci := 0) (C := "TwoPhaseCuts") (T := T_X) (N := 7) (v := .ref (L 5 0)) hx hb hts ui_X hown hK (hW.one (k := 0) (i := 0) (Nat.zero_lt_one)) 0 rfl rfl 5 (by decide) (hts _ tw_169) (fun _ h9 => h9) rfl d_X_decision_14 ?_
      refine lv_iload_n hx hb d_X_decision_17 rfl (lv_at hl 1 rfl) ?_
      obtain ⟨hg1, hf⟩ := mm_guard hf
      refine va_iald (D := G.1) (cl := ec_cl) hx hb hK (hW.one (k := 5) (i := 0) (Nat.zero_lt_one)) 0 0 rfl rfl (mm_vp hg1) d_X_decision_18 ?_
      refine mm_top (y := (σ 5 0 (Int32.toNatClampNeg a1))) rfl ?_
      refine lv_goto (tgt := 23) hx hb d_X_decision_19 (by decide) ?_
      obtain rfl := Option.some.inj hf
      exact jp1 _ _ _ hW hS (lv_sub hl [] rfl)
abbrev rm_X_notes : Room := { frames := 0, cells := 0, slots := 0, locals := 0 }
set_option maxHeartbeats 4000000 in
set_option maxRecDepth 100000 in
theorem c_X_notes (l : Launch) (G : ec_G) (L : mm_L) (F n : Nat) (hI : mm_I (ec_cnt n) L) (σ : mm_M) {out : Int32} (hf : f_X_notes F n σ = some out) :
    Met l y_X_notes (Cond.code y_X_notes b_X_notes 1 (some .int) :: tw_tbl) rm_X_notes (va_Pc [.ref (L 0 0)] (mm_pre G.1 ec_cl (ec_T G) (ec_cnt n) L (ec_E G L n) σ))
      (va_Qi (fun r (_ : Unit) => r = out) (fun _ t => mm_pre G.1 ec_cl (ec_T G) (ec_cnt n) L (ec_E G L n) σ t) (mm_A (ec_cnt n) L)) 0 0 (mm_A (ec_cnt n) L) := by
  refine Met.ofW (cc := b_X_notes) (maxL := 1) (ret := (some .int)) (by decide) rfl ?_
  intro p e s m args below meth c s₁ B hml hv
  obtain ⟨rfl, hW, hK⟩ := hv
  have hx := B.exec
  have hb := B.bytes
  have hr := B.returns
  have hts0 := atoms_spec (ws := Cond.code y_X_notes b_X_notes 1 (some .int) :: tw_tbl) B.pre
  have hts : ∀ w ∈ tw_tbl, w.before [.ref (L 0 0)].toArray s = true := fun w h => hts0 w (List.mem_cons_of_mem _ h)
  clear hts0
  have hown : s.vm.findClass "TwoPhaseCuts" = some m.cls := findClass_of_methodNamed B.named
  have hlocks := B.notSynchronized
  have hC : CallFix p m c b_X_notes 1 s [.ref (L 0 0)].toArray tw_tbl "TwoPhaseCuts" := ⟨hx, hb, hml, hown, hts⟩
  have hS : va_S (mm_A (ec_cnt n) L) s.heap s.heap [] := va_S.rf
  have hl := lv_entry ([.ref (L 0 0)]) (n := 1) (Nat.le_of_ble_eq_true rfl)
  rw [lg_entry_eq]
  generalize (lg_sl ([.ref (L 0 0)]) ++ List.replicate (1 - (lg_sl ([.ref (L 0 0)])).length) Slot.unset).toArray = ls at hl ⊢
  have hl : lv_has ls 1 [(0, .ref (L 0 0))] := hl
  have hW : mm_W G.1 ec_cl (ec_cnt n) L (ec_E G L n) σ s.heap := hW
  clear B
  show W p l e rm_X_notes s m [.ref (L 0 0)].toArray below meth c s.heap [] 0 0 (MQ below (va_Qi (fun r (_ : Unit) => r = out) (fun _ t => mm_pre G.1 ec_cl (ec_T G) (ec_cnt n) L (ec_E G L n) σ t) (mm_A (ec_cnt n) L)) [.ref (L 0 0)].toArray s 0 0 (mm_A (ec_cnt n) L)) (F0 m 0 ls [])
  unfold f_X_notes at hf
  refine lv_aload_n hx hb d_X_notes_0 rfl (lv_at hl 0 rfl) ?_
  refine va_get (D := G.1) (ci := 0) (C := "TwoPhaseCuts") (T := T_X) (N := 7) (v := .ref (L 3 0)) hx hb hts ui_X hown hK (hW.one (k := 0) (i := 0) (Nat.zero_lt_one)) 0 rfl rfl 3 (by decide) (hts _ tw_167) (fun _ h9 => h9) rfl d_X_notes_1 ?_
  refine va_get (D := G.1) (ci := 4) (C := "TwoPhaseCuts$NoteLine") (T := T_L) (N := 3) (v := .int (σ 3 0 2)) hx hb hts ui_L hown hK (hW.one (k := 3) (i := 0) (Nat.zero_lt_one)) 0 rfl rfl 2 (by decide) (hts _ tw_156) (fun _ h9 => h9) rfl d_X_notes_4 ?_
  obtain rfl := Option.some.inj hf
  exact W.iret (v := (σ 3 0 2)) hx hb hr (fun t ht hw => ⟨⟨_, (), rfl, rfl, (mm_back ht hw hW hK)⟩, hS.F ht⟩) hS.2.2 d_X_notes_7
abbrev rm_X_times : Room := { frames := 1, cells := 0, slots := 0, locals := 21 }
set_option maxHeartbeats 4000000 in
set_option maxRecDepth 100000 in
theorem c_X_times (l : Launch) (G : ec_G) (L : mm_L) (F n : Nat) (hI : mm_I (ec_cnt n) L) (σ : mm_M) (a1 : Int32) (a2 : Int32) {out : Int32} (hf : f_X_times F n σ a1 a2 = some out) :
    Met l y_X_times (Cond.code y_X_times b_X_times 3 (some .int) :: tw_tbl) rm_X_times (va_Pc [.ref (L 0 0), .int a1, .int a2] (mm_pre G.1 ec_cl (ec_T G) (ec_cnt n) L (ec_E G L n) σ))
      (va_Qi (fun r (_ : Unit) => r = out) (fun _ t => mm_pre G.1 ec_cl (ec_T G) (ec_cnt n) L (ec_E G L n) σ t) (mm_A (ec_cnt n) L)) 0 0 (mm_A (ec_cnt n) L) := by
  refine Met.ofW (cc := b_X_times) (maxL := 3) (ret := (some .int)) (by decide) rfl ?_
  intro p e s m args below meth c s₁ B hml hv
  obtain ⟨rfl, hW, hK⟩ := hv
  have hx := B.exec
  have hb := B.bytes
  have hr := B.returns
  have hts0 := atoms_spec (ws := Cond.code y_X_times b_X_times 3 (some .int) :: tw_tbl) B.pre
  have hts : ∀ w ∈ tw_tbl, w.before [.ref (L 0 0), .int a1, .int a2].toArray s = true := fun w h => hts0 w (List.mem_cons_of_mem _ h)
  clear hts0
  have hown : s.vm.findClass "TwoPhaseCuts" = some m.cls := findClass_of_methodNamed B.named
  have hlocks := B.notSynchronized
  have hC : CallFix p m c b_X_times 3 s [.ref (L 0 0), .int a1, .int a2].toArray tw_tbl "TwoPhaseCuts" := ⟨hx, hb, hml, hown, hts⟩
  have hS : va_S (mm_A (ec_cnt n) L) s.heap s.heap [] := va_S.rf
  have hl := lv_entry ([.ref (L 0 0), .int a1, .int a2]) (n := 3) (Nat.le_of_ble_eq_true rfl)
  rw [lg_entry_eq]
  generalize (lg_sl ([.ref (L 0 0), .int a1, .int a2]) ++ List.replicate (3 - (lg_sl ([.ref (L 0 0), .int a1, .int a2])).length) Slot.unset).toArray = ls at hl ⊢
  have hl : lv_has ls 3 [(0, .ref (L 0 0)), (1, .int a1), (2, .int a2)] := hl
  have hW : mm_W G.1 ec_cl (ec_cnt n) L (ec_E G L n) σ s.heap := hW
  clear B
  show W p l e rm_X_times s m [.ref (L 0 0), .int a1, .int a2].toArray below meth c s.heap [] 0 0 (MQ below (va_Qi (fun r (_ : Unit) => r = out) (fun _ t => mm_pre G.1 ec_cl (ec_T G) (ec_cnt n) L (ec_E G L n) σ t) (mm_A (ec_cnt n) L)) [.ref (L 0 0), .int a1, .int a2].toArray s 0 0 (mm_A (ec_cnt n) L)) (F0 m 0 ls [])
  unfold f_X_times at hf
  refine lv_aload_n hx hb d_X_times_0 rfl (lv_at hl 0 rfl) ?_
  refine lv_iload_n hx hb d_X_times_1 rfl (lv_at hl 1 rfl) ?_
  obtain ⟨u1, hu1, hf⟩ := mm_bind hf
  refine mm_calli (va_runV (As := [.int a1]) (rest := []) hC (c_X_isProcess l G L F n hI σ a1 hu1) (cwV 1 hts (tw_gV tw_190 tw_192 ts_0 tw_1 tw_193) rfl rfl rfl (by decide +kernel) ⟨Nat.le_of_ble_eq_true rfl, Nat.le_of_ble_eq_true rfl⟩) (mm_preV hK hW (k := 0) (i := 0) (Nat.zero_lt_one) rfl rfl) rfl rfl hl.1 rfl (lv_room (Nat.le_of_ble_eq_true rfl)) d_X_times_2 ⟨Nat.zero_le _, Nat.zero_le _⟩) hS (fun _ h => h) (fun H locs hW _ _ hS => ?_)
  refine lv_if_ne (tgt := 10) hx hb d_X_times_5 (by decide) (fun hc => ?_) (fun hc => ?_)
  · rw [if_neg hc] at hf
    refine lv_iload_n hx hb d_X_times_10 rfl (lv_at hl 2 rfl) ?_
    by_cases hk0 : a2 = (0 : Int32)
    · rw [if_pos hk0] at hf
      refine mm_top hk0 ?_
      refine lv_lookup (tgt := 36) hx hb d_X_times_11 (by decide) rfl (by decide) ?_
      refine lv_aload_n hx hb d_X_times_36 rfl (lv_at hl 0 rfl) ?_
      refine va_get (D := G.1) (ci := 0) (C := "TwoPhaseCuts") (T := T_X) (N := 7) (v := .ref (L 1 0)) hx hb hts ui_X hown hK (hW.one (k := 0) (i := 0) (Nat.zero_lt_one)) 0 rfl rfl 1 (by decide) (hts _ tw_165) (fun _ h9 => h9) rfl d_X_times_37 ?_
      refine lv_iload_n hx hb d_X_times_40 rfl (lv_at hl 1 rfl) ?_
      obtain ⟨hg1, hf⟩ := mm_guard hf
      refine va_aldq (D := G.1) (cl := ec_cl) hx hb hK (hW.one (k := 1) (i := 0) (Nat.zero_lt_one)) 0 2 rfl rfl (mm_vp hg1) d_X_times_41 ?_
      refine va_get (D := G.1) (ci := 1) (C := "TwoPhaseCuts$Member") (T := T_M) (N := 12) (v := .int (σ 6 (Int32.toNatClampNeg a1) 4)) hx hb hts ui_M hown hK (hW.one (k := 6) (i := (Int32.toNatClampNeg a1)) (mm_nat hg1)) 0 rfl rfl 4 (by decide) (hts _ tw_60) (fun _ h9 => h9) rfl d_X_times_42 ?_
      obtain rfl := Option.some.inj hf
      exact W.iret (v := (σ 6 (Int32.toNatClampNeg a1) 4)) hx hb hr (fun t ht hw => ⟨⟨_, (), rfl, rfl, (mm_back ht hw hW hK)⟩, hS.F ht⟩) hS.2.2 d_X_times_45
    · rw [if_neg hk0] at hf
      by_cases hk1 : a2 = (1 : Int32)
      · rw [if_pos hk1] at hf
        refine mm_top hk1 ?_
        refine lv_lookup (tgt := 46) hx hb d_X_times_11 (by decide) rfl (by decide) ?_
        refine lv_aload_n hx hb d_X_times_46 rfl (lv_at hl 0 rfl) ?_
        refine va_get (D := G.1) (ci := 0) (C := "TwoPhaseCuts") (T := T_X) (N := 7) (v := .ref (L 1 0)) hx hb hts ui_X hown hK (hW.one (k := 0) (i := 0) (Nat.zero_lt_one)) 0 rfl rfl 1 (by decide) (hts _ tw_165) (fun _ h9 => h9) rfl d_X_times_47 ?_
        refine lv_iload_n hx hb d_X_times_50 rfl (lv_at hl 1 rfl) ?_
        obtain ⟨hg2, hf⟩ := mm_guard hf
        refine va_aldq (D := G.1) (cl := ec_cl) hx hb hK (hW.one (k := 1) (i := 0) (Nat.zero_lt_one)) 0 2 rfl rfl (mm_vp hg2) d_X_times_51 ?_
        refine va_get (D := G.1) (ci := 1) (C := "TwoPhaseCuts$Member") (T := T_M) (N := 12) (v := .int (σ 6 (Int32.toNatClampNeg a1) 5)) hx hb hts ui_M hown hK (hW.one (k := 6) (i := (Int32.toNatClampNeg a1)) (mm_nat hg2)) 0 rfl rfl 5 (by decide) (hts _ tw_61) (fun _ h9 => h9) rfl d_X_times_52 ?_
        obtain rfl := Option.some.inj hf
        exact W.iret (v := (σ 6 (Int32.toNatClampNeg a1) 5)) hx hb hr (fun t ht hw => ⟨⟨_, (), rfl, rfl, (mm_back ht hw hW hK)⟩, hS.F ht⟩) hS.2.2 d_X_times_55
      · rw [if_neg hk1] at hf
        refine lv_lookup (tgt := 56) hx hb d_X_times_11 (by decide) (mm_lk2 hk0 hk1) (by decide) ?_
        refine lv_iconst (v := (-1 : Int32)) hx hb d_X_times_56 (by decide) ?_
        obtain rfl := Option.some.inj hf
        exact W.iret (v := (-1 : Int32)) hx hb hr (fun t ht hw => ⟨⟨_, (), rfl, rfl, (mm_back ht hw hW hK)⟩, hS.F ht⟩) hS.2.2 d_X_times_57
  · rw [if_pos hc] at hf
    refine lv_iconst (v := (-1 : Int32)) hx hb d_X_times_8 (by decide) ?_
    obtain rfl := Option.some.inj hf
    exact W.iret (v := (-1 : Int32)) hx hb hr (fun t ht hw => ⟨⟨_, (), rfl, rfl, (mm_back ht hw hW hK)⟩, hS.F ht⟩) hS.2.2 d_X_times_9
