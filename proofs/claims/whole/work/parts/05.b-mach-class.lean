abbrev rm_X_isProcess : Room := { frames := 0, cells := 0, slots := 0, locals := 0 }
set_option maxHeartbeats 4000000 in
set_option maxRecDepth 100000 in
theorem c_X_isProcess (l : Launch) (G : ec_G) (L : mm_L) (F n : Nat) (hI : mm_I (ec_cnt n) L) (σ : mm_M) (a1 : Int32) {out : Int32} (hf : f_X_isProcess F n σ a1 = some out) :
    Met l y_X_isProcess (Cond.code y_X_isProcess b_X_isProcess 2 (some .boolean) :: tw_tbl) rm_X_isProcess (va_Pc [.ref (L 0 0), .int a1] (mm_pre G.1 ec_cl (ec_T G) (ec_cnt n) L (ec_E G L n) σ))
      (va_Qi (fun r (_ : Unit) => r = out) (fun _ t => mm_pre G.1 ec_cl (ec_T G) (ec_cnt n) L (ec_E G L n) σ t) (mm_A (ec_cnt n) L)) 0 0 (mm_A (ec_cnt n) L) := by
  refine Met.ofW (cc := b_X_isProcess) (maxL := 2) (ret := (some .boolean)) (by decide) rfl ?_
  intro p e s m args below meth c s₁ B hml hv
  obtain ⟨rfl, hW, hK⟩ := hv
  have hx := B.exec
  have hb := B.bytes
  have hr := B.returns
  have hts0 := atoms_spec (ws := Cond.code y_X_isProcess b_X_isProcess 2 (some .boolean) :: tw_tbl) B.pre
  have hts : ∀ w ∈ tw_tbl, w.before [.ref (L 0 0), .int a1].toArray s = true := fun w h => hts0 w (List.mem_cons_of_mem _ h)
  clear hts0
  have hown : s.vm.findClass "TwoPhaseCuts" = some m.cls := findClass_of_methodNamed B.named
  have hlocks := B.notSynchronized
  have hC : CallFix p m c b_X_isProcess 2 s [.ref (L 0 0), .int a1].toArray tw_tbl "TwoPhaseCuts" := ⟨hx, hb, hml, hown, hts⟩
  have hS : va_S (mm_A (ec_cnt n) L) s.heap s.heap [] := va_S.rf
  have hl := lv_entry ([.ref (L 0 0), .int a1]) (n := 2) (Nat.le_of_ble_eq_true rfl)
  rw [lg_entry_eq]
  generalize (lg_sl ([.ref (L 0 0), .int a1]) ++ List.replicate (2 - (lg_sl ([.ref (L 0 0), .int a1])).length) Slot.unset).toArray = ls at hl ⊢
  have hl : lv_has ls 2 [(0, .ref (L 0 0)), (1, .int a1)] := hl
  have hW : mm_W G.1 ec_cl (ec_cnt n) L (ec_E G L n) σ s.heap := hW
  clear B
  show W p l e rm_X_isProcess s m [.ref (L 0 0), .int a1].toArray below meth c s.heap [] 0 0 (MQ below (va_Qi (fun r (_ : Unit) => r = out) (fun _ t => mm_pre G.1 ec_cl (ec_T G) (ec_cnt n) L (ec_E G L n) σ t) (mm_A (ec_cnt n) L)) [.ref (L 0 0), .int a1].toArray s 0 0 (mm_A (ec_cnt n) L)) (F0 m 0 ls [])
  unfold f_X_isProcess at hf
  refine lv_iload_n hx hb d_X_isProcess_0 rfl (lv_at hl 1 rfl) ?_
  obtain ⟨u1, hu1, hf⟩ := mm_bind hf
  have jp1 : ∀ (H : Heap) (locs : List Loc) (ls : Array Slot), mm_W G.1 ec_cl (ec_cnt n) L (ec_E G L n) σ H → va_S (mm_A (ec_cnt n) L) s.heap H locs → lv_has ls 2 [] → W p l e rm_X_isProcess s m [.ref (L 0 0), .int a1].toArray below meth c H locs 0 0 (MQ below (va_Qi (fun r (_ : Unit) => r = out) (fun _ t => mm_pre G.1 ec_cl (ec_T G) (ec_cnt n) L (ec_E G L n) σ t) (mm_A (ec_cnt n) L)) [.ref (L 0 0), .int a1].toArray s 0 0 (mm_A (ec_cnt n) L)) (F0 m 17 ls [.int u1]) := by
    intro H locs ls hW hS hl
    obtain ⟨hz1, hf⟩ := mm_guard hf
    obtain rfl := Option.some.inj hf
    exact W.zret (v := u1) hx hb hr (mm_zn hz1) (fun t ht hw => ⟨⟨_, (), rfl, rfl, (mm_back ht hw hW hK)⟩, hS.F ht⟩) hS.2.2 d_X_isProcess_17
  clear hf
  have hf := hu1
  clear hu1
  refine lv_if_lt (tgt := 16) hx hb d_X_isProcess_1 (by decide) (fun hc => ?_) (fun hc => ?_)
  · rw [if_pos hc] at hf
    refine lv_iconst (v := (0 : Int32)) hx hb d_X_isProcess_16 (by decide) ?_
    obtain rfl := Option.some.inj hf
    exact jp1 _ _ _ hW hS (lv_sub hl [] rfl)
  · rw [if_neg hc] at hf
    refine lv_iload_n hx hb d_X_isProcess_4 rfl (lv_at hl 1 rfl) ?_
    refine lv_aload_n hx hb d_X_isProcess_5 rfl (lv_at hl 0 rfl) ?_
    refine va_get (D := G.1) (ci := 0) (C := "TwoPhaseCuts") (T := T_X) (N := 7) (v := .int (σ 0 0 0)) hx hb hts ui_X hown hK (hW.one (k := 0) (i := 0) (Nat.zero_lt_one)) 0 rfl rfl 0 (by decide) (hts _ tw_164) (fun _ h9 => h9) rfl d_X_isProcess_6 ?_
    refine lv_icmp_ge (tgt := 16) hx hb d_X_isProcess_9 (by decide) (fun hc => ?_) (fun hc => ?_)
    · rw [if_pos hc] at hf
      refine lv_iconst (v := (0 : Int32)) hx hb d_X_isProcess_16 (by decide) ?_
      obtain rfl := Option.some.inj hf
      exact jp1 _ _ _ hW hS (lv_sub hl [] rfl)
    · rw [if_neg hc] at hf
      refine lv_iconst (v := (1 : Int32)) hx hb d_X_isProcess_12 (by decide) ?_
      refine lv_goto (tgt := 17) hx hb d_X_isProcess_13 (by decide) ?_
      obtain rfl := Option.some.inj hf
      exact jp1 _ _ _ hW hS (lv_sub hl [] rfl)
abbrev rm_X_work : Room := { frames := 2, cells := 0, slots := 0, locals := 40 }
set_option maxHeartbeats 4000000 in
set_option maxRecDepth 100000 in
theorem c_X_work (l : Launch) (G : ec_G) (L : mm_L) (F n : Nat) (hI : mm_I (ec_cnt n) L) (σ : mm_M) (a1 : Int32) (a2 : Int32) {out : Int32 × mm_M} (hf : f_X_work F n σ a1 a2 = some out) :
    Met l y_X_work (Cond.code y_X_work b_X_work 4 (some .int) :: tw_tbl) rm_X_work (va_Pc [.ref (L 0 0), .int a1, .int a2] (mm_pre G.1 ec_cl (ec_T G) (ec_cnt n) L (ec_E G L n) σ))
      (va_Qi (fun r (_ : Unit) => r = out.1) (fun _ t => mm_pre G.1 ec_cl (ec_T G) (ec_cnt n) L (ec_E G L n) out.2 t) (mm_A (ec_cnt n) L)) 0 0 (mm_A (ec_cnt n) L) := by
  refine Met.ofW (cc := b_X_work) (maxL := 4) (ret := (some .int)) (by decide) rfl ?_
  intro p e s m args below meth c s₁ B hml hv
  obtain ⟨rfl, hW, hK⟩ := hv
  have hx := B.exec
  have hb := B.bytes
  have hr := B.returns
  have hts0 := atoms_spec (ws := Cond.code y_X_work b_X_work 4 (some .int) :: tw_tbl) B.pre
  have hts : ∀ w ∈ tw_tbl, w.before [.ref (L 0 0), .int a1, .int a2].toArray s = true := fun w h => hts0 w (List.mem_cons_of_mem _ h)
  clear hts0
  have hown : s.vm.findClass "TwoPhaseCuts" = some m.cls := findClass_of_methodNamed B.named
  have hlocks := B.notSynchronized
  have hC : CallFix p m c b_X_work 4 s [.ref (L 0 0), .int a1, .int a2].toArray tw_tbl "TwoPhaseCuts" := ⟨hx, hb, hml, hown, hts⟩
  have hS : va_S (mm_A (ec_cnt n) L) s.heap s.heap [] := va_S.rf
  have hl := lv_entry ([.ref (L 0 0), .int a1, .int a2]) (n := 4) (Nat.le_of_ble_eq_true rfl)
  rw [lg_entry_eq]
  generalize (lg_sl ([.ref (L 0 0), .int a1, .int a2]) ++ List.replicate (4 - (lg_sl ([.ref (L 0 0), .int a1, .int a2])).length) Slot.unset).toArray = ls at hl ⊢
  have hl : lv_has ls 4 [(0, .ref (L 0 0)), (1, .int a1), (2, .int a2)] := hl
  have hW : mm_W G.1 ec_cl (ec_cnt n) L (ec_E G L n) σ s.heap := hW
  clear B
  show W p l e rm_X_work s m [.ref (L 0 0), .int a1, .int a2].toArray below meth c s.heap [] 0 0 (MQ below (va_Qi (fun r (_ : Unit) => r = out.1) (fun _ t => mm_pre G.1 ec_cl (ec_T G) (ec_cnt n) L (ec_E G L n) out.2 t) (mm_A (ec_cnt n) L)) [.ref (L 0 0), .int a1, .int a2].toArray s 0 0 (mm_A (ec_cnt n) L)) (F0 m 0 ls [])
  unfold f_X_work at hf
  refine lv_aload_n hx hb d_X_work_0 rfl (lv_at hl 0 rfl) ?_
  refine lv_iload_n hx hb d_X_work_1 rfl (lv_at hl 1 rfl) ?_
  obtain ⟨u1, hu1, hf⟩ := mm_bind hf
  refine mm_calli (va_runV (As := [.int a1]) (rest := []) hC (c_X_isProcess l G L F n hI σ a1 hu1) (cwV 1 hts (tw_gV tw_190 tw_192 ts_0 tw_1 tw_193) rfl rfl rfl (by decide +kernel) ⟨Nat.le_of_ble_eq_true rfl, Nat.le_of_ble_eq_true rfl⟩) (mm_preV hK hW (k := 0) (i := 0) (Nat.zero_lt_one) rfl rfl) rfl rfl hl.1 rfl (lv_room (Nat.le_of_ble_eq_true rfl)) d_X_work_2 ⟨Nat.zero_le _, Nat.zero_le _⟩) hS (fun _ h => h) (fun H locs hW _ _ hS => ?_)
  refine lv_if_ne (tgt := 10) hx hb d_X_work_5 (by decide) (fun hc => ?_) (fun hc => ?_)
  · rw [if_neg hc] at hf
    refine lv_aload_n hx hb d_X_work_10 rfl (lv_at hl 0 rfl) ?_
    refine va_get (D := G.1) (ci := 0) (C := "TwoPhaseCuts") (T := T_X) (N := 7) (v := .ref (L 1 0)) hx hb hts ui_X hown hK (hW.one (k := 0) (i := 0) (Nat.zero_lt_one)) 0 rfl rfl 1 (by decide) (hts _ tw_165) (fun _ h9 => h9) rfl d_X_work_11 ?_
    refine lv_iload_n hx hb d_X_work_14 rfl (lv_at hl 1 rfl) ?_
    obtain ⟨hg1, hf⟩ := mm_guard hf
    refine va_aldq (D := G.1) (cl := ec_cl) hx hb hK (hW.one (k := 1) (i := 0) (Nat.zero_lt_one)) 0 2 rfl rfl (mm_vp hg1) d_X_work_15 ?_
    refine lv_astore_n (lv' := [(3, .ref (L 6 (Int32.toNatClampNeg a1))), (0, .ref (L 0 0)), (1, .int a1), (2, .int a2)]) hx hb d_X_work_16 rfl hl (by decide) rfl (fun ls hl => ?_)
    refine lv_aload_n hx hb d_X_work_17 rfl (lv_at hl 0 rfl) ?_
    refine va_get (D := G.1) (ci := 1) (C := "TwoPhaseCuts$Member") (T := T_M) (N := 12) (v := .int (σ 6 (Int32.toNatClampNeg a1) 3)) hx hb hts ui_M hown hK (hW.one (k := 6) (i := (Int32.toNatClampNeg a1)) (mm_nat hg1)) 0 rfl rfl 3 (by decide) (hts _ tw_58) (fun _ h9 => h9) rfl d_X_work_18 ?_
    refine lv_if_eq (tgt := 27) hx hb d_X_work_21 (by decide) (fun hc => ?_) (fun hc => ?_)
    · rw [if_pos hc] at hf
      refine lv_aload_n hx hb d_X_work_27 rfl (lv_at hl 0 rfl) ?_
      obtain ⟨u2, hu2, hf⟩ := mm_bind hf
      refine mm_calli (va_runV (As := []) (rest := []) hC (c_M_isInRollback l G L F n hI σ (Int32.toNatClampNeg a1) (mm_nat hg1) hu2) (cwV 0 hts (tw_gV tw_194 tw_195 tw_196 tw_3 tw_197) rfl rfl rfl (by decide +kernel) ⟨Nat.le_of_ble_eq_true rfl, Nat.le_of_ble_eq_true rfl⟩) (mm_preV hK hW (k := 6) (i := (Int32.toNatClampNeg a1)) (mm_nat hg1) rfl rfl) rfl rfl hl.1 rfl (lv_room (Nat.le_of_ble_eq_true rfl)) d_X_work_28 ⟨Nat.zero_le _, Nat.zero_le _⟩) hS (fun _ h => h) (fun H locs hW _ _ hS => ?_)
      refine lv_if_eq (tgt := 37) hx hb d_X_work_31 (by decide) (fun hc => ?_) (fun hc => ?_)
      · rw [if_pos hc] at hf
        refine lv_aload_n hx hb d_X_work_37 rfl (lv_at hl 0 rfl) ?_
        refine va_get (D := G.1) (ci := 1) (C := "TwoPhaseCuts$Member") (T := T_M) (N := 12) (v := .ref (L 7 (3 * (Int32.toNatClampNeg a1)))) hx hb hts ui_M hown hK (hW.one (k := 6) (i := (Int32.toNatClampNeg a1)) (mm_nat hg1)) 0 rfl rfl 0 (by decide) (hts _ tw_53) (fun _ h9 => h9) rfl d_X_work_38 ?_
        refine lv_bipush (v := (31 : Int32)) hx hb d_X_work_41 (by decide) ?_
        refine lv_aload_n hx hb d_X_work_43 rfl (lv_at hl 0 rfl) ?_
        refine va_get (D := G.1) (ci := 1) (C := "TwoPhaseCuts$Member") (T := T_M) (N := 12) (v := .ref (L 7 (3 * (Int32.toNatClampNeg a1)))) hx hb hts ui_M hown hK (hW.one (k := 6) (i := (Int32.toNatClampNeg a1)) (mm_nat hg1)) 0 rfl rfl 0 (by decide) (hts _ tw_53) (fun _ h9 => h9) rfl d_X_work_44 ?_
        refine va_get (D := G.1) (ci := 2) (C := "TwoPhaseCuts$State") (T := T_S) (N := 3) (v := .int (σ 7 (3 * (Int32.toNatClampNeg a1)) 0)) hx hb hts ui_S hown hK (hW.one (k := 7) (i := (3 * (Int32.toNatClampNeg a1))) (ec_h0 (mm_nat hg1))) 0 rfl rfl 0 (by decide) (hts _ tw_37) (fun _ h9 => h9) rfl d_X_work_47 ?_
        refine lv_imul hx hb d_X_work_50 ?_
        refine lv_iload_n hx hb d_X_work_51 rfl (lv_at hl 3 rfl) ?_
        refine lv_iadd hx hb d_X_work_52 ?_
        refine mm_put (D := G.1) (ci := 2) (C := "TwoPhaseCuts$State") (T := T_S) (N := 3) (x := (((31 : Int32) * (σ 7 (3 * (Int32.toNatClampNeg a1)) 0)) + a2)) hx hb hts ui_S ty_S tyo_S nmo_S hown hK hI hW hS (k := 7) (i := (3 * (Int32.toNatClampNeg a1))) (ec_h0 (mm_nat hg1)) rfl rfl 0 (by decide) (hts _ tw_37) (fun _ h9 => h9) rfl (ty := .int) (by decide +kernel) (vp_nar_int _) rfl (Nat.le_of_ble_eq_true rfl) rfl d_X_work_53 (fun H locs hW hS => ?_)
        refine lv_iconst (v := (0 : Int32)) hx hb d_X_work_56 (by decide) ?_
        obtain rfl := Option.some.inj hf
        exact W.iret (v := (0 : Int32)) hx hb hr (fun t ht hw => ⟨⟨_, (), rfl, rfl, (mm_back ht hw hW hK)⟩, hS.F ht⟩) hS.2.2 d_X_work_57
      · rw [if_neg hc] at hf
        refine lv_bipush (v := (-3 : Int32)) hx hb d_X_work_34 (by decide) ?_
        obtain rfl := Option.some.inj hf
        exact W.iret (v := (-3 : Int32)) hx hb hr (fun t ht hw => ⟨⟨_, (), rfl, rfl, (mm_back ht hw hW hK)⟩, hS.F ht⟩) hS.2.2 d_X_work_36
    · rw [if_neg hc] at hf
      refine lv_bipush (v := (-2 : Int32)) hx hb d_X_work_24 (by decide) ?_
      obtain rfl := Option.some.inj hf
      exact W.iret (v := (-2 : Int32)) hx hb hr (fun t ht hw => ⟨⟨_, (), rfl, rfl, (mm_back ht hw hW hK)⟩, hS.F ht⟩) hS.2.2 d_X_work_26
  · rw [if_pos hc] at hf
    refine lv_iconst (v := (-1 : Int32)) hx hb d_X_work_8 (by decide) ?_
    obtain rfl := Option.some.inj hf
    exact W.iret (v := (-1 : Int32)) hx hb hr (fun t ht hw => ⟨⟨_, (), rfl, rfl, (mm_back ht hw hW hK)⟩, hS.F ht⟩) hS.2.2 d_X_work_9
abbrev rm_X_isChannel : Room := { frames := 1, cells := 0, slots := 0, locals := 21 }
set_option maxHeartbeats 4000000 in
set_option maxRecDepth 100000 in
theorem c_X_isChannel (l : Launch) (G : ec_G) (L : mm_L) (F n : Nat) (hI : mm_I (ec_cnt n) L) (σ : mm_M) (a1 : Int32) (a2 : Int32) {out : Int32} (hf : f_X_isChannel F n σ a1 a2 = some out) :
    Met l y_X_isChannel (Cond.code y_X_isChannel b_X_isChannel 3 (some .boolean) :: tw_tbl) rm_X_isChannel (va_Pc [.ref (L 0 0), .int a1, .int a2] (mm_pre G.1 ec_cl (ec_T G) (ec_cnt n) L (ec_E G L n) σ))
      (va_Qi (fun r (_ : Unit) => r = out) (fun _ t => mm_pre G.1 ec_cl (ec_T G) (ec_cnt n) L (ec_E G L n) σ t) (mm_A (ec_cnt n) L)) 0 0 (mm_A (ec_cnt n) L) := by
  refine Met.ofW (cc := b_X_isChannel) (maxL := 3) (ret := (some .boolean)) (by decide) rfl ?_
  intro p e s m args below meth c s₁ B hml hv
  obtain ⟨rfl, hW, hK⟩ := hv
  have hx := B.exec
  have hb := B.bytes
  have hr := B.returns
  have hts0 := atoms_spec (ws := Cond.code y_X_isChannel b_X_isChannel 3 (some .boolean) :: tw_tbl) B.pre
  have hts : ∀ w ∈ tw_tbl, w.before [.ref (L 0 0), .int a1, .int a2].toArray s = true := fun w h => hts0 w (List.mem_cons_of_mem _ h)
  clear hts0
  have hown : s.vm.findClass "TwoPhaseCuts" = some m.cls := findClass_of_methodNamed B.named
  have hlocks := B.notSynchronized
  have hC : CallFix p m c b_X_isChannel 3 s [.ref (L 0 0), .int a1, .int a2].toArray tw_tbl "TwoPhaseCuts" := ⟨hx, hb, hml, hown, hts⟩
  have hS : va_S (mm_A (ec_cnt n) L) s.heap s.heap [] := va_S.rf
  have hl := lv_entry ([.ref (L 0 0), .int a1, .int a2]) (n := 3) (Nat.le_of_ble_eq_true rfl)
  rw [lg_entry_eq]
  generalize (lg_sl ([.ref (L 0 0), .int a1, .int a2]) ++ List.replicate (3 - (lg_sl ([.ref (L 0 0), .int a1, .int a2])).length) Slot.unset).toArray = ls at hl ⊢
  have hl : lv_has ls 3 [(0, .ref (L 0 0)), (1, .int a1), (2, .int a2)] := hl
  have hW : mm_W G.1 ec_cl (ec_cnt n) L (ec_E G L n) σ s.heap := hW
  clear B
  show W p l e rm_X_isChannel s m [.ref (L 0 0), .int a1, .int a2].toArray below meth c s.heap [] 0 0 (MQ below (va_Qi (fun r (_ : Unit) => r = out) (fun _ t => mm_pre G.1 ec_cl (ec_T G) (ec_cnt n) L (ec_E G L n) σ t) (mm_A (ec_cnt n) L)) [.ref (L 0 0), .int a1, .int a2].toArray s 0 0 (mm_A (ec_cnt n) L)) (F0 m 0 ls [])
  unfold f_X_isChannel at hf
  refine lv_aload_n hx hb d_X_isChannel_0 rfl (lv_at hl 0 rfl) ?_
  refine lv_iload_n hx hb d_X_isChannel_1 rfl (lv_at hl 1 rfl) ?_
  obtain ⟨u1, hu1, hf⟩ := mm_bind hf
  refine mm_calli (va_runV (As := [.int a1]) (rest := []) hC (c_X_isProcess l G L F n hI σ a1 hu1) (cwV 1 hts (tw_gV tw_190 tw_192 ts_0 tw_1 tw_193) rfl rfl rfl (by decide +kernel) ⟨Nat.le_of_ble_eq_true rfl, Nat.le_of_ble_eq_true rfl⟩) (mm_preV hK hW (k := 0) (i := 0) (Nat.zero_lt_one) rfl rfl) rfl rfl hl.1 rfl (lv_room (Nat.le_of_ble_eq_true rfl)) d_X_isChannel_2 ⟨Nat.zero_le _, Nat.zero_le _⟩) hS (fun _ h => h) (fun H locs hW _ _ hS => ?_)
  obtain ⟨u2, hu2, hf⟩ := mm_bind hf
  have jp1 : ∀ (H : Heap) (locs : List Loc) (ls : Array Slot), mm_W G.1 ec_cl (ec_cnt n) L (ec_E G L n) σ H → va_S (mm_A (ec_cnt n) L) s.heap H locs → lv_has ls 3 [] → W p l e rm_X_isChannel s m [.ref (L 0 0), .int a1, .int a2].toArray below meth c H locs 0 0 (MQ below (va_Qi (fun r (_ : Unit) => r = out) (fun _ t => mm_pre G.1 ec_cl (ec_T G) (ec_cnt n) L (ec_E G L n) σ t) (mm_A (ec_cnt n) L)) [.ref (L 0 0), .int a1, .int a2].toArray s 0 0 (mm_A (ec_cnt n) L)) (F0 m 26 ls [.int u2]) := by
    intro H locs ls hW hS hl
    obtain ⟨hz1, hf⟩ := mm_guard hf
    obtain rfl := Option.some.inj hf
    exact W.zret (v := u2) hx hb hr (mm_zn hz1) (fun t ht hw => ⟨⟨_, (), rfl, rfl, (mm_back ht hw hW hK)⟩, hS.F ht⟩) hS.2.2 d_X_isChannel_26
  clear hf
  have hf := hu2
  clear hu2
  refine lv_if_eq (tgt := 25) hx hb d_X_isChannel_5 (by decide) (fun hc => ?_) (fun hc => ?_)
  · rw [if_pos hc] at hf
    refine lv_iconst (v := (0 : Int32)) hx hb d_X_isChannel_25 (by decide) ?_
    obtain rfl := Option.some.inj hf
    exact jp1 _ _ _ hW hS (lv_sub hl [] rfl)
  · rw [if_neg hc] at hf
    refine lv_aload_n hx hb d_X_isChannel_8 rfl (lv_at hl 0 rfl) ?_
    refine lv_iload_n hx hb d_X_isChannel_9 rfl (lv_at hl 2 rfl) ?_
    obtain ⟨u3, hu3, hf⟩ := mm_bind hf
    refine mm_calli (va_runV (As := [.int a2]) (rest := []) hC (c_X_isProcess l G L F n hI σ a2 hu3) (cwV 1 hts (tw_gV tw_190 tw_192 ts_0 tw_1 tw_193) rfl rfl rfl (by decide +kernel) ⟨Nat.le_of_ble_eq_true rfl, Nat.le_of_ble_eq_true rfl⟩) (mm_preV hK hW (k := 0) (i := 0) (Nat.zero_lt_one) rfl rfl) rfl rfl hl.1 rfl (lv_room (Nat.le_of_ble_eq_true rfl)) d_X_isChannel_10 ⟨Nat.zero_le _, Nat.zero_le _⟩) hS (fun _ h => h) (fun H locs hW _ _ hS => ?_)
    refine lv_if_eq (tgt := 25) hx hb d_X_isChannel_13 (by decide) (fun hc => ?_) (fun hc => ?_)
    · rw [if_pos hc] at hf
      refine lv_iconst (v := (0 : Int32)) hx hb d_X_isChannel_25 (by decide) ?_
      obtain rfl := Option.some.inj hf
      exact jp1 _ _ _ hW hS (lv_sub hl [] rfl)
    · rw [if_neg hc] at hf
      refine lv_iload_n hx hb d_X_isChannel_16 rfl (lv_at hl 1 rfl) ?_
      refine lv_iload_n hx hb d_X_isChannel_17 rfl (lv_at hl 2 rfl) ?_
      refine lv_icmp_eq (tgt := 25) hx hb d_X_isChannel_18 (by decide) (fun hc => ?_) (fun hc => ?_)
      · rw [if_pos hc] at hf
        refine lv_iconst (v := (0 : Int32)) hx hb d_X_isChannel_25 (by decide) ?_
        obtain rfl := Option.some.inj hf
        exact jp1 _ _ _ hW hS (lv_sub hl [] rfl)
      · rw [if_neg hc] at hf
        refine lv_iconst (v := (1 : Int32)) hx hb d_X_isChannel_21 (by decide) ?_
        refine lv_goto (tgt := 26) hx hb d_X_isChannel_22 (by decide) ?_
        obtain rfl := Option.some.inj hf
        exact jp1 _ _ _ hW hS (lv_sub hl [] rfl)
abbrev rm_X_channelOf : Room := { frames := 0, cells := 0, slots := 0, locals := 0 }
set_option maxHeartbeats 4000000 in
set_option maxRecDepth 100000 in
theorem c_X_channelOf (l : Launch) (G : ec_G) (L : mm_L) (F n : Nat) (hI : mm_I (ec_cnt n) L) (σ : mm_M) (a1 : Int32) (a2 : Int32) {out : Nat} (hf : f_X_channelOf F n σ a1 a2 = some out) :
    Met l y_X_channelOf (Cond.code y_X_channelOf b_X_channelOf 3 (some (.object "TwoPhaseCuts$Channel")) :: tw_tbl) rm_X_channelOf (va_Pc [.ref (L 0 0), .int a1, .int a2] (mm_pre G.1 ec_cl (ec_T G) (ec_cnt n) L (ec_E G L n) σ))
      (va_Qr (fun (_ : Unit) => True) (fun _ ra t => ra = L 11 out ∧ out < ec_cnt n 11 ∧ mm_pre G.1 ec_cl (ec_T G) (ec_cnt n) L (ec_E G L n) σ t) (mm_A (ec_cnt n) L)) 0 0 (mm_A (ec_cnt n) L) := by
  refine Met.ofW (cc := b_X_channelOf) (maxL := 3) (ret := (some (.object "TwoPhaseCuts$Channel"))) (by decide) rfl ?_
  intro p e s m args below meth c s₁ B hml hv
  obtain ⟨rfl, hW, hK⟩ := hv
  have hx := B.exec
  have hb := B.bytes
  have hr := B.returns
  have hts0 := atoms_spec (ws := Cond.code y_X_channelOf b_X_channelOf 3 (some (.object "TwoPhaseCuts$Channel")) :: tw_tbl) B.pre
  have hts : ∀ w ∈ tw_tbl, w.before [.ref (L 0 0), .int a1, .int a2].toArray s = true := fun w h => hts0 w (List.mem_cons_of_mem _ h)
  clear hts0
  have hown : s.vm.findClass "TwoPhaseCuts" = some m.cls := findClass_of_methodNamed B.named
  have hlocks := B.notSynchronized
  have hC : CallFix p m c b_X_channelOf 3 s [.ref (L 0 0), .int a1, .int a2].toArray tw_tbl "TwoPhaseCuts" := ⟨hx, hb, hml, hown, hts⟩
  have hS : va_S (mm_A (ec_cnt n) L) s.heap s.heap [] := va_S.rf
  have hl := lv_entry ([.ref (L 0 0), .int a1, .int a2]) (n := 3) (Nat.le_of_ble_eq_true rfl)
  rw [lg_entry_eq]
  generalize (lg_sl ([.ref (L 0 0), .int a1, .int a2]) ++ List.replicate (3 - (lg_sl ([.ref (L 0 0), .int a1, .int a2])).length) Slot.unset).toArray = ls at hl ⊢
  have hl : lv_has ls 3 [(0, .ref (L 0 0)), (1, .int a1), (2, .int a2)] := hl
  have hW : mm_W G.1 ec_cl (ec_cnt n) L (ec_E G L n) σ s.heap := hW
  clear B
  show W p l e rm_X_channelOf s m [.ref (L 0 0), .int a1, .int a2].toArray below meth c s.heap [] 0 0 (MQ below (va_Qr (fun (_ : Unit) => True) (fun _ ra t => ra = L 11 out ∧ out < ec_cnt n 11 ∧ mm_pre G.1 ec_cl (ec_T G) (ec_cnt n) L (ec_E G L n) σ t) (mm_A (ec_cnt n) L)) [.ref (L 0 0), .int a1, .int a2].toArray s 0 0 (mm_A (ec_cnt n) L)) (F0 m 0 ls [])
  unfold f_X_channelOf at hf
  refine lv_aload_n hx hb d_X_channelOf_0 rfl (lv_at hl 0 rfl) ?_
  refine va_get (D := G.1) (ci := 0) (C := "TwoPhaseCuts") (T := T_X) (N := 7) (v := .ref (L 2 0)) hx hb hts ui_X hown hK (hW.one (k := 0) (i := 0) (Nat.zero_lt_one)) 0 rfl rfl 2 (by decide) (hts _ tw_166) (fun _ h9 => h9) rfl d_X_channelOf_1 ?_
  refine lv_iload_n hx hb d_X_channelOf_4 rfl (lv_at hl 1 rfl) ?_
  refine lv_aload_n hx hb d_X_channelOf_5 rfl (lv_at hl 0 rfl) ?_
  refine va_get (D := G.1) (ci := 0) (C := "TwoPhaseCuts") (T := T_X) (N := 7) (v := .int (σ 0 0 0)) hx hb hts ui_X hown hK (hW.one (k := 0) (i := 0) (Nat.zero_lt_one)) 0 rfl rfl 0 (by decide) (hts _ tw_164) (fun _ h9 => h9) rfl d_X_channelOf_6 ?_
  refine lv_imul hx hb d_X_channelOf_9 ?_
  refine lv_iload_n hx hb d_X_channelOf_10 rfl (lv_at hl 2 rfl) ?_
  refine lv_iadd hx hb d_X_channelOf_11 ?_
  obtain ⟨hg1, hf⟩ := mm_guard hf
  refine va_aldq (D := G.1) (cl := ec_cl) hx hb hK (hW.one (k := 2) (i := 0) (Nat.zero_lt_one)) 0 3 rfl rfl (mm_vp hg1) d_X_channelOf_12 ?_
  obtain rfl := Option.some.inj hf
  exact W.aret hx hb hr (Or.inl ⟨_, rfl⟩) (Or.inr ⟨_, rfl⟩) (fun t ht hw => ⟨⟨(), _, rfl, trivial, rfl, (mm_nat hg1), (mm_back ht hw hW hK)⟩, hS.F ht⟩) hS.2.2 d_X_channelOf_13
abbrev rm_X_send : Room := { frames := 2, cells := 0, slots := 0, locals := 43 }
set_option maxHeartbeats 4000000 in
set_option maxRecDepth 100000 in
theorem c_X_send (l : Launch) (G : ec_G) (L : mm_L) (F n : Nat) (hI : mm_I (ec_cnt n) L) (σ : mm_M) (a1 : Int32) (a2 : Int32) {out : Int32 × mm_M} (hf : f_X_send F n σ a1 a2 = some out) :
    Met l y_X_send (Cond.code y_X_send b_X_send 5 (some .int) :: tw_tbl) rm_X_send (va_Pc [.ref (L 0 0), .int a1, .int a2] (mm_pre G.1 ec_cl (ec_T G) (ec_cnt n) L (ec_E G L n) σ))
      (va_Qi (fun r (_ : Unit) => r = out.1) (fun _ t => mm_pre G.1 ec_cl (ec_T G) (ec_cnt n) L (ec_E G L n) out.2 t) (mm_A (ec_cnt n) L)) 0 0 (mm_A (ec_cnt n) L) := by
  refine Met.ofW (cc := b_X_send) (maxL := 5) (ret := (some .int)) (by decide) rfl ?_
  intro p e s m args below meth c s₁ B hml hv
  obtain ⟨rfl, hW, hK⟩ := hv
  have hx := B.exec
  have hb := B.bytes
  have hr := B.returns
  have hts0 := atoms_spec (ws := Cond.code y_X_send b_X_send 5 (some .int) :: tw_tbl) B.pre
  have hts : ∀ w ∈ tw_tbl, w.before [.ref (L 0 0), .int a1, .int a2].toArray s = true := fun w h => hts0 w (List.mem_cons_of_mem _ h)
  clear hts0
  have hown : s.vm.findClass "TwoPhaseCuts" = some m.cls := findClass_of_methodNamed B.named
  have hlocks := B.notSynchronized
  have hC : CallFix p m c b_X_send 5 s [.ref (L 0 0), .int a1, .int a2].toArray tw_tbl "TwoPhaseCuts" := ⟨hx, hb, hml, hown, hts⟩
  have hS : va_S (mm_A (ec_cnt n) L) s.heap s.heap [] := va_S.rf
  have hl := lv_entry ([.ref (L 0 0), .int a1, .int a2]) (n := 5) (Nat.le_of_ble_eq_true rfl)
  rw [lg_entry_eq]
  generalize (lg_sl ([.ref (L 0 0), .int a1, .int a2]) ++ List.replicate (5 - (lg_sl ([.ref (L 0 0), .int a1, .int a2])).length) Slot.unset).toArray = ls at hl ⊢
  have hl : lv_has ls 5 [(0, .ref (L 0 0)), (1, .int a1), (2, .int a2)] := hl
  have hW : mm_W G.1 ec_cl (ec_cnt n) L (ec_E G L n) σ s.heap := hW
  clear B
  show W p l e rm_X_send s m [.ref (L 0 0), .int a1, .int a2].toArray below meth c s.heap [] 0 0 (MQ below (va_Qi (fun r (_ : Unit) => r = out.1) (fun _ t => mm_pre G.1 ec_cl (ec_T G) (ec_cnt n) L (ec_E G L n) out.2 t) (mm_A (ec_cnt n) L)) [.ref (L 0 0), .int a1, .int a2].toArray s 0 0 (mm_A (ec_cnt n) L)) (F0 m 0 ls [])
  unfold f_X_send at hf
  refine lv_aload_n hx hb d_X_send_0 rfl (lv_at hl 0 rfl) ?_
  refine lv_iload_n hx hb d_X_send_1 rfl (lv_at hl 1 rfl) ?_
  refine lv_iload_n hx hb d_X_send_2 rfl (lv_at hl 2 rfl) ?_
  obtain ⟨u1, hu1, hf⟩ := mm_bind hf
  refine mm_calli (va_runV (As := [.int a1, .int a2]) (rest := []) hC (c_X_isChannel l G L F n hI σ a1 a2 hu1) (cwV 2 hts (tw_gV tw_206 tw_208 ts_1 tw_1 tw_209) rfl rfl rfl (by decide +kernel) ⟨Nat.le_of_ble_eq_true rfl, Nat.le_of_ble_eq_true rfl⟩) (mm_preV hK hW (k := 0) (i := 0) (Nat.zero_lt_one) rfl rfl) rfl rfl hl.1 rfl (lv_room (Nat.le_of_ble_eq_true rfl)) d_X_send_3 ⟨Nat.zero_le _, Nat.zero_le _⟩) hS (fun _ h => h) (fun H locs hW _ _ hS => ?_)
  refine lv_if_ne (tgt := 11) hx hb d_X_send_6 (by decide) (fun hc => ?_) (fun hc => ?_)
  · rw [if_neg hc] at hf
    refine lv_aload_n hx hb d_X_send_11 rfl (lv_at hl 0 rfl) ?_
    refine va_get (D := G.1) (ci := 0) (C := "TwoPhaseCuts") (T := T_X) (N := 7) (v := .ref (L 1 0)) hx hb hts ui_X hown hK (hW.one (k := 0) (i := 0) (Nat.zero_lt_one)) 0 rfl rfl 1 (by decide) (hts _ tw_165) (fun _ h9 => h9) rfl d_X_send_12 ?_
    refine lv_iload_n hx hb d_X_send_15 rfl (lv_at hl 1 rfl) ?_
    obtain ⟨hg1, hf⟩ := mm_guard hf
    refine va_aldq (D := G.1) (cl := ec_cl) hx hb hK (hW.one (k := 1) (i := 0) (Nat.zero_lt_one)) 0 2 rfl rfl (mm_vp hg1) d_X_send_16 ?_
    refine lv_astore_n (lv' := [(3, .ref (L 6 (Int32.toNatClampNeg a1))), (0, .ref (L 0 0)), (1, .int a1), (2, .int a2)]) hx hb d_X_send_17 rfl hl (by decide) rfl (fun ls hl => ?_)
    refine lv_aload_n hx hb d_X_send_18 rfl (lv_at hl 0 rfl) ?_
    refine va_get (D := G.1) (ci := 1) (C := "TwoPhaseCuts$Member") (T := T_M) (N := 12) (v := .int (σ 6 (Int32.toNatClampNeg a1) 3)) hx hb hts ui_M hown hK (hW.one (k := 6) (i := (Int32.toNatClampNeg a1)) (mm_nat hg1)) 0 rfl rfl 3 (by decide) (hts _ tw_58) (fun _ h9 => h9) rfl d_X_send_19 ?_
    refine lv_if_eq (tgt := 28) hx hb d_X_send_22 (by decide) (fun hc => ?_) (fun hc => ?_)
    · rw [if_pos hc] at hf
      refine lv_aload_n hx hb d_X_send_28 rfl (lv_at hl 0 rfl) ?_
      obtain ⟨u2, hu2, hf⟩ := mm_bind hf
      refine mm_calli (va_runV (As := []) (rest := []) hC (c_M_isInvolved l G L F n hI σ (Int32.toNatClampNeg a1) (mm_nat hg1) hu2) (cwV 0 hts (tw_gV tw_210 tw_199 tw_200 tw_3 tw_201) rfl rfl rfl (by decide +kernel) ⟨Nat.le_of_ble_eq_true rfl, Nat.le_of_ble_eq_true rfl⟩) (mm_preV hK hW (k := 6) (i := (Int32.toNatClampNeg a1)) (mm_nat hg1) rfl rfl) rfl rfl hl.1 rfl (lv_room (Nat.le_of_ble_eq_true rfl)) d_X_send_29 ⟨Nat.zero_le _, Nat.zero_le _⟩) hS (fun _ h => h) (fun H locs hW _ _ hS => ?_)
      refine lv_if_eq (tgt := 38) hx hb d_X_send_32 (by decide) (fun hc => ?_) (fun hc => ?_)
      · rw [if_pos hc] at hf
        refine lv_aload_n hx hb d_X_send_38 rfl (lv_at hl 1 rfl) ?_
        refine lv_iload_n hx hb d_X_send_39 rfl (lv_at hl 2 rfl) ?_
        refine lv_iload_n hx hb d_X_send_40 rfl (lv_at hl 3 rfl) ?_
        obtain ⟨u3, hu3, hf⟩ := mm_bind hf
        refine mm_callr (va_runV (As := [.int a1, .int a2]) (rest := []) hC (c_X_channelOf l G L F n hI σ a1 a2 hu3) (cwV 2 hts (tw_gV tw_211 tw_213 ts_2 tw_1 tw_214) rfl rfl rfl (by decide +kernel) ⟨Nat.le_of_ble_eq_true rfl, Nat.le_of_ble_eq_true rfl⟩) (mm_preV hK hW (k := 0) (i := 0) (Nat.zero_lt_one) rfl rfl) rfl rfl hl.1 rfl (lv_room (Nat.le_of_ble_eq_true rfl)) d_X_send_41 ⟨Nat.zero_le _, Nat.zero_le _⟩) hS (fun _ h => h) (fun H locs hbu3 hW _ _ hS => ?_)
        refine lv_astore (lv' := [(4, .ref (L 11 u3)), (3, .ref (L 6 (Int32.toNatClampNeg a1))), (0, .ref (L 0 0)), (1, .int a1), (2, .int a2)]) hx hb d_X_send_44 hl (by decide) rfl (fun ls hl => ?_)
        refine lv_aload hx hb d_X_send_46 (lv_at hl 0 rfl) ?_
        refine va_get (D := G.1) (ci := 3) (C := "TwoPhaseCuts$Channel") (T := T_H) (N := 3) (v := .int (σ 11 u3 2)) hx hb hts ui_H hown hK (hW.one (k := 11) (i := u3) hbu3) 0 rfl rfl 2 (by decide) (hts _ tw_111) (fun _ h9 => h9) rfl d_X_send_48 ?_
        refine lv_bipush (v := (6 : Int32)) hx hb d_X_send_51 (by decide) ?_
        refine lv_icmp_lt (tgt := 59) hx hb d_X_send_53 (by decide) (fun hc => ?_) (fun hc => ?_)
        · rw [if_pos hc] at hf
          refine lv_aload_n hx hb d_X_send_59 rfl (lv_at hl 1 rfl) ?_
          refine va_get (D := G.1) (ci := 1) (C := "TwoPhaseCuts$Member") (T := T_M) (N := 12) (v := .ref (L 7 (3 * (Int32.toNatClampNeg a1)))) hx hb hts ui_M hown hK (hW.one (k := 6) (i := (Int32.toNatClampNeg a1)) (mm_nat hg1)) 0 rfl rfl 0 (by decide) (hts _ tw_53) (fun _ h9 => h9) rfl d_X_send_60 ?_
          refine va_get (D := G.1) (ci := 2) (C := "TwoPhaseCuts$State") (T := T_S) (N := 3) (v := .ref (L 8 (3 * (Int32.toNatClampNeg a1)))) hx hb hts ui_S hown hK (hW.one (k := 7) (i := (3 * (Int32.toNatClampNeg a1))) (ec_h0 (mm_nat hg1))) 0 rfl rfl 1 (by decide) (hts _ tw_39) (fun _ h9 => h9) rfl d_X_send_63 ?_
          refine lv_iload_n hx hb d_X_send_66 rfl (lv_at hl 4 rfl) ?_
          refine lv_dup2_11 hx hb d_X_send_67 rfl rfl ?_
          obtain ⟨hg2, hf⟩ := mm_guard hf
          refine va_iald (D := G.1) (cl := ec_cl) hx hb hK (hW.one (k := 8) (i := (3 * (Int32.toNatClampNeg a1))) (ec_h0 (mm_nat hg1))) 0 0 rfl rfl (mm_vp hg2) d_X_send_68 ?_
          refine mm_top (y := (σ 8 (3 * (Int32.toNatClampNeg a1)) (Int32.toNatClampNeg a2))) rfl ?_
          refine lv_iconst (v := (1 : Int32)) hx hb d_X_send_69 (by decide) ?_
          refine lv_iadd hx hb d_X_send_70 ?_
          refine mm_iast hx hb hK hI hW hS (k := 8) (i := (3 * (Int32.toNatClampNeg a1))) (ec_h0 (mm_nat hg1)) (fun _ => rfl) (t0 := 0) rfl (mm_vp hg2) d_X_send_71 (fun H locs hW hS => ?_)
          refine lv_aload hx hb d_X_send_72 (lv_at hl 0 rfl) ?_
          refine lv_aload_n hx hb d_X_send_74 rfl (lv_at hl 1 rfl) ?_
          refine va_get (D := G.1) (ci := 1) (C := "TwoPhaseCuts$Member") (T := T_M) (N := 12) (v := .ref (L 7 (3 * (Int32.toNatClampNeg a1)))) hx hb hts ui_M hown hK (hW.one (k := 6) (i := (Int32.toNatClampNeg a1)) (mm_nat hg1)) 0 rfl rfl 0 (by decide) (hts _ tw_53) (fun _ h9 => h9) rfl d_X_send_75 ?_
          refine va_get (D := G.1) (ci := 2) (C := "TwoPhaseCuts$State") (T := T_S) (N := 3) (v := .ref (L 8 (3 * (Int32.toNatClampNeg a1)))) hx hb hts ui_S hown hK (hW.one (k := 7) (i := (3 * (Int32.toNatClampNeg a1))) (ec_h0 (mm_nat hg1))) 0 rfl rfl 1 (by decide) (hts _ tw_39) (fun _ h9 => h9) rfl d_X_send_78 ?_
          refine lv_iload_n hx hb d_X_send_81 rfl (lv_at hl 4 rfl) ?_
          refine va_iald (D := G.1) (cl := ec_cl) hx hb hK (hW.one (k := 8) (i := (3 * (Int32.toNatClampNeg a1))) (ec_h0 (mm_nat hg1))) 0 0 rfl rfl (mm_vp hg2) d_X_send_82 ?_
          refine mm_top (y := ((mm_st σ 8 (3 * (Int32.toNatClampNeg a1)) (Int32.toNatClampNeg a2) ((σ 8 (3 * (Int32.toNatClampNeg a1)) (Int32.toNatClampNeg a2)) + (1 : Int32))) 8 (3 * (Int32.toNatClampNeg a1)) (Int32.toNatClampNeg a2))) rfl ?_
          refine lv_aload_n hx hb d_X_send_83 rfl (lv_at hl 1 rfl) ?_
          refine va_get (D := G.1) (ci := 1) (C := "TwoPhaseCuts$Member") (T := T_M) (N := 12) (v := .ref (L 7 (3 * (Int32.toNatClampNeg a1)))) hx hb hts ui_M hown hK (hW.one (k := 6) (i := (Int32.toNatClampNeg a1)) (mm_nat hg1)) 0 rfl rfl 0 (by decide) (hts _ tw_53) (fun _ h9 => h9) rfl d_X_send_84 ?_
          refine va_get (D := G.1) (ci := 2) (C := "TwoPhaseCuts$State") (T := T_S) (N := 3) (v := .int (σ 7 (3 * (Int32.toNatClampNeg a1)) 0)) hx hb hts ui_S hown hK (hW.one (k := 7) (i := (3 * (Int32.toNatClampNeg a1))) (ec_h0 (mm_nat hg1))) 0 rfl rfl 0 (by decide) (hts _ tw_37) (fun _ h9 => h9) rfl d_X_send_87 ?_
          obtain ⟨u4, hu4, hf⟩ := mm_bind hf
          refine mm_callv (va_runV (As := [.int ((mm_st σ 8 (3 * (Int32.toNatClampNeg a1)) (Int32.toNatClampNeg a2) ((σ 8 (3 * (Int32.toNatClampNeg a1)) (Int32.toNatClampNeg a2)) + (1 : Int32))) 8 (3 * (Int32.toNatClampNeg a1)) (Int32.toNatClampNeg a2)), .int (σ 7 (3 * (Int32.toNatClampNeg a1)) 0)]) (rest := []) hC (c_H_put l G L F n hI (mm_st σ 8 (3 * (Int32.toNatClampNeg a1)) (Int32.toNatClampNeg a2) ((σ 8 (3 * (Int32.toNatClampNeg a1)) (Int32.toNatClampNeg a2)) + (1 : Int32))) u3 ((mm_st σ 8 (3 * (Int32.toNatClampNeg a1)) (Int32.toNatClampNeg a2) ((σ 8 (3 * (Int32.toNatClampNeg a1)) (Int32.toNatClampNeg a2)) + (1 : Int32))) 8 (3 * (Int32.toNatClampNeg a1)) (Int32.toNatClampNeg a2)) (σ 7 (3 * (Int32.toNatClampNeg a1)) 0) hbu3 hu4) (cwV 2 hts (tw_gV tw_215 tw_216 tw_217 tw_5 tw_218) rfl rfl rfl (by decide +kernel) ⟨Nat.le_of_ble_eq_true rfl, Nat.le_of_ble_eq_true rfl⟩) (mm_preV hK hW (k := 11) (i := u3) hbu3 rfl rfl) rfl rfl hl.1 rfl (lv_room (Nat.le_of_ble_eq_true rfl)) d_X_send_90 ⟨Nat.zero_le _, Nat.zero_le _⟩) hS (fun _ h => h) (fun H locs hW _ _ hS => ?_)
          refine lv_aload_n hx hb d_X_send_93 rfl (lv_at hl 1 rfl) ?_
          refine va_get (D := G.1) (ci := 1) (C := "TwoPhaseCuts$Member") (T := T_M) (N := 12) (v := .ref (L 7 (3 * (Int32.toNatClampNeg a1)))) hx hb hts ui_M hown hK (hW.one (k := 6) (i := (Int32.toNatClampNeg a1)) (mm_nat hg1)) 0 rfl rfl 0 (by decide) (hts _ tw_53) (fun _ h9 => h9) rfl d_X_send_94 ?_
          refine va_get (D := G.1) (ci := 2) (C := "TwoPhaseCuts$State") (T := T_S) (N := 3) (v := .ref (L 8 (3 * (Int32.toNatClampNeg a1)))) hx hb hts ui_S hown hK (hW.one (k := 7) (i := (3 * (Int32.toNatClampNeg a1))) (ec_h0 (mm_nat hg1))) 0 rfl rfl 1 (by decide) (hts _ tw_39) (fun _ h9 => h9) rfl d_X_send_97 ?_
          refine lv_iload_n hx hb d_X_send_100 rfl (lv_at hl 4 rfl) ?_
          refine va_iald (D := G.1) (cl := ec_cl) hx hb hK (hW.one (k := 8) (i := (3 * (Int32.toNatClampNeg a1))) (ec_h0 (mm_nat hg1))) 0 0 rfl rfl (mm_vp hg2) d_X_send_101 ?_
          refine mm_top (y := (u4 8 (3 * (Int32.toNatClampNeg a1)) (Int32.toNatClampNeg a2))) rfl ?_
          obtain rfl := Option.some.inj hf
          exact W.iret (v := (u4 8 (3 * (Int32.toNatClampNeg a1)) (Int32.toNatClampNeg a2))) hx hb hr (fun t ht hw => ⟨⟨_, (), rfl, rfl, (mm_back ht hw hW hK)⟩, hS.F ht⟩) hS.2.2 d_X_send_102
        · rw [if_neg hc] at hf
          refine lv_bipush (v := (-4 : Int32)) hx hb d_X_send_56 (by decide) ?_
          obtain rfl := Option.some.inj hf
          exact W.iret (v := (-4 : Int32)) hx hb hr (fun t ht hw => ⟨⟨_, (), rfl, rfl, (mm_back ht hw hW hK)⟩, hS.F ht⟩) hS.2.2 d_X_send_58
      · rw [if_neg hc] at hf
        refine lv_bipush (v := (-3 : Int32)) hx hb d_X_send_35 (by decide) ?_
        obtain rfl := Option.some.inj hf
        exact W.iret (v := (-3 : Int32)) hx hb hr (fun t ht hw => ⟨⟨_, (), rfl, rfl, (mm_back ht hw hW hK)⟩, hS.F ht⟩) hS.2.2 d_X_send_37
    · rw [if_neg hc] at hf
      refine lv_bipush (v := (-2 : Int32)) hx hb d_X_send_25 (by decide) ?_
      obtain rfl := Option.some.inj hf
      exact W.iret (v := (-2 : Int32)) hx hb hr (fun t ht hw => ⟨⟨_, (), rfl, rfl, (mm_back ht hw hW hK)⟩, hS.F ht⟩) hS.2.2 d_X_send_27
  · rw [if_pos hc] at hf
    refine lv_iconst (v := (-1 : Int32)) hx hb d_X_send_9 (by decide) ?_
    obtain rfl := Option.some.inj hf
    exact W.iret (v := (-1 : Int32)) hx hb hr (fun t ht hw => ⟨⟨_, (), rfl, rfl, (mm_back ht hw hW hK)⟩, hS.F ht⟩) hS.2.2 d_X_send_10
abbrev rm_X_receive : Room := { frames := 2, cells := 0, slots := 0, locals := 43 }
set_option maxHeartbeats 4000000 in
set_option maxRecDepth 100000 in
theorem c_X_receive (l : Launch) (G : ec_G) (L : mm_L) (F n : Nat) (hI : mm_I (ec_cnt n) L) (σ : mm_M) (a1 : Int32) (a2 : Int32) {out : Int32 × mm_M} (hf : f_X_receive F n σ a1 a2 = some out) :
    Met l y_X_receive (Cond.code y_X_receive b_X_receive 7 (some .int) :: tw_tbl) rm_X_receive (va_Pc [.ref (L 0 0), .int a1, .int a2] (mm_pre G.1 ec_cl (ec_T G) (ec_cnt n) L (ec_E G L n) σ))
      (va_Qi (fun r (_ : Unit) => r = out.1) (fun _ t => mm_pre G.1 ec_cl (ec_T G) (ec_cnt n) L (ec_E G L n) out.2 t) (mm_A (ec_cnt n) L)) 0 0 (mm_A (ec_cnt n) L) := by
  refine Met.ofW (cc := b_X_receive) (maxL := 7) (ret := (some .int)) (by decide) rfl ?_
  intro p e s m args below meth c s₁ B hml hv
  obtain ⟨rfl, hW, hK⟩ := hv
  have hx := B.exec
  have hb := B.bytes
  have hr := B.returns
  have hts0 := atoms_spec (ws := Cond.code y_X_receive b_X_receive 7 (some .int) :: tw_tbl) B.pre
  have hts : ∀ w ∈ tw_tbl, w.before [.ref (L 0 0), .int a1, .int a2].toArray s = true := fun w h => hts0 w (List.mem_cons_of_mem _ h)
  clear hts0
  have hown : s.vm.findClass "TwoPhaseCuts" = some m.cls := findClass_of_methodNamed B.named
  have hlocks := B.notSynchronized
  have hC : CallFix p m c b_X_receive 7 s [.ref (L 0 0), .int a1, .int a2].toArray tw_tbl "TwoPhaseCuts" := ⟨hx, hb, hml, hown, hts⟩
  have hS : va_S (mm_A (ec_cnt n) L) s.heap s.heap [] := va_S.rf
  have hl := lv_entry ([.ref (L 0 0), .int a1, .int a2]) (n := 7) (Nat.le_of_ble_eq_true rfl)
  rw [lg_entry_eq]
  generalize (lg_sl ([.ref (L 0 0), .int a1, .int a2]) ++ List.replicate (7 - (lg_sl ([.ref (L 0 0), .int a1, .int a2])).length) Slot.unset).toArray = ls at hl ⊢
  have hl : lv_has ls 7 [(0, .ref (L 0 0)), (1, .int a1), (2, .int a2)] := hl
  have hW : mm_W G.1 ec_cl (ec_cnt n) L (ec_E G L n) σ s.heap := hW
  clear B
  show W p l e rm_X_receive s m [.ref (L 0 0), .int a1, .int a2].toArray below meth c s.heap [] 0 0 (MQ below (va_Qi (fun r (_ : Unit) => r = out.1) (fun _ t => mm_pre G.1 ec_cl (ec_T G) (ec_cnt n) L (ec_E G L n) out.2 t) (mm_A (ec_cnt n) L)) [.ref (L 0 0), .int a1, .int a2].toArray s 0 0 (mm_A (ec_cnt n) L)) (F0 m 0 ls [])
  unfold f_X_receive at hf
  refine lv_aload_n hx hb d_X_receive_0 rfl (lv_at hl 0 rfl) ?_
  refine lv_iload_n hx hb d_X_receive_1 rfl (lv_at hl 1 rfl) ?_
  refine lv_iload_n hx hb d_X_receive_2 rfl (lv_at hl 2 rfl) ?_
  obtain ⟨u1, hu1, hf⟩ := mm_bind hf
  refine mm_calli (va_runV (As := [.int a1, .int a2]) (rest := []) hC (c_X_isChannel l G L F n hI σ a1 a2 hu1) (cwV 2 hts (tw_gV tw_206 tw_208 ts_1 tw_1 tw_209) rfl rfl rfl (by decide +kernel) ⟨Nat.le_of_ble_eq_true rfl, Nat.le_of_ble_eq_true rfl⟩) (mm_preV hK hW (k := 0) (i := 0) (Nat.zero_lt_one) rfl rfl) rfl rfl hl.1 rfl (lv_room (Nat.le_of_ble_eq_true rfl)) d_X_receive_3 ⟨Nat.zero_le _, Nat.zero_le _⟩) hS (fun _ h => h) (fun H locs hW _ _ hS => ?_)
  refine lv_if_ne (tgt := 11) hx hb d_X_receive_6 (by decide) (fun hc => ?_) (fun hc => ?_)
  · rw [if_neg hc] at hf
    refine lv_aload_n hx hb d_X_receive_11 rfl (lv_at hl 0 rfl) ?_
    refine va_get (D := G.1) (ci := 0) (C := "TwoPhaseCuts") (T := T_X) (N := 7) (v := .ref (L 1 0)) hx hb hts ui_X hown hK (hW.one (k := 0) (i := 0) (Nat.zero_lt_one)) 0 rfl rfl 1 (by decide) (hts _ tw_165) (fun _ h9 => h9) rfl d_X_receive_12 ?_
    refine lv_iload_n hx hb d_X_receive_15 rfl (lv_at hl 1 rfl) ?_
    obtain ⟨hg1, hf⟩ := mm_guard hf
    refine va_aldq (D := G.1) (cl := ec_cl) hx hb hK (hW.one (k := 1) (i := 0) (Nat.zero_lt_one)) 0 2 rfl rfl (mm_vp hg1) d_X_receive_16 ?_
    refine lv_astore_n (lv' := [(3, .ref (L 6 (Int32.toNatClampNeg a1))), (0, .ref (L 0 0)), (1, .int a1), (2, .int a2)]) hx hb d_X_receive_17 rfl hl (by decide) rfl (fun ls hl => ?_)
    refine lv_aload_n hx hb d_X_receive_18 rfl (lv_at hl 1 rfl) ?_
    refine va_get (D := G.1) (ci := 0) (C := "TwoPhaseCuts") (T := T_X) (N := 7) (v := .ref (L 1 0)) hx hb hts ui_X hown hK (hW.one (k := 0) (i := 0) (Nat.zero_lt_one)) 0 rfl rfl 1 (by decide) (hts _ tw_165) (fun _ h9 => h9) rfl d_X_receive_19 ?_
    refine lv_iload_n hx hb d_X_receive_22 rfl (lv_at hl 3 rfl) ?_
    obtain ⟨hg2, hf⟩ := mm_guard hf
    refine va_aldq (D := G.1) (cl := ec_cl) hx hb hK (hW.one (k := 1) (i := 0) (Nat.zero_lt_one)) 0 2 rfl rfl (mm_vp hg2) d_X_receive_23 ?_
    refine lv_astore (lv' := [(4, .ref (L 6 (Int32.toNatClampNeg a2))), (3, .ref (L 6 (Int32.toNatClampNeg a1))), (0, .ref (L 0 0)), (1, .int a1), (2, .int a2)]) hx hb d_X_receive_24 hl (by decide) rfl (fun ls hl => ?_)
    refine lv_aload hx hb d_X_receive_26 (lv_at hl 0 rfl) ?_
    refine va_get (D := G.1) (ci := 1) (C := "TwoPhaseCuts$Member") (T := T_M) (N := 12) (v := .int (σ 6 (Int32.toNatClampNeg a2) 3)) hx hb hts ui_M hown hK (hW.one (k := 6) (i := (Int32.toNatClampNeg a2)) (mm_nat hg2)) 0 rfl rfl 3 (by decide) (hts _ tw_58) (fun _ h9 => h9) rfl d_X_receive_28 ?_
    refine lv_if_eq (tgt := 37) hx hb d_X_receive_31 (by decide) (fun hc => ?_) (fun hc => ?_)
    · rw [if_pos hc] at hf
      refine lv_aload hx hb d_X_receive_37 (lv_at hl 0 rfl) ?_
      obtain ⟨u2, hu2, hf⟩ := mm_bind hf
      refine mm_calli (va_runV (As := []) (rest := []) hC (c_M_isInRollback l G L F n hI σ (Int32.toNatClampNeg a2) (mm_nat hg2) hu2) (cwV 0 hts (tw_gV tw_194 tw_195 tw_196 tw_3 tw_197) rfl rfl rfl (by decide +kernel) ⟨Nat.le_of_ble_eq_true rfl, Nat.le_of_ble_eq_true rfl⟩) (mm_preV hK hW (k := 6) (i := (Int32.toNatClampNeg a2)) (mm_nat hg2) rfl rfl) rfl rfl hl.1 rfl (lv_room (Nat.le_of_ble_eq_true rfl)) d_X_receive_39 ⟨Nat.zero_le _, Nat.zero_le _⟩) hS (fun _ h => h) (fun H locs hW _ _ hS => ?_)
      refine lv_if_ne (tgt := 59) hx hb d_X_receive_42 (by decide) (fun hc => ?_) (fun hc => ?_)
      · rw [if_neg hc] at hf
        refine lv_bipush (v := (-3 : Int32)) hx hb d_X_receive_59 (by decide) ?_
        obtain rfl := Option.some.inj hf
        exact W.iret (v := (-3 : Int32)) hx hb hr (fun t ht hw => ⟨⟨_, (), rfl, rfl, (mm_back ht hw hW hK)⟩, hS.F ht⟩) hS.2.2 d_X_receive_61
      · rw [if_pos hc] at hf
        refine lv_aload_n hx hb d_X_receive_45 rfl (lv_at hl 1 rfl) ?_
        refine va_get (D := G.1) (ci := 1) (C := "TwoPhaseCuts$Member") (T := T_M) (N := 12) (v := .int (σ 6 (Int32.toNatClampNeg a1) 3)) hx hb hts ui_M hown hK (hW.one (k := 6) (i := (Int32.toNatClampNeg a1)) (mm_nat hg1)) 0 rfl rfl 3 (by decide) (hts _ tw_58) (fun _ h9 => h9) rfl d_X_receive_46 ?_
        refine lv_if_ne (tgt := 59) hx hb d_X_receive_49 (by decide) (fun hc => ?_) (fun hc => ?_)
        · rw [if_neg hc] at hf
          refine lv_bipush (v := (-3 : Int32)) hx hb d_X_receive_59 (by decide) ?_
          obtain rfl := Option.some.inj hf
          exact W.iret (v := (-3 : Int32)) hx hb hr (fun t ht hw => ⟨⟨_, (), rfl, rfl, (mm_back ht hw hW hK)⟩, hS.F ht⟩) hS.2.2 d_X_receive_61
        · rw [if_pos hc] at hf
          refine lv_aload_n hx hb d_X_receive_52 rfl (lv_at hl 1 rfl) ?_
          obtain ⟨u3, hu3, hf⟩ := mm_bind hf
          refine mm_calli (va_runV (As := []) (rest := []) hC (c_M_isInRollback l G L F n hI σ (Int32.toNatClampNeg a1) (mm_nat hg1) hu3) (cwV 0 hts (tw_gV tw_194 tw_195 tw_196 tw_3 tw_197) rfl rfl rfl (by decide +kernel) ⟨Nat.le_of_ble_eq_true rfl, Nat.le_of_ble_eq_true rfl⟩) (mm_preV hK hW (k := 6) (i := (Int32.toNatClampNeg a1)) (mm_nat hg1) rfl rfl) rfl rfl hl.1 rfl (lv_room (Nat.le_of_ble_eq_true rfl)) d_X_receive_53 ⟨Nat.zero_le _, Nat.zero_le _⟩) hS (fun _ h => h) (fun H locs hW _ _ hS => ?_)
          refine lv_if_eq (tgt := 62) hx hb d_X_receive_56 (by decide) (fun hc => ?_) (fun hc => ?_)
          · rw [if_pos hc] at hf
            refine lv_aload_n hx hb d_X_receive_62 rfl (lv_at hl 2 rfl) ?_
            refine lv_iload_n hx hb d_X_receive_63 rfl (lv_at hl 3 rfl) ?_
            refine lv_iload_n hx hb d_X_receive_64 rfl (lv_at hl 4 rfl) ?_
            obtain ⟨u4, hu4, hf⟩ := mm_bind hf
            refine mm_callr (va_runV (As := [.int a1, .int a2]) (rest := []) hC (c_X_channelOf l G L F n hI σ a1 a2 hu4) (cwV 2 hts (tw_gV tw_211 tw_213 ts_2 tw_1 tw_214) rfl rfl rfl (by decide +kernel) ⟨Nat.le_of_ble_eq_true rfl, Nat.le_of_ble_eq_true rfl⟩) (mm_preV hK hW (k := 0) (i := 0) (Nat.zero_lt_one) rfl rfl) rfl rfl hl.1 rfl (lv_room (Nat.le_of_ble_eq_true rfl)) d_X_receive_65 ⟨Nat.zero_le _, Nat.zero_le _⟩) hS (fun _ h => h) (fun H locs hbu4 hW _ _ hS => ?_)
            refine lv_astore (lv' := [(5, .ref (L 11 u4)), (4, .ref (L 6 (Int32.toNatClampNeg a2))), (3, .ref (L 6 (Int32.toNatClampNeg a1))), (0, .ref (L 0 0)), (1, .int a1), (2, .int a2)]) hx hb d_X_receive_68 hl (by decide) rfl (fun ls hl => ?_)
            refine lv_aload hx hb d_X_receive_70 (lv_at hl 0 rfl) ?_
            refine va_get (D := G.1) (ci := 3) (C := "TwoPhaseCuts$Channel") (T := T_H) (N := 3) (v := .int (σ 11 u4 2)) hx hb hts ui_H hown hK (hW.one (k := 11) (i := u4) hbu4) 0 rfl rfl 2 (by decide) (hts _ tw_111) (fun _ h9 => h9) rfl d_X_receive_72 ?_
            refine lv_if_ne (tgt := 81) hx hb d_X_receive_75 (by decide) (fun hc => ?_) (fun hc => ?_)
            · rw [if_neg hc] at hf
              refine lv_aload hx hb d_X_receive_81 (lv_at hl 0 rfl) ?_
              refine va_get (D := G.1) (ci := 3) (C := "TwoPhaseCuts$Channel") (T := T_H) (N := 3) (v := .ref (L 12 u4)) hx hb hts ui_H hown hK (hW.one (k := 11) (i := u4) hbu4) 0 rfl rfl 0 (by decide) (hts _ tw_107) (fun _ h9 => h9) rfl d_X_receive_83 ?_
              refine lv_iconst (v := (0 : Int32)) hx hb d_X_receive_86 (by decide) ?_
              obtain ⟨hg3, hf⟩ := mm_guard hf
              refine va_iald (D := G.1) (cl := ec_cl) hx hb hK (hW.one (k := 12) (i := u4) hbu4) 0 0 rfl rfl (mm_vp hg3) d_X_receive_87 ?_
              refine mm_top (y := (σ 12 u4 (Int32.toNatClampNeg (0 : Int32)))) rfl ?_
              refine lv_istore (lv' := [(6, .int (σ 12 u4 (Int32.toNatClampNeg (0 : Int32)))), (5, .ref (L 11 u4)), (4, .ref (L 6 (Int32.toNatClampNeg a2))), (3, .ref (L 6 (Int32.toNatClampNeg a1))), (0, .ref (L 0 0)), (1, .int a1), (2, .int a2)]) hx hb d_X_receive_88 hl (by decide) rfl (fun ls hl => ?_)
              refine lv_aload hx hb d_X_receive_90 (lv_at hl 2 rfl) ?_
              refine va_get (D := G.1) (ci := 1) (C := "TwoPhaseCuts$Member") (T := T_M) (N := 12) (v := .ref (L 7 (3 * (Int32.toNatClampNeg a2)))) hx hb hts ui_M hown hK (hW.one (k := 6) (i := (Int32.toNatClampNeg a2)) (mm_nat hg2)) 0 rfl rfl 0 (by decide) (hts _ tw_53) (fun _ h9 => h9) rfl d_X_receive_92 ?_
              refine va_get (D := G.1) (ci := 2) (C := "TwoPhaseCuts$State") (T := T_S) (N := 3) (v := .ref (L 9 (3 * (Int32.toNatClampNeg a2)))) hx hb hts ui_S hown hK (hW.one (k := 7) (i := (3 * (Int32.toNatClampNeg a2))) (ec_h0 (mm_nat hg2))) 0 rfl rfl 2 (by decide) (hts _ tw_43) (fun _ h9 => h9) rfl d_X_receive_95 ?_
              refine lv_iload_n hx hb d_X_receive_98 rfl (lv_at hl 5 rfl) ?_
              refine lv_iload hx hb d_X_receive_99 (lv_at hl 0 rfl) ?_
              refine mm_iast hx hb hK hI hW hS (k := 9) (i := (3 * (Int32.toNatClampNeg a2))) (ec_h0 (mm_nat hg2)) (fun _ => rfl) (t0 := 0) rfl (mm_vp hg1) d_X_receive_101 (fun H locs hW hS => ?_)
              refine lv_aload hx hb d_X_receive_102 (lv_at hl 2 rfl) ?_
              refine va_get (D := G.1) (ci := 1) (C := "TwoPhaseCuts$Member") (T := T_M) (N := 12) (v := .ref (L 7 (3 * (Int32.toNatClampNeg a2)))) hx hb hts ui_M hown hK (hW.one (k := 6) (i := (Int32.toNatClampNeg a2)) (mm_nat hg2)) 0 rfl rfl 0 (by decide) (hts _ tw_53) (fun _ h9 => h9) rfl d_X_receive_104 ?_
              refine lv_bipush (v := (17 : Int32)) hx hb d_X_receive_107 (by decide) ?_
              refine lv_aload hx hb d_X_receive_109 (lv_at hl 2 rfl) ?_
              refine va_get (D := G.1) (ci := 1) (C := "TwoPhaseCuts$Member") (T := T_M) (N := 12) (v := .ref (L 7 (3 * (Int32.toNatClampNeg a2)))) hx hb hts ui_M hown hK (hW.one (k := 6) (i := (Int32.toNatClampNeg a2)) (mm_nat hg2)) 0 rfl rfl 0 (by decide) (hts _ tw_53) (fun _ h9 => h9) rfl d_X_receive_111 ?_
              refine va_get (D := G.1) (ci := 2) (C := "TwoPhaseCuts$State") (T := T_S) (N := 3) (v := .int (σ 7 (3 * (Int32.toNatClampNeg a2)) 0)) hx hb hts ui_S hown hK (hW.one (k := 7) (i := (3 * (Int32.toNatClampNeg a2))) (ec_h0 (mm_nat hg2))) 0 rfl rfl 0 (by decide) (hts _ tw_37) (fun _ h9 => h9) rfl d_X_receive_114 ?_
              refine lv_imul hx hb d_X_receive_117 ?_
              refine lv_aload hx hb d_X_receive_118 (lv_at hl 1 rfl) ?_
              refine va_get (D := G.1) (ci := 3) (C := "TwoPhaseCuts$Channel") (T := T_H) (N := 3) (v := .ref (L 13 u4)) hx hb hts ui_H hown hK (hW.one (k := 11) (i := u4) hbu4) 0 rfl rfl 1 (by decide) (hts _ tw_109) (fun _ h9 => h9) rfl d_X_receive_120 ?_
              refine lv_iconst (v := (0 : Int32)) hx hb d_X_receive_123 (by decide) ?_
              refine va_iald (D := G.1) (cl := ec_cl) hx hb hK (hW.one (k := 13) (i := u4) hbu4) 0 0 rfl rfl (mm_vp hg3) d_X_receive_124 ?_
              refine mm_top (y := (σ 13 u4 (Int32.toNatClampNeg (0 : Int32)))) rfl ?_
              refine lv_iadd hx hb d_X_receive_125 ?_
              refine lv_iconst (v := (1 : Int32)) hx hb d_X_receive_126 (by decide) ?_
              refine lv_iadd hx hb d_X_receive_127 ?_
              refine mm_put (D := G.1) (ci := 2) (C := "TwoPhaseCuts$State") (T := T_S) (N := 3) (x := ((((17 : Int32) * (σ 7 (3 * (Int32.toNatClampNeg a2)) 0)) + (σ 13 u4 (Int32.toNatClampNeg (0 : Int32)))) + (1 : Int32))) hx hb hts ui_S ty_S tyo_S nmo_S hown hK hI hW hS (k := 7) (i := (3 * (Int32.toNatClampNeg a2))) (ec_h0 (mm_nat hg2)) rfl rfl 0 (by decide) (hts _ tw_37) (fun _ h9 => h9) rfl (ty := .int) (by decide +kernel) (vp_nar_int _) rfl (Nat.le_of_ble_eq_true rfl) rfl d_X_receive_128 (fun H locs hW hS => ?_)
              refine lv_aload hx hb d_X_receive_131 (lv_at hl 1 rfl) ?_
              obtain ⟨u5, hu5, hf⟩ := mm_bind hf
              refine mm_callv (va_runV (As := []) (rest := []) hC (c_H_takeFirst l G L F n hI (mm_st (mm_st σ 9 (3 * (Int32.toNatClampNeg a2)) (Int32.toNatClampNeg a1) (σ 12 u4 (Int32.toNatClampNeg (0 : Int32)))) 7 (3 * (Int32.toNatClampNeg a2)) 0 ((((17 : Int32) * (σ 7 (3 * (Int32.toNatClampNeg a2)) 0)) + (σ 13 u4 (Int32.toNatClampNeg (0 : Int32)))) + (1 : Int32))) u4 hbu4 hu5) (cwV 0 hts (tw_gV tw_223 tw_224 tw_225 tw_5 tw_226) rfl rfl rfl (by decide +kernel) ⟨Nat.le_of_ble_eq_true rfl, Nat.le_of_ble_eq_true rfl⟩) (mm_preV hK hW (k := 11) (i := u4) hbu4 rfl rfl) rfl rfl hl.1 rfl (lv_room (Nat.le_of_ble_eq_true rfl)) d_X_receive_133 ⟨Nat.zero_le _, Nat.zero_le _⟩) hS (fun _ h => h) (fun H locs hW _ _ hS => ?_)
              refine lv_iload hx hb d_X_receive_136 (lv_at hl 0 rfl) ?_
              obtain rfl := Option.some.inj hf
              exact W.iret (v := (σ 12 u4 (Int32.toNatClampNeg (0 : Int32)))) hx hb hr (fun t ht hw => ⟨⟨_, (), rfl, rfl, (mm_back ht hw hW hK)⟩, hS.F ht⟩) hS.2.2 d_X_receive_138
            · rw [if_pos hc] at hf
              refine lv_bipush (v := (-4 : Int32)) hx hb d_X_receive_78 (by decide) ?_
              obtain rfl := Option.some.inj hf
              exact W.iret (v := (-4 : Int32)) hx hb hr (fun t ht hw => ⟨⟨_, (), rfl, rfl, (mm_back ht hw hW hK)⟩, hS.F ht⟩) hS.2.2 d_X_receive_80
          · rw [if_neg hc] at hf
            refine lv_bipush (v := (-3 : Int32)) hx hb d_X_receive_59 (by decide) ?_
            obtain rfl := Option.some.inj hf
            exact W.iret (v := (-3 : Int32)) hx hb hr (fun t ht hw => ⟨⟨_, (), rfl, rfl, (mm_back ht hw hW hK)⟩, hS.F ht⟩) hS.2.2 d_X_receive_61
    · rw [if_neg hc] at hf
      refine lv_bipush (v := (-2 : Int32)) hx hb d_X_receive_34 (by decide) ?_
      obtain rfl := Option.some.inj hf
      exact W.iret (v := (-2 : Int32)) hx hb hr (fun t ht hw => ⟨⟨_, (), rfl, rfl, (mm_back ht hw hW hK)⟩, hS.F ht⟩) hS.2.2 d_X_receive_36
  · rw [if_pos hc] at hf
    refine lv_iconst (v := (-1 : Int32)) hx hb d_X_receive_9 (by decide) ?_
    obtain rfl := Option.some.inj hf
    exact W.iret (v := (-1 : Int32)) hx hb hr (fun t ht hw => ⟨⟨_, (), rfl, rfl, (mm_back ht hw hW hK)⟩, hS.F ht⟩) hS.2.2 d_X_receive_10
abbrev rm_X_lose : Room := { frames := 2, cells := 0, slots := 0, locals := 43 }
set_option maxHeartbeats 4000000 in
set_option maxRecDepth 100000 in
theorem c_X_lose (l : Launch) (G : ec_G) (L : mm_L) (F n : Nat) (hI : mm_I (ec_cnt n) L) (σ : mm_M) (a1 : Int32) (a2 : Int32) {out : Int32 × mm_M} (hf : f_X_lose F n σ a1 a2 = some out) :
    Met l y_X_lose (Cond.code y_X_lose b_X_lose 5 (some .int) :: tw_tbl) rm_X_lose (va_Pc [.ref (L 0 0), .int a1, .int a2] (mm_pre G.1 ec_cl (ec_T G) (ec_cnt n) L (ec_E G L n) σ))
      (va_Qi (fun r (_ : Unit) => r = out.1) (fun _ t => mm_pre G.1 ec_cl (ec_T G) (ec_cnt n) L (ec_E G L n) out.2 t) (mm_A (ec_cnt n) L)) 0 0 (mm_A (ec_cnt n) L) := by
  refine Met.ofW (cc := b_X_lose) (maxL := 5) (ret := (some .int)) (by decide) rfl ?_
  intro p e s m args below meth c s₁ B hml hv
  obtain ⟨rfl, hW, hK⟩ := hv
  have hx := B.exec
  have hb := B.bytes
  have hr := B.returns
  have hts0 := atoms_spec (ws := Cond.code y_X_lose b_X_lose 5 (some .int) :: tw_tbl) B.pre
  have hts : ∀ w ∈ tw_tbl, w.before [.ref (L 0 0), .int a1, .int a2].toArray s = true := fun w h => hts0 w (List.mem_cons_of_mem _ h)
  clear hts0
  have hown : s.vm.findClass "TwoPhaseCuts" = some m.cls := findClass_of_methodNamed B.named
  have hlocks := B.notSynchronized
  have hC : CallFix p m c b_X_lose 5 s [.ref (L 0 0), .int a1, .int a2].toArray tw_tbl "TwoPhaseCuts" := ⟨hx, hb, hml, hown, hts⟩
  have hS : va_S (mm_A (ec_cnt n) L) s.heap s.heap [] := va_S.rf
  have hl := lv_entry ([.ref (L 0 0), .int a1, .int a2]) (n := 5) (Nat.le_of_ble_eq_true rfl)
  rw [lg_entry_eq]
  generalize (lg_sl ([.ref (L 0 0), .int a1, .int a2]) ++ List.replicate (5 - (lg_sl ([.ref (L 0 0), .int a1, .int a2])).length) Slot.unset).toArray = ls at hl ⊢
  have hl : lv_has ls 5 [(0, .ref (L 0 0)), (1, .int a1), (2, .int a2)] := hl
  have hW : mm_W G.1 ec_cl (ec_cnt n) L (ec_E G L n) σ s.heap := hW
  clear B
  show W p l e rm_X_lose s m [.ref (L 0 0), .int a1, .int a2].toArray below meth c s.heap [] 0 0 (MQ below (va_Qi (fun r (_ : Unit) => r = out.1) (fun _ t => mm_pre G.1 ec_cl (ec_T G) (ec_cnt n) L (ec_E G L n) out.2 t) (mm_A (ec_cnt n) L)) [.ref (L 0 0), .int a1, .int a2].toArray s 0 0 (mm_A (ec_cnt n) L)) (F0 m 0 ls [])
  unfold f_X_lose at hf
  refine lv_aload_n hx hb d_X_lose_0 rfl (lv_at hl 0 rfl) ?_
  refine lv_iload_n hx hb d_X_lose_1 rfl (lv_at hl 1 rfl) ?_
  refine lv_iload_n hx hb d_X_lose_2 rfl (lv_at hl 2 rfl) ?_
  obtain ⟨u1, hu1, hf⟩ := mm_bind hf
  refine mm_calli (va_runV (As := [.int a1, .int a2]) (rest := []) hC (c_X_isChannel l G L F n hI σ a1 a2 hu1) (cwV 2 hts (tw_gV tw_206 tw_208 ts_1 tw_1 tw_209) rfl rfl rfl (by decide +kernel) ⟨Nat.le_of_ble_eq_true rfl, Nat.le_of_ble_eq_true rfl⟩) (mm_preV hK hW (k := 0) (i := 0) (Nat.zero_lt_one) rfl rfl) rfl rfl hl.1 rfl (lv_room (Nat.le_of_ble_eq_true rfl)) d_X_lose_3 ⟨Nat.zero_le _, Nat.zero_le _⟩) hS (fun _ h => h) (fun H locs hW _ _ hS => ?_)
  refine lv_if_ne (tgt := 11) hx hb d_X_lose_6 (by decide) (fun hc => ?_) (fun hc => ?_)
  · rw [if_neg hc] at hf
    refine lv_aload_n hx hb d_X_lose_11 rfl (lv_at hl 0 rfl) ?_
    refine lv_iload_n hx hb d_X_lose_12 rfl (lv_at hl 1 rfl) ?_
    refine lv_iload_n hx hb d_X_lose_13 rfl (lv_at hl 2 rfl) ?_
    obtain ⟨u2, hu2, hf⟩ := mm_bind hf
    refine mm_callr (va_runV (As := [.int a1, .int a2]) (rest := []) hC (c_X_channelOf l G L F n hI σ a1 a2 hu2) (cwV 2 hts (tw_gV tw_211 tw_213 ts_2 tw_1 tw_214) rfl rfl rfl (by decide +kernel) ⟨Nat.le_of_ble_eq_true rfl, Nat.le_of_ble_eq_true rfl⟩) (mm_preV hK hW (k := 0) (i := 0) (Nat.zero_lt_one) rfl rfl) rfl rfl hl.1 rfl (lv_room (Nat.le_of_ble_eq_true rfl)) d_X_lose_14 ⟨Nat.zero_le _, Nat.zero_le _⟩) hS (fun _ h => h) (fun H locs hbu2 hW _ _ hS => ?_)
    refine lv_astore_n (lv' := [(3, .ref (L 11 u2)), (0, .ref (L 0 0)), (1, .int a1), (2, .int a2)]) hx hb d_X_lose_17 rfl hl (by decide) rfl (fun ls hl => ?_)
    refine lv_aload_n hx hb d_X_lose_18 rfl (lv_at hl 0 rfl) ?_
    refine va_get (D := G.1) (ci := 3) (C := "TwoPhaseCuts$Channel") (T := T_H) (N := 3) (v := .int (σ 11 u2 2)) hx hb hts ui_H hown hK (hW.one (k := 11) (i := u2) hbu2) 0 rfl rfl 2 (by decide) (hts _ tw_111) (fun _ h9 => h9) rfl d_X_lose_19 ?_
    refine lv_if_ne (tgt := 28) hx hb d_X_lose_22 (by decide) (fun hc => ?_) (fun hc => ?_)
    · rw [if_neg hc] at hf
      refine lv_aload_n hx hb d_X_lose_28 rfl (lv_at hl 0 rfl) ?_
      refine va_get (D := G.1) (ci := 3) (C := "TwoPhaseCuts$Channel") (T := T_H) (N := 3) (v := .ref (L 12 u2)) hx hb hts ui_H hown hK (hW.one (k := 11) (i := u2) hbu2) 0 rfl rfl 0 (by decide) (hts _ tw_107) (fun _ h9 => h9) rfl d_X_lose_29 ?_
      refine lv_iconst (v := (0 : Int32)) hx hb d_X_lose_32 (by decide) ?_
      obtain ⟨hg1, hf⟩ := mm_guard hf
      refine va_iald (D := G.1) (cl := ec_cl) hx hb hK (hW.one (k := 12) (i := u2) hbu2) 0 0 rfl rfl (mm_vp hg1) d_X_lose_33 ?_
      refine mm_top (y := (σ 12 u2 (Int32.toNatClampNeg (0 : Int32)))) rfl ?_
      refine lv_istore (lv' := [(4, .int (σ 12 u2 (Int32.toNatClampNeg (0 : Int32)))), (3, .ref (L 11 u2)), (0, .ref (L 0 0)), (1, .int a1), (2, .int a2)]) hx hb d_X_lose_34 hl (by decide) rfl (fun ls hl => ?_)
      refine lv_aload_n hx hb d_X_lose_36 rfl (lv_at hl 1 rfl) ?_
      obtain ⟨u3, hu3, hf⟩ := mm_bind hf
      refine mm_callv (va_runV (As := []) (rest := []) hC (c_H_takeFirst l G L F n hI σ u2 hbu2 hu3) (cwV 0 hts (tw_gV tw_223 tw_224 tw_225 tw_5 tw_226) rfl rfl rfl (by decide +kernel) ⟨Nat.le_of_ble_eq_true rfl, Nat.le_of_ble_eq_true rfl⟩) (mm_preV hK hW (k := 11) (i := u2) hbu2 rfl rfl) rfl rfl hl.1 rfl (lv_room (Nat.le_of_ble_eq_true rfl)) d_X_lose_37 ⟨Nat.zero_le _, Nat.zero_le _⟩) hS (fun _ h => h) (fun H locs hW _ _ hS => ?_)
      refine lv_iload hx hb d_X_lose_40 (lv_at hl 0 rfl) ?_
      obtain rfl := Option.some.inj hf
      exact W.iret (v := (σ 12 u2 (Int32.toNatClampNeg (0 : Int32)))) hx hb hr (fun t ht hw => ⟨⟨_, (), rfl, rfl, (mm_back ht hw hW hK)⟩, hS.F ht⟩) hS.2.2 d_X_lose_42
    · rw [if_pos hc] at hf
      refine lv_bipush (v := (-4 : Int32)) hx hb d_X_lose_25 (by decide) ?_
      obtain rfl := Option.some.inj hf
      exact W.iret (v := (-4 : Int32)) hx hb hr (fun t ht hw => ⟨⟨_, (), rfl, rfl, (mm_back ht hw hW hK)⟩, hS.F ht⟩) hS.2.2 d_X_lose_27
  · rw [if_pos hc] at hf
    refine lv_iconst (v := (-1 : Int32)) hx hb d_X_lose_9 (by decide) ?_
    obtain rfl := Option.some.inj hf
    exact W.iret (v := (-1 : Int32)) hx hb hr (fun t ht hw => ⟨⟨_, (), rfl, rfl, (mm_back ht hw hW hK)⟩, hS.F ht⟩) hS.2.2 d_X_lose_10
abbrev rm_X_join : Room := { frames := 2, cells := 0, slots := 0, locals := 47 }
set_option maxHeartbeats 4000000 in
set_option maxRecDepth 100000 in
theorem w_X_join_l46 (l : Launch) (G : ec_G) (L : mm_L) {p : Program} {e : Env} {s : State} {m : MethodId} {args : Array Value} {below : List Frame} {meth : Method} {c : Code} {H0 : Heap} {Q : State → Prop} (F n : Nat) (hI : mm_I (ec_cnt n) L) (hC : CallFix p m c b_X_join 8 s args tw_tbl "TwoPhaseCuts") (hK : va_K G.1 ec_cl (ec_T G) s) (x1 : Int32) (x2 : Int32) (i4 : Nat) (x5 : Int32) (hi4 : i4 < ec_cnt n 6) {out : mm_M} :
    ∀ (K : Nat) (σ : mm_M) (v6 : Int32) (H : Heap) (locs : List Loc) (ls : Array Slot), f_X_join_l46 F n x1 x2 i4 x5 K σ v6 = some out → mm_W G.1 ec_cl (ec_cnt n) L (ec_E G L n) σ H → va_S (mm_A (ec_cnt n) L) H0 H locs → lv_has ls 8 [(0, .ref (L 0 0)), (1, .int x1), (2, .int x2), (4, .ref (L 6 i4)), (5, .int x5), (6, .int v6)] →
    (∀ (H : Heap) (locs : List Loc) (ls : Array Slot), mm_W G.1 ec_cl (ec_cnt n) L (ec_E G L n) out H → va_S (mm_A (ec_cnt n) L) H0 H locs → lv_has ls 8 [] → W p l e rm_X_join s m args below meth c H locs 0 0 Q (F0 m 163 ls [])) →
    W p l e rm_X_join s m args below meth c H locs 0 0 Q (F0 m 46 ls []) := by
  obtain ⟨hx, hb, hml, hown, hts⟩ := id hC
  intro K
  induction K with
  | zero =>
    intro σ v6 H locs ls hf
    simp [f_X_join_l46] at hf
  | succ K ih =>
    intro σ v6 H locs ls hf hW hS hl kx
    rw [f_X_join_l46] at hf
    refine lv_iload hx hb d_X_join_46 (lv_at hl 5 rfl) ?_
    refine lv_aload_n hx hb d_X_join_48 rfl (lv_at hl 0 rfl) ?_
    refine va_get (D := G.1) (ci := 0) (C := "TwoPhaseCuts") (T := T_X) (N := 7) (v := .int (σ 0 0 0)) hx hb hts ui_X hown hK (hW.one (k := 0) (i := 0) (Nat.zero_lt_one)) 0 rfl rfl 0 (by decide) (hts _ tw_164) (fun _ h9 => h9) rfl d_X_join_49 ?_
    refine lv_icmp_ge (tgt := 163) hx hb d_X_join_52 (by decide) (fun hc => ?_) (fun hc => ?_)
    · rw [if_pos hc] at hf
      obtain rfl := Option.some.inj hf
      exact kx _ _ _ hW hS (lv_sub hl [] rfl)
    · rw [if_neg hc] at hf
      refine lv_aload hx hb d_X_join_55 (lv_at hl 3 rfl) ?_
      refine va_get (D := G.1) (ci := 1) (C := "TwoPhaseCuts$Member") (T := T_M) (N := 12) (v := .ref (L 10 i4)) hx hb hts ui_M hown hK (hW.one (k := 6) (i := i4) hi4) 0 rfl rfl 9 (by decide) (hts _ tw_68) (fun _ h9 => h9) rfl d_X_join_57 ?_
      refine lv_iload hx hb d_X_join_60 (lv_at hl 5 rfl) ?_
      refine lv_iload hx hb d_X_join_62 (lv_at hl 5 rfl) ?_
      refine lv_iload_n hx hb d_X_join_64 rfl (lv_at hl 1 rfl) ?_
      obtain ⟨u1, hu1, hf⟩ := mm_bind hf
      have jp1 : ∀ (H : Heap) (locs : List Loc) (ls : Array Slot), mm_W G.1 ec_cl (ec_cnt n) L (ec_E G L n) σ H → va_S (mm_A (ec_cnt n) L) H0 H locs → lv_has ls 8 [(0, .ref (L 0 0)), (1, .int x1), (2, .int x2), (4, .ref (L 6 i4)), (5, .int x5), (6, .int v6)] → W p l e rm_X_join s m args below meth c H locs 0 0 Q (F0 m 88 ls [.int u1, .int v6, .ref (L 10 i4)]) := by
        intro H locs ls hW hS hl
        obtain ⟨hg1, hf⟩ := mm_guard hf
        obtain ⟨hz2, hf⟩ := mm_guard hf
        refine mm_zast hx hb hK hI hW hS (k := 10) (i := i4) hi4 (fun _ => rfl) (t0 := 1) rfl (mm_vp hg1) hz2 d_X_join_88 (fun H locs hW hS => ?_)
        refine lv_aload hx hb d_X_join_89 (lv_at hl 3 rfl) ?_
        refine va_get (D := G.1) (ci := 1) (C := "TwoPhaseCuts$Member") (T := T_M) (N := 12) (v := .ref (L 10 i4)) hx hb hts ui_M hown hK (hW.one (k := 6) (i := i4) hi4) 0 rfl rfl 9 (by decide) (hts _ tw_68) (fun _ h9 => h9) rfl d_X_join_91 ?_
        refine lv_iload hx hb d_X_join_94 (lv_at hl 5 rfl) ?_
        refine va_zald (D := G.1) (cl := ec_cl) hx hb hK (hW.one (k := 10) (i := i4) hi4) 0 1 rfl rfl (mm_vp hg1) d_X_join_96 ?_
        refine mm_top (y := ((mm_st σ 10 i4 (Int32.toNatClampNeg v6) u1) 10 i4 (Int32.toNatClampNeg v6))) rfl ?_
        obtain ⟨u2, hu2, hf⟩ := mm_bind hf
        have jp2 : ∀ (H : Heap) (locs : List Loc) (ls : Array Slot), mm_W G.1 ec_cl (ec_cnt n) L (ec_E G L n) u2 H → va_S (mm_A (ec_cnt n) L) H0 H locs → lv_has ls 8 [(0, .ref (L 0 0)), (1, .int x1), (2, .int x2), (4, .ref (L 6 i4)), (5, .int x5), (6, .int v6)] → W p l e rm_X_join s m args below meth c H locs 0 0 Q (F0 m 157 ls []) := by
          intro H locs ls hW hS hl
          refine lv_iinc (v := (v6 + (1 : Int32))) (lv' := [(6, .int (v6 + (1 : Int32))), (0, .ref (L 0 0)), (1, .int x1), (2, .int x2), (4, .ref (L 6 i4)), (5, .int x5)]) hx hb d_X_join_157 hl (k := 5) rfl (mm_inc _) (by decide) rfl (fun ls hl => ?_)
          refine lv_goto (tgt := 46) hx hb d_X_join_160 (by decide) ?_
          exact ih _ _ _ _ _ hf hW hS (lv_sub hl [1, 2, 3, 4, 5, 0] rfl) kx
        clear hf
        have hf := hu2
        clear hu2
        refine lv_if_eq (tgt := 157) hx hb d_X_join_97 (by decide) (fun hc => ?_) (fun hc => ?_)
        · rw [if_pos hc] at hf
          obtain rfl := Option.some.inj hf
          exact jp2 _ _ _ hW hS (lv_sub hl [0, 1, 2, 3, 4, 5] rfl)
        · rw [if_neg hc] at hf
          refine lv_aload hx hb d_X_join_100 (lv_at hl 3 rfl) ?_
          refine lv_dup hx hb d_X_join_102 rfl ?_
          refine va_get (D := G.1) (ci := 1) (C := "TwoPhaseCuts$Member") (T := T_M) (N := 12) (v := .int (σ 6 i4 10)) hx hb hts ui_M hown hK (hW.one (k := 6) (i := i4) hi4) 0 rfl rfl 10 (by decide) (hts _ tw_70) (fun _ h9 => h9) rfl d_X_join_103 ?_
          refine lv_iconst (v := (1 : Int32)) hx hb d_X_join_106 (by decide) ?_
          refine lv_iadd hx hb d_X_join_107 ?_
          refine mm_put (D := G.1) (ci := 1) (C := "TwoPhaseCuts$Member") (T := T_M) (N := 12) (x := ((σ 6 i4 10) + (1 : Int32))) hx hb hts ui_M ty_M tyo_M nmo_M hown hK hI hW hS (k := 6) (i := i4) hi4 rfl rfl 10 (by decide) (hts _ tw_70) (fun _ h9 => h9) rfl (ty := .int) (by decide +kernel) (vp_nar_int _) rfl (Nat.le_of_ble_eq_true rfl) rfl d_X_join_108 (fun H locs hW hS => ?_)
          refine lv_iload hx hb d_X_join_111 (lv_at hl 4 rfl) ?_
          obtain ⟨u3, hu3, hf⟩ := mm_bind hf
          have jp3 : ∀ (H : Heap) (locs : List Loc) (ls : Array Slot), mm_W G.1 ec_cl (ec_cnt n) L (ec_E G L n) (mm_st (mm_st σ 10 i4 (Int32.toNatClampNeg v6) u1) 6 i4 10 ((σ 6 i4 10) + (1 : Int32))) H → va_S (mm_A (ec_cnt n) L) H0 H locs → lv_has ls 8 [(0, .ref (L 0 0)), (1, .int x1), (2, .int x2), (4, .ref (L 6 i4)), (5, .int x5), (6, .int v6)] → W p l e rm_X_join s m args below meth c H locs 0 0 Q (F0 m 141 ls [.int u3]) := by
            intro H locs ls hW hS hl
            refine lv_istore (lv' := [(7, .int u3), (0, .ref (L 0 0)), (1, .int x1), (2, .int x2), (4, .ref (L 6 i4)), (5, .int x5), (6, .int v6)]) hx hb d_X_join_141 hl (by decide) rfl (fun ls hl => ?_)
            refine lv_aload_n hx hb d_X_join_143 rfl (lv_at hl 1 rfl) ?_
            refine va_get (D := G.1) (ci := 0) (C := "TwoPhaseCuts") (T := T_X) (N := 7) (v := .ref (L 3 0)) hx hb hts ui_X hown hK (hW.one (k := 0) (i := 0) (Nat.zero_lt_one)) 0 rfl rfl 3 (by decide) (hts _ tw_167) (fun _ h9 => h9) rfl d_X_join_144 ?_
            refine lv_iconst (v := (0 : Int32)) hx hb d_X_join_147 (by decide) ?_
            refine lv_iload_n hx hb d_X_join_148 rfl (lv_at hl 3 rfl) ?_
            refine lv_iload_n hx hb d_X_join_149 rfl (lv_at hl 2 rfl) ?_
            refine lv_iload hx hb d_X_join_150 (lv_at hl 6 rfl) ?_
            refine lv_iload hx hb d_X_join_152 (lv_at hl 0 rfl) ?_
            obtain ⟨u4, hu4, hf⟩ := mm_bind hf
            refine mm_callv (va_runV (As := [.int (0 : Int32), .int x2, .int x1, .int v6, .int u3]) (rest := []) hC (c_L_add l G L F n hI (mm_st (mm_st σ 10 i4 (Int32.toNatClampNeg v6) u1) 6 i4 10 ((σ 6 i4 10) + (1 : Int32))) (0 : Int32) x2 x1 v6 u3 hu4) (cwV 5 hts (tw_gV tw_256 tw_257 tw_258 tw_6 tw_259) rfl rfl rfl (by decide +kernel) ⟨Nat.le_of_ble_eq_true rfl, Nat.le_of_ble_eq_true rfl⟩) (mm_preV hK hW (k := 3) (i := 0) (Nat.zero_lt_one) rfl rfl) rfl rfl hl.1 rfl (lv_room (Nat.le_of_ble_eq_true rfl)) d_X_join_154 ⟨Nat.zero_le _, Nat.zero_le _⟩) hS (fun _ h => h) (fun H locs hW _ _ hS => ?_)
            obtain rfl := Option.some.inj hf
            exact jp2 _ _ _ hW hS (lv_sub hl [1, 2, 3, 4, 5, 6] rfl)
          clear hf
          have hf := hu3
          clear hu3
          refine lv_if_eq (tgt := 130) hx hb d_X_join_113 (by decide) (fun hc => ?_) (fun hc => ?_)
          · rw [if_pos hc] at hf
            refine lv_aload hx hb d_X_join_130 (lv_at hl 3 rfl) ?_
            refine va_get (D := G.1) (ci := 1) (C := "TwoPhaseCuts$Member") (T := T_M) (N := 12) (v := .ref (L 7 (3 * i4))) hx hb hts ui_M hown hK (hW.one (k := 6) (i := i4) hi4) 0 rfl rfl 0 (by decide) (hts _ tw_53) (fun _ h9 => h9) rfl d_X_join_132 ?_
            refine va_get (D := G.1) (ci := 2) (C := "TwoPhaseCuts$State") (T := T_S) (N := 3) (v := .ref (L 9 (3 * i4))) hx hb hts ui_S hown hK (hW.one (k := 7) (i := (3 * i4)) (ec_h0 hi4)) 0 rfl rfl 2 (by decide) (hts _ tw_43) (fun _ h9 => h9) rfl d_X_join_135 ?_
            refine lv_iload hx hb d_X_join_138 (lv_at hl 5 rfl) ?_
            refine va_iald (D := G.1) (cl := ec_cl) hx hb hK (hW.one (k := 9) (i := (3 * i4)) (ec_h0 hi4)) 0 0 rfl rfl (mm_vp hg1) d_X_join_140 ?_
            refine mm_top (y := (σ 9 (3 * i4) (Int32.toNatClampNeg v6))) rfl ?_
            obtain rfl := Option.some.inj hf
            exact jp3 _ _ _ hW hS (lv_sub hl [0, 1, 2, 3, 4, 5] rfl)
          · rw [if_neg hc] at hf
            refine lv_aload hx hb d_X_join_116 (lv_at hl 3 rfl) ?_
            refine va_get (D := G.1) (ci := 1) (C := "TwoPhaseCuts$Member") (T := T_M) (N := 12) (v := .ref (L 7 (3 * i4 + 1))) hx hb hts ui_M hown hK (hW.one (k := 6) (i := i4) hi4) 0 rfl rfl 1 (by decide) (hts _ tw_55) (fun _ h9 => h9) rfl d_X_join_118 ?_
            refine va_get (D := G.1) (ci := 2) (C := "TwoPhaseCuts$State") (T := T_S) (N := 3) (v := .ref (L 8 (3 * i4 + 1))) hx hb hts ui_S hown hK (hW.one (k := 7) (i := (3 * i4 + 1)) (ec_h1 hi4)) 0 rfl rfl 1 (by decide) (hts _ tw_39) (fun _ h9 => h9) rfl d_X_join_121 ?_
            refine lv_iload hx hb d_X_join_124 (lv_at hl 5 rfl) ?_
            refine va_iald (D := G.1) (cl := ec_cl) hx hb hK (hW.one (k := 8) (i := (3 * i4 + 1)) (ec_h1 hi4)) 0 0 rfl rfl (mm_vp hg1) d_X_join_126 ?_
            refine mm_top (y := (σ 8 (3 * i4 + 1) (Int32.toNatClampNeg v6))) rfl ?_
            refine lv_goto (tgt := 141) hx hb d_X_join_127 (by decide) ?_
            obtain rfl := Option.some.inj hf
            exact jp3 _ _ _ hW hS (lv_sub hl [0, 1, 2, 3, 4, 5] rfl)
      clear hf
      have hf := hu1
      clear hu1
      refine lv_icmp_eq (tgt := 87) hx hb d_X_join_65 (by decide) (fun hc => ?_) (fun hc => ?_)
      · rw [if_pos hc] at hf
        refine lv_iconst (v := (0 : Int32)) hx hb d_X_join_87 (by decide) ?_
        obtain rfl := Option.some.inj hf
        exact jp1 _ _ _ hW hS (lv_sub hl [0, 1, 2, 3, 4, 5] rfl)
      · rw [if_neg hc] at hf
        refine lv_iload hx hb d_X_join_68 (lv_at hl 4 rfl) ?_
        refine lv_if_ne (tgt := 83) hx hb d_X_join_70 (by decide) (fun hc => ?_) (fun hc => ?_)
        · rw [if_neg hc] at hf
          refine lv_iconst (v := (1 : Int32)) hx hb d_X_join_83 (by decide) ?_
          refine lv_goto (tgt := 88) hx hb d_X_join_84 (by decide) ?_
          obtain rfl := Option.some.inj hf
          exact jp1 _ _ _ hW hS (lv_sub hl [0, 1, 2, 3, 4, 5] rfl)
        · rw [if_pos hc] at hf
          refine lv_aload hx hb d_X_join_73 (lv_at hl 3 rfl) ?_
          refine lv_iload hx hb d_X_join_75 (lv_at hl 5 rfl) ?_
          obtain ⟨u5, hu5, hf⟩ := mm_bind hf
          refine mm_calli (va_runV (As := [.int v6]) (rest := [.int v6, .ref (L 10 i4)]) hC (c_M_hasNewReceiptFrom l G L F n hI σ i4 v6 hi4 hu5) (cwV 1 hts (tw_gV tw_252 tw_253 tw_254 tw_3 tw_255) rfl rfl rfl (by decide +kernel) ⟨Nat.le_of_ble_eq_true rfl, Nat.le_of_ble_eq_true rfl⟩) (mm_preV hK hW (k := 6) (i := i4) hi4 rfl rfl) rfl rfl hl.1 rfl (lv_room (Nat.le_of_ble_eq_true rfl)) d_X_join_77 ⟨Nat.zero_le _, Nat.zero_le _⟩) hS (fun _ h => h) (fun H locs hW _ _ hS => ?_)
          refine lv_if_eq (tgt := 87) hx hb d_X_join_80 (by decide) (fun hc => ?_) (fun hc => ?_)
          · rw [if_pos hc] at hf
            refine lv_iconst (v := (0 : Int32)) hx hb d_X_join_87 (by decide) ?_
            obtain rfl := Option.some.inj hf
            exact jp1 _ _ _ hW hS (lv_sub hl [0, 1, 2, 3, 4, 5] rfl)
          · rw [if_neg hc] at hf
            refine lv_iconst (v := (1 : Int32)) hx hb d_X_join_83 (by decide) ?_
            refine lv_goto (tgt := 88) hx hb d_X_join_84 (by decide) ?_
            obtain rfl := Option.some.inj hf
            exact jp1 _ _ _ hW hS (lv_sub hl [0, 1, 2, 3, 4, 5] rfl)
set_option maxHeartbeats 4000000 in
set_option maxRecDepth 100000 in
theorem c_X_join (l : Launch) (G : ec_G) (L : mm_L) (F n : Nat) (hI : mm_I (ec_cnt n) L) (σ : mm_M) (a1 : Int32) (a2 : Int32) (a3 : Int32) {out : mm_M} (hf : f_X_join F n σ a1 a2 a3 = some out) :
    Met l y_X_join (Cond.code y_X_join b_X_join 8 none :: tw_tbl) rm_X_join (va_Pc [.ref (L 0 0), .int a1, .int a2, .int a3] (mm_pre G.1 ec_cl (ec_T G) (ec_cnt n) L (ec_E G L n) σ))
      (va_Qv (fun (_ : Unit) => True) (fun _ t => mm_pre G.1 ec_cl (ec_T G) (ec_cnt n) L (ec_E G L n) out t) (mm_A (ec_cnt n) L)) 0 0 (mm_A (ec_cnt n) L) := by
  refine Met.ofW (cc := b_X_join) (maxL := 8) (ret := none) (by decide) rfl ?_
  intro p e s m args below meth c s₁ B hml hv
  obtain ⟨rfl, hW, hK⟩ := hv
  have hx := B.exec
  have hb := B.bytes
  have hr := B.returns
  have hts0 := atoms_spec (ws := Cond.code y_X_join b_X_join 8 none :: tw_tbl) B.pre
  have hts : ∀ w ∈ tw_tbl, w.before [.ref (L 0 0), .int a1, .int a2, .int a3].toArray s = true := fun w h => hts0 w (List.mem_cons_of_mem _ h)
  clear hts0
  have hown : s.vm.findClass "TwoPhaseCuts" = some m.cls := findClass_of_methodNamed B.named
  have hlocks := B.notSynchronized
  have hC : CallFix p m c b_X_join 8 s [.ref (L 0 0), .int a1, .int a2, .int a3].toArray tw_tbl "TwoPhaseCuts" := ⟨hx, hb, hml, hown, hts⟩
  have hS : va_S (mm_A (ec_cnt n) L) s.heap s.heap [] := va_S.rf
  have hl := lv_entry ([.ref (L 0 0), .int a1, .int a2, .int a3]) (n := 8) (Nat.le_of_ble_eq_true rfl)
  rw [lg_entry_eq]
  generalize (lg_sl ([.ref (L 0 0), .int a1, .int a2, .int a3]) ++ List.replicate (8 - (lg_sl ([.ref (L 0 0), .int a1, .int a2, .int a3])).length) Slot.unset).toArray = ls at hl ⊢
  have hl : lv_has ls 8 [(0, .ref (L 0 0)), (1, .int a1), (2, .int a2), (3, .int a3)] := hl
  have hW : mm_W G.1 ec_cl (ec_cnt n) L (ec_E G L n) σ s.heap := hW
  clear B
  show W p l e rm_X_join s m [.ref (L 0 0), .int a1, .int a2, .int a3].toArray below meth c s.heap [] 0 0 (MQ below (va_Qv (fun (_ : Unit) => True) (fun _ t => mm_pre G.1 ec_cl (ec_T G) (ec_cnt n) L (ec_E G L n) out t) (mm_A (ec_cnt n) L)) [.ref (L 0 0), .int a1, .int a2, .int a3].toArray s 0 0 (mm_A (ec_cnt n) L)) (F0 m 0 ls [])
  unfold f_X_join at hf
  refine lv_aload_n hx hb d_X_join_0 rfl (lv_at hl 0 rfl) ?_
  refine va_get (D := G.1) (ci := 0) (C := "TwoPhaseCuts") (T := T_X) (N := 7) (v := .ref (L 1 0)) hx hb hts ui_X hown hK (hW.one (k := 0) (i := 0) (Nat.zero_lt_one)) 0 rfl rfl 1 (by decide) (hts _ tw_165) (fun _ h9 => h9) rfl d_X_join_1 ?_
  refine lv_iload_n hx hb d_X_join_4 rfl (lv_at hl 1 rfl) ?_
  obtain ⟨hg1, hf⟩ := mm_guard hf
  refine va_aldq (D := G.1) (cl := ec_cl) hx hb hK (hW.one (k := 1) (i := 0) (Nat.zero_lt_one)) 0 2 rfl rfl (mm_vp hg1) d_X_join_5 ?_
  refine lv_astore (lv' := [(4, .ref (L 6 (Int32.toNatClampNeg a1))), (0, .ref (L 0 0)), (1, .int a1), (2, .int a2), (3, .int a3)]) hx hb d_X_join_6 hl (by decide) rfl (fun ls hl => ?_)
  refine lv_aload_n hx hb d_X_join_8 rfl (lv_at hl 1 rfl) ?_
  refine va_get (D := G.1) (ci := 0) (C := "TwoPhaseCuts") (T := T_X) (N := 7) (v := .ref (L 4 0)) hx hb hts ui_X hown hK (hW.one (k := 0) (i := 0) (Nat.zero_lt_one)) 0 rfl rfl 4 (by decide) (hts _ tw_168) (fun _ h9 => h9) rfl d_X_join_9 ?_
  refine lv_iload_n hx hb d_X_join_12 rfl (lv_at hl 3 rfl) ?_
  obtain ⟨hg2, hf⟩ := mm_guard hf
  refine va_zald (D := G.1) (cl := ec_cl) hx hb hK (hW.one (k := 4) (i := 0) (Nat.zero_lt_one)) 0 1 rfl rfl (mm_vp hg2) d_X_join_13 ?_
  refine mm_top (y := (σ 4 0 (Int32.toNatClampNeg a2))) rfl ?_
  refine lv_istore (lv' := [(5, .int (σ 4 0 (Int32.toNatClampNeg a2))), (4, .ref (L 6 (Int32.toNatClampNeg a1))), (0, .ref (L 0 0)), (1, .int a1), (2, .int a2), (3, .int a3)]) hx hb d_X_join_14 hl (by decide) rfl (fun ls hl => ?_)
  refine lv_aload hx hb d_X_join_16 (lv_at hl 1 rfl) ?_
  refine lv_iload_n hx hb d_X_join_18 rfl (lv_at hl 4 rfl) ?_
  refine lv_iload hx hb d_X_join_19 (lv_at hl 0 rfl) ?_
  refine lv_iload_n hx hb d_X_join_21 rfl (lv_at hl 5 rfl) ?_
  obtain ⟨u1, hu1, hf⟩ := mm_bind hf
  refine mm_callv (va_runV (As := [.int a2, .int (σ 4 0 (Int32.toNatClampNeg a2)), .int a3]) (rest := []) hC (c_M_enter l G L F n hI σ (Int32.toNatClampNeg a1) a2 (σ 4 0 (Int32.toNatClampNeg a2)) a3 (mm_nat hg1) hu1) (cwV 3 hts (tw_gV tw_244 tw_245 tw_246 tw_3 tw_247) rfl rfl rfl (by decide +kernel) ⟨Nat.le_of_ble_eq_true rfl, Nat.le_of_ble_eq_true rfl⟩) (mm_preV hK hW (k := 6) (i := (Int32.toNatClampNeg a1)) (mm_nat hg1) rfl rfl) rfl rfl hl.1 rfl (lv_room (Nat.le_of_ble_eq_true rfl)) d_X_join_22 ⟨Nat.zero_le _, Nat.zero_le _⟩) hS (fun _ h => h) (fun H locs hW _ _ hS => ?_)
  refine lv_iload hx hb d_X_join_25 (lv_at hl 0 rfl) ?_
  obtain ⟨u2, hu2, hf⟩ := mm_bind hf
  have jp1 : ∀ (H : Heap) (locs : List Loc) (ls : Array Slot), mm_W G.1 ec_cl (ec_cnt n) L (ec_E G L n) u2 H → va_S (mm_A (ec_cnt n) L) s.heap H locs → lv_has ls 8 [(0, .ref (L 0 0)), (1, .int a1), (2, .int a2), (4, .ref (L 6 (Int32.toNatClampNeg a1))), (5, .int (σ 4 0 (Int32.toNatClampNeg a2)))] → W p l e rm_X_join s m [.ref (L 0 0), .int a1, .int a2, .int a3].toArray below meth c H locs 0 0 (MQ below (va_Qv (fun (_ : Unit) => True) (fun _ t => mm_pre G.1 ec_cl (ec_T G) (ec_cnt n) L (ec_E G L n) out t) (mm_A (ec_cnt n) L)) [.ref (L 0 0), .int a1, .int a2, .int a3].toArray s 0 0 (mm_A (ec_cnt n) L)) (F0 m 43 ls []) := by
    intro H locs ls hW hS hl
    refine lv_iconst (v := (0 : Int32)) hx hb d_X_join_43 (by decide) ?_
    refine lv_istore (lv' := [(6, .int (0 : Int32)), (0, .ref (L 0 0)), (1, .int a1), (2, .int a2), (4, .ref (L 6 (Int32.toNatClampNeg a1))), (5, .int (σ 4 0 (Int32.toNatClampNeg a2)))]) hx hb d_X_join_44 hl (by decide) rfl (fun ls hl => ?_)
    obtain ⟨u3, hu3, hf⟩ := mm_bind hf
    refine w_X_join_l46 l G L F n hI hC hK a1 a2 (Int32.toNatClampNeg a1) (σ 4 0 (Int32.toNatClampNeg a2)) (mm_nat hg1) F u2 (0 : Int32) _ _ _ hu3 hW hS (lv_sub hl [1, 2, 3, 4, 5, 0] rfl) (fun H locs ls hW hS hl => ?_)
    obtain rfl := Option.some.inj hf
    exact W.vret hx hb hr (fun t ht hw => ⟨⟨(), rfl, trivial, (mm_back ht hw hW hK)⟩, hS.F ht⟩) hS.2.2 d_X_join_163
  clear hf
  have hf := hu2
  clear hu2
  refine lv_if_ne (tgt := 43) hx hb d_X_join_27 (by decide) (fun hc => ?_) (fun hc => ?_)
  · rw [if_neg hc] at hf
    obtain rfl := Option.some.inj hf
    exact jp1 _ _ _ hW hS (lv_sub hl [2, 3, 4, 1, 0] rfl)
  · rw [if_pos hc] at hf
    refine lv_aload hx hb d_X_join_30 (lv_at hl 1 rfl) ?_
    refine va_get (D := G.1) (ci := 1) (C := "TwoPhaseCuts$Member") (T := T_M) (N := 12) (v := .ref (L 7 (3 * (Int32.toNatClampNeg a1) + 2))) hx hb hts ui_M hown hK (hW.one (k := 6) (i := (Int32.toNatClampNeg a1)) (mm_nat hg1)) 0 rfl rfl 2 (by decide) (hts _ tw_57) (fun _ h9 => h9) rfl d_X_join_32 ?_
    refine lv_aload hx hb d_X_join_35 (lv_at hl 1 rfl) ?_
    refine va_get (D := G.1) (ci := 1) (C := "TwoPhaseCuts$Member") (T := T_M) (N := 12) (v := .ref (L 7 (3 * (Int32.toNatClampNeg a1)))) hx hb hts ui_M hown hK (hW.one (k := 6) (i := (Int32.toNatClampNeg a1)) (mm_nat hg1)) 0 rfl rfl 0 (by decide) (hts _ tw_53) (fun _ h9 => h9) rfl d_X_join_37 ?_
    obtain ⟨u4, hu4, hf⟩ := mm_bind hf
    refine mm_callv (va_runV (As := [.ref (L 7 (3 * (Int32.toNatClampNeg a1)))]) (rest := []) hC (c_S_copyFrom l G L F n hI u1 (3 * (Int32.toNatClampNeg a1) + 2) (3 * (Int32.toNatClampNeg a1)) (ec_h2 (mm_nat hg1)) (ec_h0 (mm_nat hg1)) hu4) (cwV 1 hts (tw_gV tw_248 tw_249 tw_250 tw_4 tw_251) rfl rfl rfl (by decide +kernel) ⟨Nat.le_of_ble_eq_true rfl, Nat.le_of_ble_eq_true rfl⟩) (mm_preV hK hW (k := 7) (i := (3 * (Int32.toNatClampNeg a1) + 2)) (ec_h2 (mm_nat hg1)) rfl rfl) rfl rfl hl.1 rfl (lv_room (Nat.le_of_ble_eq_true rfl)) d_X_join_40 ⟨Nat.zero_le _, Nat.zero_le _⟩) hS (fun _ h => h) (fun H locs hW _ _ hS => ?_)
    obtain rfl := Option.some.inj hf
    exact jp1 _ _ _ hW hS (lv_sub hl [2, 3, 4, 1, 0] rfl)
abbrev rm_X_rollBack : Room := { frames := 1, cells := 0, slots := 0, locals := 23 }
set_option maxHeartbeats 4000000 in
set_option maxRecDepth 100000 in
theorem w_X_rollBack_l20 (l : Launch) (G : ec_G) (L : mm_L) {p : Program} {e : Env} {s : State} {m : MethodId} {args : Array Value} {below : List Frame} {meth : Method} {c : Code} {H0 : Heap} {Q : State → Prop} (F n : Nat) (hI : mm_I (ec_cnt n) L) (hC : CallFix p m c b_X_rollBack 4 s args tw_tbl "TwoPhaseCuts") (hK : va_K G.1 ec_cl (ec_T G) s) (x1 : Int32) (i2 : Nat) (hi2 : i2 < ec_cnt n 6) {out : mm_M} :
    ∀ (K : Nat) (σ : mm_M) (v3 : Int32) (H : Heap) (locs : List Loc) (ls : Array Slot), f_X_rollBack_l20 F n x1 i2 K σ v3 = some out → mm_W G.1 ec_cl (ec_cnt n) L (ec_E G L n) σ H → va_S (mm_A (ec_cnt n) L) H0 H locs → lv_has ls 4 [(0, .ref (L 0 0)), (1, .int x1), (2, .ref (L 6 i2)), (3, .int v3)] →
    (∀ (H : Heap) (locs : List Loc) (ls : Array Slot), mm_W G.1 ec_cl (ec_cnt n) L (ec_E G L n) out H → va_S (mm_A (ec_cnt n) L) H0 H locs → lv_has ls 4 [(2, .ref (L 6 i2))] → W p l e rm_X_rollBack s m args below meth c H locs 0 0 Q (F0 m 52 ls [])) →
    W p l e rm_X_rollBack s m args below meth c H locs 0 0 Q (F0 m 20 ls []) := by
  obtain ⟨hx, hb, hml, hown, hts⟩ := id hC
  intro K
  induction K with
  | zero =>
    intro σ v3 H locs ls hf
    simp [f_X_rollBack_l20] at hf
  | succ K ih =>
    intro σ v3 H locs ls hf hW hS hl kx
    rw [f_X_rollBack_l20] at hf
    refine lv_iload_n hx hb d_X_rollBack_20 rfl (lv_at hl 3 rfl) ?_
    refine lv_aload_n hx hb d_X_rollBack_21 rfl (lv_at hl 0 rfl) ?_
    refine va_get (D := G.1) (ci := 0) (C := "TwoPhaseCuts") (T := T_X) (N := 7) (v := .int (σ 0 0 0)) hx hb hts ui_X hown hK (hW.one (k := 0) (i := 0) (Nat.zero_lt_one)) 0 rfl rfl 0 (by decide) (hts _ tw_164) (fun _ h9 => h9) rfl d_X_rollBack_22 ?_
    refine lv_icmp_ge (tgt := 52) hx hb d_X_rollBack_25 (by decide) (fun hc => ?_) (fun hc => ?_)
    · rw [if_pos hc] at hf
      obtain rfl := Option.some.inj hf
      exact kx _ _ _ hW hS (lv_sub hl [2] rfl)
    · rw [if_neg hc] at hf
      refine lv_aload_n hx hb d_X_rollBack_28 rfl (lv_at hl 0 rfl) ?_
      refine lv_iload_n hx hb d_X_rollBack_29 rfl (lv_at hl 1 rfl) ?_
      refine lv_iload_n hx hb d_X_rollBack_30 rfl (lv_at hl 3 rfl) ?_
      obtain ⟨u1, hu1, hf⟩ := mm_bind hf
      refine mm_callr (va_runV (As := [.int x1, .int v3]) (rest := []) hC (c_X_channelOf l G L F n hI σ x1 v3 hu1) (cwV 2 hts (tw_gV tw_211 tw_213 ts_2 tw_1 tw_214) rfl rfl rfl (by decide +kernel) ⟨Nat.le_of_ble_eq_true rfl, Nat.le_of_ble_eq_true rfl⟩) (mm_preV hK hW (k := 0) (i := 0) (Nat.zero_lt_one) rfl rfl) rfl rfl hl.1 rfl (lv_room (Nat.le_of_ble_eq_true rfl)) d_X_rollBack_31 ⟨Nat.zero_le _, Nat.zero_le _⟩) hS (fun _ h => h) (fun H locs hbu1 hW _ _ hS => ?_)
      refine lv_aload_n hx hb d_X_rollBack_34 rfl (lv_at hl 2 rfl) ?_
      refine va_get (D := G.1) (ci := 1) (C := "TwoPhaseCuts$Member") (T := T_M) (N := 12) (v := .ref (L 7 (3 * i2))) hx hb hts ui_M hown hK (hW.one (k := 6) (i := i2) hi2) 0 rfl rfl 0 (by decide) (hts _ tw_53) (fun _ h9 => h9) rfl d_X_rollBack_35 ?_
      refine va_get (D := G.1) (ci := 2) (C := "TwoPhaseCuts$State") (T := T_S) (N := 3) (v := .ref (L 8 (3 * i2))) hx hb hts ui_S hown hK (hW.one (k := 7) (i := (3 * i2)) (ec_h0 hi2)) 0 rfl rfl 1 (by decide) (hts _ tw_39) (fun _ h9 => h9) rfl d_X_rollBack_38 ?_
      refine lv_iload_n hx hb d_X_rollBack_41 rfl (lv_at hl 3 rfl) ?_
      obtain ⟨hg1, hf⟩ := mm_guard hf
      refine va_iald (D := G.1) (cl := ec_cl) hx hb hK (hW.one (k := 8) (i := (3 * i2)) (ec_h0 hi2)) 0 0 rfl rfl (mm_vp hg1) d_X_rollBack_42 ?_
      refine mm_top (y := (σ 8 (3 * i2) (Int32.toNatClampNeg v3))) rfl ?_
      obtain ⟨u2, hu2, hf⟩ := mm_bind hf
      refine mm_callv (va_runV (As := [.int (σ 8 (3 * i2) (Int32.toNatClampNeg v3))]) (rest := []) hC (c_H_takeAbove l G L F n hI σ u1 (σ 8 (3 * i2) (Int32.toNatClampNeg v3)) hbu1 hu2) (cwV 1 hts (tw_gV tw_276 tw_277 tw_278 tw_5 tw_279) rfl rfl rfl (by decide +kernel) ⟨Nat.le_of_ble_eq_true rfl, Nat.le_of_ble_eq_true rfl⟩) (mm_preV hK hW (k := 11) (i := u1) hbu1 rfl rfl) rfl rfl hl.1 rfl (lv_room (Nat.le_of_ble_eq_true rfl)) d_X_rollBack_43 ⟨Nat.zero_le _, Nat.zero_le _⟩) hS (fun _ h => h) (fun H locs hW _ _ hS => ?_)
      refine lv_iinc (v := (v3 + (1 : Int32))) (lv' := [(3, .int (v3 + (1 : Int32))), (0, .ref (L 0 0)), (1, .int x1), (2, .ref (L 6 i2))]) hx hb d_X_rollBack_46 hl (k := 3) rfl (mm_inc _) (by decide) rfl (fun ls hl => ?_)
      refine lv_goto (tgt := 20) hx hb d_X_rollBack_49 (by decide) ?_
      exact ih _ _ _ _ _ hf hW hS (lv_sub hl [1, 2, 3, 0] rfl) kx
set_option maxHeartbeats 4000000 in
set_option maxRecDepth 100000 in
theorem c_X_rollBack (l : Launch) (G : ec_G) (L : mm_L) (F n : Nat) (hI : mm_I (ec_cnt n) L) (σ : mm_M) (a1 : Int32) {out : mm_M} (hf : f_X_rollBack F n σ a1 = some out) :
    Met l y_X_rollBack (Cond.code y_X_rollBack b_X_rollBack 4 none :: tw_tbl) rm_X_rollBack (va_Pc [.ref (L 0 0), .int a1] (mm_pre G.1 ec_cl (ec_T G) (ec_cnt n) L (ec_E G L n) σ))
      (va_Qv (fun (_ : Unit) => True) (fun _ t => mm_pre G.1 ec_cl (ec_T G) (ec_cnt n) L (ec_E G L n) out t) (mm_A (ec_cnt n) L)) 0 0 (mm_A (ec_cnt n) L) := by
  refine Met.ofW (cc := b_X_rollBack) (maxL := 4) (ret := none) (by decide) rfl ?_
  intro p e s m args below meth c s₁ B hml hv
  obtain ⟨rfl, hW, hK⟩ := hv
  have hx := B.exec
  have hb := B.bytes
  have hr := B.returns
  have hts0 := atoms_spec (ws := Cond.code y_X_rollBack b_X_rollBack 4 none :: tw_tbl) B.pre
  have hts : ∀ w ∈ tw_tbl, w.before [.ref (L 0 0), .int a1].toArray s = true := fun w h => hts0 w (List.mem_cons_of_mem _ h)
  clear hts0
  have hown : s.vm.findClass "TwoPhaseCuts" = some m.cls := findClass_of_methodNamed B.named
  have hlocks := B.notSynchronized
  have hC : CallFix p m c b_X_rollBack 4 s [.ref (L 0 0), .int a1].toArray tw_tbl "TwoPhaseCuts" := ⟨hx, hb, hml, hown, hts⟩
  have hS : va_S (mm_A (ec_cnt n) L) s.heap s.heap [] := va_S.rf
  have hl := lv_entry ([.ref (L 0 0), .int a1]) (n := 4) (Nat.le_of_ble_eq_true rfl)
  rw [lg_entry_eq]
  generalize (lg_sl ([.ref (L 0 0), .int a1]) ++ List.replicate (4 - (lg_sl ([.ref (L 0 0), .int a1])).length) Slot.unset).toArray = ls at hl ⊢
  have hl : lv_has ls 4 [(0, .ref (L 0 0)), (1, .int a1)] := hl
  have hW : mm_W G.1 ec_cl (ec_cnt n) L (ec_E G L n) σ s.heap := hW
  clear B
  show W p l e rm_X_rollBack s m [.ref (L 0 0), .int a1].toArray below meth c s.heap [] 0 0 (MQ below (va_Qv (fun (_ : Unit) => True) (fun _ t => mm_pre G.1 ec_cl (ec_T G) (ec_cnt n) L (ec_E G L n) out t) (mm_A (ec_cnt n) L)) [.ref (L 0 0), .int a1].toArray s 0 0 (mm_A (ec_cnt n) L)) (F0 m 0 ls [])
  unfold f_X_rollBack at hf
  refine lv_aload_n hx hb d_X_rollBack_0 rfl (lv_at hl 0 rfl) ?_
  refine va_get (D := G.1) (ci := 0) (C := "TwoPhaseCuts") (T := T_X) (N := 7) (v := .ref (L 1 0)) hx hb hts ui_X hown hK (hW.one (k := 0) (i := 0) (Nat.zero_lt_one)) 0 rfl rfl 1 (by decide) (hts _ tw_165) (fun _ h9 => h9) rfl d_X_rollBack_1 ?_
  refine lv_iload_n hx hb d_X_rollBack_4 rfl (lv_at hl 1 rfl) ?_
  obtain ⟨hg1, hf⟩ := mm_guard hf
  refine va_aldq (D := G.1) (cl := ec_cl) hx hb hK (hW.one (k := 1) (i := 0) (Nat.zero_lt_one)) 0 2 rfl rfl (mm_vp hg1) d_X_rollBack_5 ?_
  refine lv_astore_n (lv' := [(2, .ref (L 6 (Int32.toNatClampNeg a1))), (0, .ref (L 0 0)), (1, .int a1)]) hx hb d_X_rollBack_6 rfl hl (by decide) rfl (fun ls hl => ?_)
  refine lv_aload_n hx hb d_X_rollBack_7 rfl (lv_at hl 0 rfl) ?_
  refine va_get (D := G.1) (ci := 1) (C := "TwoPhaseCuts$Member") (T := T_M) (N := 12) (v := .ref (L 7 (3 * (Int32.toNatClampNeg a1)))) hx hb hts ui_M hown hK (hW.one (k := 6) (i := (Int32.toNatClampNeg a1)) (mm_nat hg1)) 0 rfl rfl 0 (by decide) (hts _ tw_53) (fun _ h9 => h9) rfl d_X_rollBack_8 ?_
  refine lv_aload_n hx hb d_X_rollBack_11 rfl (lv_at hl 0 rfl) ?_
  refine va_get (D := G.1) (ci := 1) (C := "TwoPhaseCuts$Member") (T := T_M) (N := 12) (v := .ref (L 7 (3 * (Int32.toNatClampNeg a1) + 1))) hx hb hts ui_M hown hK (hW.one (k := 6) (i := (Int32.toNatClampNeg a1)) (mm_nat hg1)) 0 rfl rfl 1 (by decide) (hts _ tw_55) (fun _ h9 => h9) rfl d_X_rollBack_12 ?_
  obtain ⟨u1, hu1, hf⟩ := mm_bind hf
  refine mm_callv (va_runV (As := [.ref (L 7 (3 * (Int32.toNatClampNeg a1) + 1))]) (rest := []) hC (c_S_copyFrom l G L F n hI σ (3 * (Int32.toNatClampNeg a1)) (3 * (Int32.toNatClampNeg a1) + 1) (ec_h0 (mm_nat hg1)) (ec_h1 (mm_nat hg1)) hu1) (cwV 1 hts (tw_gV tw_248 tw_249 tw_250 tw_4 tw_251) rfl rfl rfl (by decide +kernel) ⟨Nat.le_of_ble_eq_true rfl, Nat.le_of_ble_eq_true rfl⟩) (mm_preV hK hW (k := 7) (i := (3 * (Int32.toNatClampNeg a1))) (ec_h0 (mm_nat hg1)) rfl rfl) rfl rfl hl.1 rfl (lv_room (Nat.le_of_ble_eq_true rfl)) d_X_rollBack_15 ⟨Nat.zero_le _, Nat.zero_le _⟩) hS (fun _ h => h) (fun H locs hW _ _ hS => ?_)
  refine lv_iconst (v := (0 : Int32)) hx hb d_X_rollBack_18 (by decide) ?_
  refine lv_istore_n (lv' := [(3, .int (0 : Int32)), (2, .ref (L 6 (Int32.toNatClampNeg a1))), (0, .ref (L 0 0)), (1, .int a1)]) hx hb d_X_rollBack_19 rfl hl (by decide) rfl (fun ls hl => ?_)
  obtain ⟨u2, hu2, hf⟩ := mm_bind hf
  refine w_X_rollBack_l20 l G L F n hI hC hK a1 (Int32.toNatClampNeg a1) (mm_nat hg1) F u1 (0 : Int32) _ _ _ hu2 hW hS (lv_sub hl [2, 3, 1, 0] rfl) (fun H locs ls hW hS hl => ?_)
  refine lv_aload_n hx hb d_X_rollBack_52 rfl (lv_at hl 0 rfl) ?_
  refine lv_iconst (v := (0 : Int32)) hx hb d_X_rollBack_53 (by decide) ?_
  refine mm_put (D := G.1) (ci := 1) (C := "TwoPhaseCuts$Member") (T := T_M) (N := 12) (x := (0 : Int32)) hx hb hts ui_M ty_M tyo_M nmo_M hown hK hI hW hS (k := 6) (i := (Int32.toNatClampNeg a1)) (mm_nat hg1) rfl rfl 3 (by decide) (hts _ tw_58) (fun _ h9 => h9) rfl (ty := .boolean) (by decide +kernel) (mm_zn (Or.inl rfl)) (mm_zf (Or.inl rfl)) (Nat.le_of_ble_eq_true rfl) rfl d_X_rollBack_54 (fun H locs hW hS => ?_)
  refine lv_aload_n hx hb d_X_rollBack_57 rfl (lv_at hl 0 rfl) ?_
  refine lv_dup hx hb d_X_rollBack_58 rfl ?_
  refine va_get (D := G.1) (ci := 1) (C := "TwoPhaseCuts$Member") (T := T_M) (N := 12) (v := .int ((mm_st u2 6 (Int32.toNatClampNeg a1) 3 (0 : Int32)) 6 (Int32.toNatClampNeg a1) 5)) hx hb hts ui_M hown hK (hW.one (k := 6) (i := (Int32.toNatClampNeg a1)) (mm_nat hg1)) 0 rfl rfl 5 (by decide) (hts _ tw_61) (fun _ h9 => h9) rfl d_X_rollBack_59 ?_
  refine lv_iconst (v := (1 : Int32)) hx hb d_X_rollBack_62 (by decide) ?_
  refine lv_iadd hx hb d_X_rollBack_63 ?_
  refine mm_put (D := G.1) (ci := 1) (C := "TwoPhaseCuts$Member") (T := T_M) (N := 12) (x := (((mm_st u2 6 (Int32.toNatClampNeg a1) 3 (0 : Int32)) 6 (Int32.toNatClampNeg a1) 5) + (1 : Int32))) hx hb hts ui_M ty_M tyo_M nmo_M hown hK hI hW hS (k := 6) (i := (Int32.toNatClampNeg a1)) (mm_nat hg1) rfl rfl 5 (by decide) (hts _ tw_61) (fun _ h9 => h9) rfl (ty := .int) (by decide +kernel) (vp_nar_int _) rfl (Nat.le_of_ble_eq_true rfl) rfl d_X_rollBack_64 (fun H locs hW hS => ?_)
  obtain rfl := Option.some.inj hf
  exact W.vret hx hb hr (fun t ht hw => ⟨⟨(), rfl, trivial, (mm_back ht hw hW hK)⟩, hS.F ht⟩) hS.2.2 d_X_rollBack_67
abbrev rm_X_follow : Room := { frames := 2, cells := 0, slots := 0, locals := 47 }
set_option maxHeartbeats 4000000 in
set_option maxRecDepth 100000 in
theorem w_X_follow_l16 (l : Launch) (G : ec_G) (L : mm_L) {p : Program} {e : Env} {s : State} {m : MethodId} {args : Array Value} {below : List Frame} {meth : Method} {c : Code} {H0 : Heap} {Q : State → Prop} (F n : Nat) (hI : mm_I (ec_cnt n) L) (hC : CallFix p m c b_X_follow 6 s args tw_tbl "TwoPhaseCuts") (hK : va_K G.1 ec_cl (ec_T G) s) (x1 : Int32) (x2 : Int32) (i3 : Nat) (x4 : Int32) (hi3 : i3 < ec_cnt n 6) {out : mm_M} :
    ∀ (K : Nat) (σ : mm_M) (v5 : Int32) (H : Heap) (locs : List Loc) (ls : Array Slot), f_X_follow_l16 F n x1 x2 i3 x4 K σ v5 = some out → mm_W G.1 ec_cl (ec_cnt n) L (ec_E G L n) σ H → va_S (mm_A (ec_cnt n) L) H0 H locs → lv_has ls 6 [(0, .ref (L 0 0)), (1, .int x1), (2, .int x2), (3, .ref (L 6 i3)), (4, .int x4), (5, .int v5)] →
    (∀ (H : Heap) (locs : List Loc) (ls : Array Slot), mm_W G.1 ec_cl (ec_cnt n) L (ec_E G L n) out H → va_S (mm_A (ec_cnt n) L) H0 H locs → lv_has ls 6 [(0, .ref (L 0 0)), (1, .int x1), (2, .int x2), (3, .ref (L 6 i3)), (4, .int x4)] → W p l e rm_X_follow s m args below meth c H locs 0 0 Q (F0 m 55 ls [])) →
    W p l e rm_X_follow s m args below meth c H locs 0 0 Q (F0 m 16 ls []) := by
  obtain ⟨hx, hb, hml, hown, hts⟩ := id hC
  intro K
  induction K with
  | zero =>
    intro σ v5 H locs ls hf
    simp [f_X_follow_l16] at hf
  | succ K ih =>
    intro σ v5 H locs ls hf hW hS hl kx
    rw [f_X_follow_l16] at hf
    refine lv_iload hx hb d_X_follow_16 (lv_at hl 5 rfl) ?_
    refine lv_aload_n hx hb d_X_follow_18 rfl (lv_at hl 0 rfl) ?_
    refine va_get (D := G.1) (ci := 0) (C := "TwoPhaseCuts") (T := T_X) (N := 7) (v := .int (σ 0 0 0)) hx hb hts ui_X hown hK (hW.one (k := 0) (i := 0) (Nat.zero_lt_one)) 0 rfl rfl 0 (by decide) (hts _ tw_164) (fun _ h9 => h9) rfl d_X_follow_19 ?_
    refine lv_icmp_ge (tgt := 55) hx hb d_X_follow_22 (by decide) (fun hc => ?_) (fun hc => ?_)
    · rw [if_pos hc] at hf
      obtain rfl := Option.some.inj hf
      exact kx _ _ _ hW hS (lv_sub hl [0, 1, 2, 3, 4] rfl)
    · rw [if_neg hc] at hf
      refine lv_aload_n hx hb d_X_follow_25 rfl (lv_at hl 3 rfl) ?_
      refine va_get (D := G.1) (ci := 1) (C := "TwoPhaseCuts$Member") (T := T_M) (N := 12) (v := .ref (L 10 i3)) hx hb hts ui_M hown hK (hW.one (k := 6) (i := i3) hi3) 0 rfl rfl 9 (by decide) (hts _ tw_68) (fun _ h9 => h9) rfl d_X_follow_26 ?_
      refine lv_iload hx hb d_X_follow_29 (lv_at hl 5 rfl) ?_
      obtain ⟨hg1, hf⟩ := mm_guard hf
      refine va_zald (D := G.1) (cl := ec_cl) hx hb hK (hW.one (k := 10) (i := i3) hi3) 0 1 rfl rfl (mm_vp hg1) d_X_follow_31 ?_
      refine mm_top (y := (σ 10 i3 (Int32.toNatClampNeg v5))) rfl ?_
      obtain ⟨u1, hu1, hf⟩ := mm_bind hf
      have jp1 : ∀ (H : Heap) (locs : List Loc) (ls : Array Slot), mm_W G.1 ec_cl (ec_cnt n) L (ec_E G L n) u1 H → va_S (mm_A (ec_cnt n) L) H0 H locs → lv_has ls 6 [(0, .ref (L 0 0)), (1, .int x1), (2, .int x2), (3, .ref (L 6 i3)), (4, .int x4), (5, .int v5)] → W p l e rm_X_follow s m args below meth c H locs 0 0 Q (F0 m 49 ls []) := by
        intro H locs ls hW hS hl
        refine lv_iinc (v := (v5 + (1 : Int32))) (lv' := [(5, .int (v5 + (1 : Int32))), (0, .ref (L 0 0)), (1, .int x1), (2, .int x2), (3, .ref (L 6 i3)), (4, .int x4)]) hx hb d_X_follow_49 hl (k := 5) rfl (mm_inc _) (by decide) rfl (fun ls hl => ?_)
        refine lv_goto (tgt := 16) hx hb d_X_follow_52 (by decide) ?_
        exact ih _ _ _ _ _ hf hW hS (lv_sub hl [1, 2, 3, 4, 5, 0] rfl) kx
      clear hf
      have hf := hu1
      clear hu1
      refine lv_if_eq (tgt := 49) hx hb d_X_follow_32 (by decide) (fun hc => ?_) (fun hc => ?_)
      · rw [if_pos hc] at hf
        obtain rfl := Option.some.inj hf
        exact jp1 _ _ _ hW hS (lv_sub hl [0, 1, 2, 3, 4, 5] rfl)
      · rw [if_neg hc] at hf
        refine lv_aload_n hx hb d_X_follow_35 rfl (lv_at hl 0 rfl) ?_
        refine va_get (D := G.1) (ci := 0) (C := "TwoPhaseCuts") (T := T_X) (N := 7) (v := .ref (L 3 0)) hx hb hts ui_X hown hK (hW.one (k := 0) (i := 0) (Nat.zero_lt_one)) 0 rfl rfl 3 (by decide) (hts _ tw_167) (fun _ h9 => h9) rfl d_X_follow_36 ?_
        refine lv_iconst (v := (2 : Int32)) hx hb d_X_follow_39 (by decide) ?_
        refine lv_iload hx hb d_X_follow_40 (lv_at hl 4 rfl) ?_
        refine lv_iload_n hx hb d_X_follow_42 rfl (lv_at hl 1 rfl) ?_
        refine lv_iload hx hb d_X_follow_43 (lv_at hl 5 rfl) ?_
        refine lv_iload_n hx hb d_X_follow_45 rfl (lv_at hl 2 rfl) ?_
        obtain ⟨u2, hu2, hf⟩ := mm_bind hf
        refine mm_callv (va_runV (As := [.int (2 : Int32), .int x4, .int x1, .int v5, .int x2]) (rest := []) hC (c_L_add l G L F n hI σ (2 : Int32) x4 x1 v5 x2 hu2) (cwV 5 hts (tw_gV tw_256 tw_257 tw_258 tw_6 tw_259) rfl rfl rfl (by decide +kernel) ⟨Nat.le_of_ble_eq_true rfl, Nat.le_of_ble_eq_true rfl⟩) (mm_preV hK hW (k := 3) (i := 0) (Nat.zero_lt_one) rfl rfl) rfl rfl hl.1 rfl (lv_room (Nat.le_of_ble_eq_true rfl)) d_X_follow_46 ⟨Nat.zero_le _, Nat.zero_le _⟩) hS (fun _ h => h) (fun H locs hW _ _ hS => ?_)
        obtain rfl := Option.some.inj hf
        exact jp1 _ _ _ hW hS (lv_sub hl [0, 1, 2, 3, 4, 5] rfl)
set_option maxHeartbeats 4000000 in
set_option maxRecDepth 100000 in
theorem c_X_follow (l : Launch) (G : ec_G) (L : mm_L) (F n : Nat) (hI : mm_I (ec_cnt n) L) (σ : mm_M) (a1 : Int32) (a2 : Int32) {out : mm_M} (hf : f_X_follow F n σ a1 a2 = some out) :
    Met l y_X_follow (Cond.code y_X_follow b_X_follow 6 none :: tw_tbl) rm_X_follow (va_Pc [.ref (L 0 0), .int a1, .int a2] (mm_pre G.1 ec_cl (ec_T G) (ec_cnt n) L (ec_E G L n) σ))
      (va_Qv (fun (_ : Unit) => True) (fun _ t => mm_pre G.1 ec_cl (ec_T G) (ec_cnt n) L (ec_E G L n) out t) (mm_A (ec_cnt n) L)) 0 0 (mm_A (ec_cnt n) L) := by
  refine Met.ofW (cc := b_X_follow) (maxL := 6) (ret := none) (by decide) rfl ?_
  intro p e s m args below meth c s₁ B hml hv
  obtain ⟨rfl, hW, hK⟩ := hv
  have hx := B.exec
  have hb := B.bytes
  have hr := B.returns
  have hts0 := atoms_spec (ws := Cond.code y_X_follow b_X_follow 6 none :: tw_tbl) B.pre
  have hts : ∀ w ∈ tw_tbl, w.before [.ref (L 0 0), .int a1, .int a2].toArray s = true := fun w h => hts0 w (List.mem_cons_of_mem _ h)
  clear hts0
  have hown : s.vm.findClass "TwoPhaseCuts" = some m.cls := findClass_of_methodNamed B.named
  have hlocks := B.notSynchronized
  have hC : CallFix p m c b_X_follow 6 s [.ref (L 0 0), .int a1, .int a2].toArray tw_tbl "TwoPhaseCuts" := ⟨hx, hb, hml, hown, hts⟩
  have hS : va_S (mm_A (ec_cnt n) L) s.heap s.heap [] := va_S.rf
  have hl := lv_entry ([.ref (L 0 0), .int a1, .int a2]) (n := 6) (Nat.le_of_ble_eq_true rfl)
  rw [lg_entry_eq]
  generalize (lg_sl ([.ref (L 0 0), .int a1, .int a2]) ++ List.replicate (6 - (lg_sl ([.ref (L 0 0), .int a1, .int a2])).length) Slot.unset).toArray = ls at hl ⊢
  have hl : lv_has ls 6 [(0, .ref (L 0 0)), (1, .int a1), (2, .int a2)] := hl
  have hW : mm_W G.1 ec_cl (ec_cnt n) L (ec_E G L n) σ s.heap := hW
  clear B
  show W p l e rm_X_follow s m [.ref (L 0 0), .int a1, .int a2].toArray below meth c s.heap [] 0 0 (MQ below (va_Qv (fun (_ : Unit) => True) (fun _ t => mm_pre G.1 ec_cl (ec_T G) (ec_cnt n) L (ec_E G L n) out t) (mm_A (ec_cnt n) L)) [.ref (L 0 0), .int a1, .int a2].toArray s 0 0 (mm_A (ec_cnt n) L)) (F0 m 0 ls [])
  unfold f_X_follow at hf
  refine lv_aload_n hx hb d_X_follow_0 rfl (lv_at hl 0 rfl) ?_
  refine va_get (D := G.1) (ci := 0) (C := "TwoPhaseCuts") (T := T_X) (N := 7) (v := .ref (L 1 0)) hx hb hts ui_X hown hK (hW.one (k := 0) (i := 0) (Nat.zero_lt_one)) 0 rfl rfl 1 (by decide) (hts _ tw_165) (fun _ h9 => h9) rfl d_X_follow_1 ?_
  refine lv_iload_n hx hb d_X_follow_4 rfl (lv_at hl 1 rfl) ?_
  obtain ⟨hg1, hf⟩ := mm_guard hf
  refine va_aldq (D := G.1) (cl := ec_cl) hx hb hK (hW.one (k := 1) (i := 0) (Nat.zero_lt_one)) 0 2 rfl rfl (mm_vp hg1) d_X_follow_5 ?_
  refine lv_astore_n (lv' := [(3, .ref (L 6 (Int32.toNatClampNeg a1))), (0, .ref (L 0 0)), (1, .int a1), (2, .int a2)]) hx hb d_X_follow_6 rfl hl (by decide) rfl (fun ls hl => ?_)
  refine lv_aload_n hx hb d_X_follow_7 rfl (lv_at hl 0 rfl) ?_
  refine va_get (D := G.1) (ci := 1) (C := "TwoPhaseCuts$Member") (T := T_M) (N := 12) (v := .int (σ 6 (Int32.toNatClampNeg a1) 6)) hx hb hts ui_M hown hK (hW.one (k := 6) (i := (Int32.toNatClampNeg a1)) (mm_nat hg1)) 0 rfl rfl 6 (by decide) (hts _ tw_63) (fun _ h9 => h9) rfl d_X_follow_8 ?_
  refine lv_istore (lv' := [(4, .int (σ 6 (Int32.toNatClampNeg a1) 6)), (3, .ref (L 6 (Int32.toNatClampNeg a1))), (0, .ref (L 0 0)), (1, .int a1), (2, .int a2)]) hx hb d_X_follow_11 hl (by decide) rfl (fun ls hl => ?_)
  refine lv_iconst (v := (0 : Int32)) hx hb d_X_follow_13 (by decide) ?_
  refine lv_istore (lv' := [(5, .int (0 : Int32)), (4, .int (σ 6 (Int32.toNatClampNeg a1) 6)), (3, .ref (L 6 (Int32.toNatClampNeg a1))), (0, .ref (L 0 0)), (1, .int a1), (2, .int a2)]) hx hb d_X_follow_14 hl (by decide) rfl (fun ls hl => ?_)
  obtain ⟨u1, hu1, hf⟩ := mm_bind hf
  refine w_X_follow_l16 l G L F n hI hC hK a1 a2 (Int32.toNatClampNeg a1) (σ 6 (Int32.toNatClampNeg a1) 6) (mm_nat hg1) F σ (0 : Int32) _ _ _ hu1 hW hS (lv_sub hl [3, 4, 5, 2, 1, 0] rfl) (fun H locs ls hW hS hl => ?_)
  refine lv_aload_n hx hb d_X_follow_55 rfl (lv_at hl 3 rfl) ?_
  refine lv_iconst (v := (0 : Int32)) hx hb d_X_follow_56 (by decide) ?_
  refine mm_put (D := G.1) (ci := 1) (C := "TwoPhaseCuts$Member") (T := T_M) (N := 12) (x := (0 : Int32)) hx hb hts ui_M ty_M tyo_M nmo_M hown hK hI hW hS (k := 6) (i := (Int32.toNatClampNeg a1)) (mm_nat hg1) rfl rfl 6 (by decide) (hts _ tw_63) (fun _ h9 => h9) rfl (ty := .int) (by decide +kernel) (vp_nar_int _) rfl (Nat.le_of_ble_eq_true rfl) rfl d_X_follow_57 (fun H locs hW hS => ?_)
  refine lv_iload_n hx hb d_X_follow_60 rfl (lv_at hl 2 rfl) ?_
  refine lv_iconst (v := (1 : Int32)) hx hb d_X_follow_61 (by decide) ?_
  obtain ⟨u2, hu2, hf⟩ := mm_bind hf
  have jp1 : ∀ (H : Heap) (locs : List Loc) (ls : Array Slot), mm_W G.1 ec_cl (ec_cnt n) L (ec_E G L n) u2 H → va_S (mm_A (ec_cnt n) L) s.heap H locs → lv_has ls 6 [] → W p l e rm_X_follow s m [.ref (L 0 0), .int a1, .int a2].toArray below meth c H locs 0 0 (MQ below (va_Qv (fun (_ : Unit) => True) (fun _ t => mm_pre G.1 ec_cl (ec_T G) (ec_cnt n) L (ec_E G L n) out t) (mm_A (ec_cnt n) L)) [.ref (L 0 0), .int a1, .int a2].toArray s 0 0 (mm_A (ec_cnt n) L)) (F0 m 87 ls []) := by
    intro H locs ls hW hS hl
    obtain rfl := Option.some.inj hf
    exact W.vret hx hb hr (fun t ht hw => ⟨⟨(), rfl, trivial, (mm_back ht hw hW hK)⟩, hS.F ht⟩) hS.2.2 d_X_follow_87
  clear hf
  have hf := hu2
  clear hu2
  refine lv_icmp_ne (tgt := 87) hx hb d_X_follow_62 (by decide) (fun hc => ?_) (fun hc => ?_)
  · rw [if_neg hc] at hf
    obtain rfl := Option.some.inj hf
    exact jp1 _ _ _ hW hS (lv_sub hl [] rfl)
  · rw [if_pos hc] at hf
    refine lv_aload_n hx hb d_X_follow_65 rfl (lv_at hl 0 rfl) ?_
    refine va_get (D := G.1) (ci := 0) (C := "TwoPhaseCuts") (T := T_X) (N := 7) (v := .ref (L 4 0)) hx hb hts ui_X hown hK (hW.one (k := 0) (i := 0) (Nat.zero_lt_one)) 0 rfl rfl 4 (by decide) (hts _ tw_168) (fun _ h9 => h9) rfl d_X_follow_66 ?_
    refine lv_iload hx hb d_X_follow_69 (lv_at hl 4 rfl) ?_
    obtain ⟨hg2, hf⟩ := mm_guard hf
    refine va_zald (D := G.1) (cl := ec_cl) hx hb hK (hW.one (k := 4) (i := 0) (Nat.zero_lt_one)) 0 1 rfl rfl (mm_vp hg2) d_X_follow_71 ?_
    refine mm_top (y := (u1 4 0 (Int32.toNatClampNeg (σ 6 (Int32.toNatClampNeg a1) 6)))) rfl ?_
    refine lv_if_eq (tgt := 83) hx hb d_X_follow_72 (by decide) (fun hc => ?_) (fun hc => ?_)
    · rw [if_pos hc] at hf
      refine lv_aload_n hx hb d_X_follow_83 rfl (lv_at hl 3 rfl) ?_
      obtain ⟨u3, hu3, hf⟩ := mm_bind hf
      refine mm_callv (va_runV (As := []) (rest := []) hC (c_M_makePermanent l G L F n hI (mm_st u1 6 (Int32.toNatClampNeg a1) 6 (0 : Int32)) (Int32.toNatClampNeg a1) (mm_nat hg1) hu3) (cwV 0 hts (tw_gV tw_280 tw_281 tw_282 tw_3 tw_283) rfl rfl rfl (by decide +kernel) ⟨Nat.le_of_ble_eq_true rfl, Nat.le_of_ble_eq_true rfl⟩) (mm_preV hK hW (k := 6) (i := (Int32.toNatClampNeg a1)) (mm_nat hg1) rfl rfl) rfl rfl hl.1 rfl (lv_room (Nat.le_of_ble_eq_true rfl)) d_X_follow_84 ⟨Nat.zero_le _, Nat.zero_le _⟩) hS (fun _ h => h) (fun H locs hW _ _ hS => ?_)
      obtain rfl := Option.some.inj hf
      exact jp1 _ _ _ hW hS (lv_sub hl [] rfl)
    · rw [if_neg hc] at hf
      refine lv_aload_n hx hb d_X_follow_75 rfl (lv_at hl 0 rfl) ?_
      refine lv_iload_n hx hb d_X_follow_76 rfl (lv_at hl 1 rfl) ?_
      obtain ⟨u4, hu4, hf⟩ := mm_bind hf
      refine mm_callv (va_runV (As := [.int a1]) (rest := []) hC (c_X_rollBack l G L F n hI (mm_st u1 6 (Int32.toNatClampNeg a1) 6 (0 : Int32)) a1 hu4) (cwV 1 hts (tw_gV tw_272 tw_274 ts_8 tw_1 tw_275) rfl rfl rfl (by decide +kernel) ⟨Nat.le_of_ble_eq_true rfl, Nat.le_of_ble_eq_true rfl⟩) (mm_preV hK hW (k := 0) (i := 0) (Nat.zero_lt_one) rfl rfl) rfl rfl hl.1 rfl (lv_room (Nat.le_of_ble_eq_true rfl)) d_X_follow_77 ⟨Nat.zero_le _, Nat.zero_le _⟩) hS (fun _ h => h) (fun H locs hW _ _ hS => ?_)
      refine lv_goto (tgt := 87) hx hb d_X_follow_80 (by decide) ?_
      obtain rfl := Option.some.inj hf
      exact jp1 _ _ _ hW hS (lv_sub hl [] rfl)
abbrev rm_X_concludeWhenAnswered : Room := { frames := 3, cells := 0, slots := 0, locals := 72 }
set_option maxHeartbeats 4000000 in
set_option maxRecDepth 100000 in
theorem c_X_concludeWhenAnswered (l : Launch) (G : ec_G) (L : mm_L) (F n : Nat) (hI : mm_I (ec_cnt n) L) (σ : mm_M) (a1 : Int32) {out : mm_M} (hf : f_X_concludeWhenAnswered F n σ a1 = some out) :
    Met l y_X_concludeWhenAnswered (Cond.code y_X_concludeWhenAnswered b_X_concludeWhenAnswered 4 none :: tw_tbl) rm_X_concludeWhenAnswered (va_Pc [.ref (L 0 0), .int a1] (mm_pre G.1 ec_cl (ec_T G) (ec_cnt n) L (ec_E G L n) σ))
      (va_Qv (fun (_ : Unit) => True) (fun _ t => mm_pre G.1 ec_cl (ec_T G) (ec_cnt n) L (ec_E G L n) out t) (mm_A (ec_cnt n) L)) 0 0 (mm_A (ec_cnt n) L) := by
  refine Met.ofW (cc := b_X_concludeWhenAnswered) (maxL := 4) (ret := none) (by decide) rfl ?_
  intro p e s m args below meth c s₁ B hml hv
  obtain ⟨rfl, hW, hK⟩ := hv
  have hx := B.exec
  have hb := B.bytes
  have hr := B.returns
  have hts0 := atoms_spec (ws := Cond.code y_X_concludeWhenAnswered b_X_concludeWhenAnswered 4 none :: tw_tbl) B.pre
  have hts : ∀ w ∈ tw_tbl, w.before [.ref (L 0 0), .int a1].toArray s = true := fun w h => hts0 w (List.mem_cons_of_mem _ h)
  clear hts0
  have hown : s.vm.findClass "TwoPhaseCuts" = some m.cls := findClass_of_methodNamed B.named
  have hlocks := B.notSynchronized
  have hC : CallFix p m c b_X_concludeWhenAnswered 4 s [.ref (L 0 0), .int a1].toArray tw_tbl "TwoPhaseCuts" := ⟨hx, hb, hml, hown, hts⟩
  have hS : va_S (mm_A (ec_cnt n) L) s.heap s.heap [] := va_S.rf
  have hl := lv_entry ([.ref (L 0 0), .int a1]) (n := 4) (Nat.le_of_ble_eq_true rfl)
  rw [lg_entry_eq]
  generalize (lg_sl ([.ref (L 0 0), .int a1]) ++ List.replicate (4 - (lg_sl ([.ref (L 0 0), .int a1])).length) Slot.unset).toArray = ls at hl ⊢
  have hl : lv_has ls 4 [(0, .ref (L 0 0)), (1, .int a1)] := hl
  have hW : mm_W G.1 ec_cl (ec_cnt n) L (ec_E G L n) σ s.heap := hW
  clear B
  show W p l e rm_X_concludeWhenAnswered s m [.ref (L 0 0), .int a1].toArray below meth c s.heap [] 0 0 (MQ below (va_Qv (fun (_ : Unit) => True) (fun _ t => mm_pre G.1 ec_cl (ec_T G) (ec_cnt n) L (ec_E G L n) out t) (mm_A (ec_cnt n) L)) [.ref (L 0 0), .int a1].toArray s 0 0 (mm_A (ec_cnt n) L)) (F0 m 0 ls [])
  unfold f_X_concludeWhenAnswered at hf
  refine lv_aload_n hx hb d_X_concludeWhenAnswered_0 rfl (lv_at hl 0 rfl) ?_
  refine va_get (D := G.1) (ci := 0) (C := "TwoPhaseCuts") (T := T_X) (N := 7) (v := .ref (L 1 0)) hx hb hts ui_X hown hK (hW.one (k := 0) (i := 0) (Nat.zero_lt_one)) 0 rfl rfl 1 (by decide) (hts _ tw_165) (fun _ h9 => h9) rfl d_X_concludeWhenAnswered_1 ?_
  refine lv_iload_n hx hb d_X_concludeWhenAnswered_4 rfl (lv_at hl 1 rfl) ?_
  obtain ⟨hg1, hf⟩ := mm_guard hf
  refine va_aldq (D := G.1) (cl := ec_cl) hx hb hK (hW.one (k := 1) (i := 0) (Nat.zero_lt_one)) 0 2 rfl rfl (mm_vp hg1) d_X_concludeWhenAnswered_5 ?_
  refine lv_astore_n (lv' := [(2, .ref (L 6 (Int32.toNatClampNeg a1))), (0, .ref (L 0 0)), (1, .int a1)]) hx hb d_X_concludeWhenAnswered_6 rfl hl (by decide) rfl (fun ls hl => ?_)
  refine lv_aload_n hx hb d_X_concludeWhenAnswered_7 rfl (lv_at hl 0 rfl) ?_
  refine va_get (D := G.1) (ci := 1) (C := "TwoPhaseCuts$Member") (T := T_M) (N := 12) (v := .int (σ 6 (Int32.toNatClampNeg a1) 10)) hx hb hts ui_M hown hK (hW.one (k := 6) (i := (Int32.toNatClampNeg a1)) (mm_nat hg1)) 0 rfl rfl 10 (by decide) (hts _ tw_70) (fun _ h9 => h9) rfl d_X_concludeWhenAnswered_8 ?_
  refine lv_if_le (tgt := 15) hx hb d_X_concludeWhenAnswered_11 (by decide) (fun hc => ?_) (fun hc => ?_)
  · rw [if_pos hc] at hf
    refine lv_aload_n hx hb d_X_concludeWhenAnswered_15 rfl (lv_at hl 0 rfl) ?_
    refine va_get (D := G.1) (ci := 1) (C := "TwoPhaseCuts$Member") (T := T_M) (N := 12) (v := .int (σ 6 (Int32.toNatClampNeg a1) 8)) hx hb hts ui_M hown hK (hW.one (k := 6) (i := (Int32.toNatClampNeg a1)) (mm_nat hg1)) 0 rfl rfl 8 (by decide) (hts _ tw_66) (fun _ h9 => h9) rfl d_X_concludeWhenAnswered_16 ?_
    refine lv_iconst (v := (-1 : Int32)) hx hb d_X_concludeWhenAnswered_19 (by decide) ?_
    refine lv_icmp_eq (tgt := 55) hx hb d_X_concludeWhenAnswered_20 (by decide) (fun hc => ?_) (fun hc => ?_)
    · rw [if_pos hc] at hf
      refine lv_aload_n hx hb d_X_concludeWhenAnswered_55 rfl (lv_at hl 0 rfl) ?_
      refine va_get (D := G.1) (ci := 1) (C := "TwoPhaseCuts$Member") (T := T_M) (N := 12) (v := .int (σ 6 (Int32.toNatClampNeg a1) 11)) hx hb hts ui_M hown hK (hW.one (k := 6) (i := (Int32.toNatClampNeg a1)) (mm_nat hg1)) 0 rfl rfl 11 (by decide) (hts _ tw_72) (fun _ h9 => h9) rfl d_X_concludeWhenAnswered_56 ?_
      obtain ⟨u1, hu1, hf⟩ := mm_bind hf
      have jp1 : ∀ (H : Heap) (locs : List Loc) (ls : Array Slot), mm_W G.1 ec_cl (ec_cnt n) L (ec_E G L n) σ H → va_S (mm_A (ec_cnt n) L) s.heap H locs → lv_has ls 4 [(0, .ref (L 0 0)), (1, .int a1), (2, .ref (L 6 (Int32.toNatClampNeg a1)))] → W p l e rm_X_concludeWhenAnswered s m [.ref (L 0 0), .int a1].toArray below meth c H locs 0 0 (MQ below (va_Qv (fun (_ : Unit) => True) (fun _ t => mm_pre G.1 ec_cl (ec_T G) (ec_cnt n) L (ec_E G L n) out t) (mm_A (ec_cnt n) L)) [.ref (L 0 0), .int a1].toArray s 0 0 (mm_A (ec_cnt n) L)) (F0 m 67 ls [.int u1]) := by
        intro H locs ls hW hS hl
        refine lv_istore_n (lv' := [(3, .int u1), (0, .ref (L 0 0)), (1, .int a1), (2, .ref (L 6 (Int32.toNatClampNeg a1)))]) hx hb d_X_concludeWhenAnswered_67 rfl hl (by decide) rfl (fun ls hl => ?_)
        refine lv_aload_n hx hb d_X_concludeWhenAnswered_68 rfl (lv_at hl 1 rfl) ?_
        refine va_get (D := G.1) (ci := 0) (C := "TwoPhaseCuts") (T := T_X) (N := 7) (v := .ref (L 5 0)) hx hb hts ui_X hown hK (hW.one (k := 0) (i := 0) (Nat.zero_lt_one)) 0 rfl rfl 5 (by decide) (hts _ tw_169) (fun _ h9 => h9) rfl d_X_concludeWhenAnswered_69 ?_
        refine lv_aload_n hx hb d_X_concludeWhenAnswered_72 rfl (lv_at hl 3 rfl) ?_
        refine va_get (D := G.1) (ci := 1) (C := "TwoPhaseCuts$Member") (T := T_M) (N := 12) (v := .int (σ 6 (Int32.toNatClampNeg a1) 6)) hx hb hts ui_M hown hK (hW.one (k := 6) (i := (Int32.toNatClampNeg a1)) (mm_nat hg1)) 0 rfl rfl 6 (by decide) (hts _ tw_63) (fun _ h9 => h9) rfl d_X_concludeWhenAnswered_73 ?_
        refine lv_iload_n hx hb d_X_concludeWhenAnswered_76 rfl (lv_at hl 0 rfl) ?_
        obtain ⟨hg2, hf⟩ := mm_guard hf
        refine mm_iast hx hb hK hI hW hS (k := 5) (i := 0) (Nat.zero_lt_one) (fun _ => rfl) (t0 := 0) rfl (mm_vp hg2) d_X_concludeWhenAnswered_77 (fun H locs hW hS => ?_)
        refine lv_aload_n hx hb d_X_concludeWhenAnswered_78 rfl (lv_at hl 1 rfl) ?_
        refine lv_iload_n hx hb d_X_concludeWhenAnswered_79 rfl (lv_at hl 2 rfl) ?_
        refine lv_iload_n hx hb d_X_concludeWhenAnswered_80 rfl (lv_at hl 0 rfl) ?_
        obtain ⟨u2, hu2, hf⟩ := mm_bind hf
        refine mm_callv (va_runV (As := [.int a1, .int u1]) (rest := []) hC (c_X_follow l G L F n hI (mm_st σ 5 0 (Int32.toNatClampNeg (σ 6 (Int32.toNatClampNeg a1) 6)) u1) a1 u1 hu2) (cwV 2 hts (tw_gV tw_268 tw_270 ts_7 tw_1 tw_271) rfl rfl rfl (by decide +kernel) ⟨Nat.le_of_ble_eq_true rfl, Nat.le_of_ble_eq_true rfl⟩) (mm_preV hK hW (k := 0) (i := 0) (Nat.zero_lt_one) rfl rfl) rfl rfl hl.1 rfl (lv_room (Nat.le_of_ble_eq_true rfl)) d_X_concludeWhenAnswered_81 ⟨Nat.zero_le _, Nat.zero_le _⟩) hS (fun _ h => h) (fun H locs hW _ _ hS => ?_)
        obtain rfl := Option.some.inj hf
        exact W.vret hx hb hr (fun t ht hw => ⟨⟨(), rfl, trivial, (mm_back ht hw hW hK)⟩, hS.F ht⟩) hS.2.2 d_X_concludeWhenAnswered_84
      clear hf
      have hf := hu1
      clear hu1
      refine lv_if_eq (tgt := 66) hx hb d_X_concludeWhenAnswered_59 (by decide) (fun hc => ?_) (fun hc => ?_)
      · rw [if_pos hc] at hf
        refine lv_iconst (v := (2 : Int32)) hx hb d_X_concludeWhenAnswered_66 (by decide) ?_
        obtain rfl := Option.some.inj hf
        exact jp1 _ _ _ hW hS (lv_sub hl [1, 2, 0] rfl)
      · rw [if_neg hc] at hf
        refine lv_iconst (v := (1 : Int32)) hx hb d_X_concludeWhenAnswered_62 (by decide) ?_
        refine lv_goto (tgt := 67) hx hb d_X_concludeWhenAnswered_63 (by decide) ?_
        obtain rfl := Option.some.inj hf
        exact jp1 _ _ _ hW hS (lv_sub hl [1, 2, 0] rfl)
    · rw [if_neg hc] at hf
      refine lv_aload_n hx hb d_X_concludeWhenAnswered_23 rfl (lv_at hl 0 rfl) ?_
      refine va_get (D := G.1) (ci := 1) (C := "TwoPhaseCuts$Member") (T := T_M) (N := 12) (v := .int (σ 6 (Int32.toNatClampNeg a1) 11)) hx hb hts ui_M hown hK (hW.one (k := 6) (i := (Int32.toNatClampNeg a1)) (mm_nat hg1)) 0 rfl rfl 11 (by decide) (hts _ tw_72) (fun _ h9 => h9) rfl d_X_concludeWhenAnswered_24 ?_
      obtain ⟨u3, hu3, hf⟩ := mm_bind hf
      have jp2 : ∀ (H : Heap) (locs : List Loc) (ls : Array Slot), mm_W G.1 ec_cl (ec_cnt n) L (ec_E G L n) σ H → va_S (mm_A (ec_cnt n) L) s.heap H locs → lv_has ls 4 [(0, .ref (L 0 0)), (1, .int a1), (2, .ref (L 6 (Int32.toNatClampNeg a1)))] → W p l e rm_X_concludeWhenAnswered s m [.ref (L 0 0), .int a1].toArray below meth c H locs 0 0 (MQ below (va_Qv (fun (_ : Unit) => True) (fun _ t => mm_pre G.1 ec_cl (ec_T G) (ec_cnt n) L (ec_E G L n) out t) (mm_A (ec_cnt n) L)) [.ref (L 0 0), .int a1].toArray s 0 0 (mm_A (ec_cnt n) L)) (F0 m 35 ls [.int u3]) := by
        intro H locs ls hW hS hl
        refine lv_istore_n (lv' := [(3, .int u3), (0, .ref (L 0 0)), (1, .int a1), (2, .ref (L 6 (Int32.toNatClampNeg a1)))]) hx hb d_X_concludeWhenAnswered_35 rfl hl (by decide) rfl (fun ls hl => ?_)
        refine lv_aload_n hx hb d_X_concludeWhenAnswered_36 rfl (lv_at hl 1 rfl) ?_
        refine va_get (D := G.1) (ci := 0) (C := "TwoPhaseCuts") (T := T_X) (N := 7) (v := .ref (L 3 0)) hx hb hts ui_X hown hK (hW.one (k := 0) (i := 0) (Nat.zero_lt_one)) 0 rfl rfl 3 (by decide) (hts _ tw_167) (fun _ h9 => h9) rfl d_X_concludeWhenAnswered_37 ?_
        refine lv_iconst (v := (1 : Int32)) hx hb d_X_concludeWhenAnswered_40 (by decide) ?_
        refine lv_aload_n hx hb d_X_concludeWhenAnswered_41 rfl (lv_at hl 3 rfl) ?_
        refine va_get (D := G.1) (ci := 1) (C := "TwoPhaseCuts$Member") (T := T_M) (N := 12) (v := .int (σ 6 (Int32.toNatClampNeg a1) 6)) hx hb hts ui_M hown hK (hW.one (k := 6) (i := (Int32.toNatClampNeg a1)) (mm_nat hg1)) 0 rfl rfl 6 (by decide) (hts _ tw_63) (fun _ h9 => h9) rfl d_X_concludeWhenAnswered_42 ?_
        refine lv_iload_n hx hb d_X_concludeWhenAnswered_45 rfl (lv_at hl 2 rfl) ?_
        refine lv_aload_n hx hb d_X_concludeWhenAnswered_46 rfl (lv_at hl 3 rfl) ?_
        refine va_get (D := G.1) (ci := 1) (C := "TwoPhaseCuts$Member") (T := T_M) (N := 12) (v := .int (σ 6 (Int32.toNatClampNeg a1) 8)) hx hb hts ui_M hown hK (hW.one (k := 6) (i := (Int32.toNatClampNeg a1)) (mm_nat hg1)) 0 rfl rfl 8 (by decide) (hts _ tw_66) (fun _ h9 => h9) rfl d_X_concludeWhenAnswered_47 ?_
        refine lv_iload_n hx hb d_X_concludeWhenAnswered_50 rfl (lv_at hl 0 rfl) ?_
        obtain ⟨u4, hu4, hf⟩ := mm_bind hf
        refine mm_callv (va_runV (As := [.int (1 : Int32), .int (σ 6 (Int32.toNatClampNeg a1) 6), .int a1, .int (σ 6 (Int32.toNatClampNeg a1) 8), .int u3]) (rest := []) hC (c_L_add l G L F n hI σ (1 : Int32) (σ 6 (Int32.toNatClampNeg a1) 6) a1 (σ 6 (Int32.toNatClampNeg a1) 8) u3 hu4) (cwV 5 hts (tw_gV tw_256 tw_257 tw_258 tw_6 tw_259) rfl rfl rfl (by decide +kernel) ⟨Nat.le_of_ble_eq_true rfl, Nat.le_of_ble_eq_true rfl⟩) (mm_preV hK hW (k := 3) (i := 0) (Nat.zero_lt_one) rfl rfl) rfl rfl hl.1 rfl (lv_room (Nat.le_of_ble_eq_true rfl)) d_X_concludeWhenAnswered_51 ⟨Nat.zero_le _, Nat.zero_le _⟩) hS (fun _ h => h) (fun H locs hW _ _ hS => ?_)
        obtain rfl := Option.some.inj hf
        exact W.vret hx hb hr (fun t ht hw => ⟨⟨(), rfl, trivial, (mm_back ht hw hW hK)⟩, hS.F ht⟩) hS.2.2 d_X_concludeWhenAnswered_54
      clear hf
      have hf := hu3
      clear hu3
      refine lv_if_eq (tgt := 34) hx hb d_X_concludeWhenAnswered_27 (by decide) (fun hc => ?_) (fun hc => ?_)
      · rw [if_pos hc] at hf
        refine lv_iconst (v := (0 : Int32)) hx hb d_X_concludeWhenAnswered_34 (by decide) ?_
        obtain rfl := Option.some.inj hf
        exact jp2 _ _ _ hW hS (lv_sub hl [1, 2, 0] rfl)
      · rw [if_neg hc] at hf
        refine lv_iconst (v := (1 : Int32)) hx hb d_X_concludeWhenAnswered_30 (by decide) ?_
        refine lv_goto (tgt := 35) hx hb d_X_concludeWhenAnswered_31 (by decide) ?_
        obtain rfl := Option.some.inj hf
        exact jp2 _ _ _ hW hS (lv_sub hl [1, 2, 0] rfl)
  · rw [if_neg hc] at hf
    obtain rfl := Option.some.inj hf
    exact W.vret hx hb hr (fun t ht hw => ⟨⟨(), rfl, trivial, (mm_back ht hw hW hK)⟩, hS.F ht⟩) hS.2.2 d_X_concludeWhenAnswered_14
abbrev rm_X_begin : Room := { frames := 4, cells := 0, slots := 0, locals := 95 }
set_option maxHeartbeats 4000000 in
set_option maxRecDepth 100000 in
theorem c_X_begin (l : Launch) (G : ec_G) (L : mm_L) (F n : Nat) (hI : mm_I (ec_cnt n) L) (σ : mm_M) (a1 : Int32) (a2 : Int32) {out : Int32 × mm_M} (hf : f_X_begin F n σ a1 a2 = some out) :
    Met l y_X_begin (Cond.code y_X_begin b_X_begin 4 (some .int) :: tw_tbl) rm_X_begin (va_Pc [.ref (L 0 0), .int a1, .int a2] (mm_pre G.1 ec_cl (ec_T G) (ec_cnt n) L (ec_E G L n) σ))
      (va_Qi (fun r (_ : Unit) => r = out.1) (fun _ t => mm_pre G.1 ec_cl (ec_T G) (ec_cnt n) L (ec_E G L n) out.2 t) (mm_A (ec_cnt n) L)) 0 0 (mm_A (ec_cnt n) L) := by
  refine Met.ofW (cc := b_X_begin) (maxL := 4) (ret := (some .int)) (by decide) rfl ?_
  intro p e s m args below meth c s₁ B hml hv
  obtain ⟨rfl, hW, hK⟩ := hv
  have hx := B.exec
  have hb := B.bytes
  have hr := B.returns
  have hts0 := atoms_spec (ws := Cond.code y_X_begin b_X_begin 4 (some .int) :: tw_tbl) B.pre
  have hts : ∀ w ∈ tw_tbl, w.before [.ref (L 0 0), .int a1, .int a2].toArray s = true := fun w h => hts0 w (List.mem_cons_of_mem _ h)
  clear hts0
  have hown : s.vm.findClass "TwoPhaseCuts" = some m.cls := findClass_of_methodNamed B.named
  have hlocks := B.notSynchronized
  have hC : CallFix p m c b_X_begin 4 s [.ref (L 0 0), .int a1, .int a2].toArray tw_tbl "TwoPhaseCuts" := ⟨hx, hb, hml, hown, hts⟩
  have hS : va_S (mm_A (ec_cnt n) L) s.heap s.heap [] := va_S.rf
  have hl := lv_entry ([.ref (L 0 0), .int a1, .int a2]) (n := 4) (Nat.le_of_ble_eq_true rfl)
  rw [lg_entry_eq]
  generalize (lg_sl ([.ref (L 0 0), .int a1, .int a2]) ++ List.replicate (4 - (lg_sl ([.ref (L 0 0), .int a1, .int a2])).length) Slot.unset).toArray = ls at hl ⊢
  have hl : lv_has ls 4 [(0, .ref (L 0 0)), (1, .int a1), (2, .int a2)] := hl
  have hW : mm_W G.1 ec_cl (ec_cnt n) L (ec_E G L n) σ s.heap := hW
  clear B
  show W p l e rm_X_begin s m [.ref (L 0 0), .int a1, .int a2].toArray below meth c s.heap [] 0 0 (MQ below (va_Qi (fun r (_ : Unit) => r = out.1) (fun _ t => mm_pre G.1 ec_cl (ec_T G) (ec_cnt n) L (ec_E G L n) out.2 t) (mm_A (ec_cnt n) L)) [.ref (L 0 0), .int a1, .int a2].toArray s 0 0 (mm_A (ec_cnt n) L)) (F0 m 0 ls [])
  unfold f_X_begin at hf
  refine lv_aload_n hx hb d_X_begin_0 rfl (lv_at hl 0 rfl) ?_
  refine va_get (D := G.1) (ci := 0) (C := "TwoPhaseCuts") (T := T_X) (N := 7) (v := .int (σ 0 0 6)) hx hb hts ui_X hown hK (hW.one (k := 0) (i := 0) (Nat.zero_lt_one)) 0 rfl rfl 6 (by decide) (hts _ tw_170) (fun _ h9 => h9) rfl d_X_begin_1 ?_
  refine lv_sipush (v := (512 : Int32)) hx hb d_X_begin_4 (by decide) ?_
  refine lv_icmp_lt (tgt := 13) hx hb d_X_begin_7 (by decide) (fun hc => ?_) (fun hc => ?_)
  · rw [if_pos hc] at hf
    refine lv_aload_n hx hb d_X_begin_13 rfl (lv_at hl 0 rfl) ?_
    refine lv_dup hx hb d_X_begin_14 rfl ?_
    refine va_get (D := G.1) (ci := 0) (C := "TwoPhaseCuts") (T := T_X) (N := 7) (v := .int (σ 0 0 6)) hx hb hts ui_X hown hK (hW.one (k := 0) (i := 0) (Nat.zero_lt_one)) 0 rfl rfl 6 (by decide) (hts _ tw_170) (fun _ h9 => h9) rfl d_X_begin_15 ?_
    refine lv_iconst (v := (1 : Int32)) hx hb d_X_begin_18 (by decide) ?_
    refine lv_iadd hx hb d_X_begin_19 ?_
    refine mm_put (D := G.1) (ci := 0) (C := "TwoPhaseCuts") (T := T_X) (N := 7) (x := ((σ 0 0 6) + (1 : Int32))) hx hb hts ui_X ty_X tyo_X nmo_X hown hK hI hW hS (k := 0) (i := 0) (Nat.zero_lt_one) rfl rfl 6 (by decide) (hts _ tw_170) (fun _ h9 => h9) rfl (ty := .int) (by decide +kernel) (vp_nar_int _) rfl (Nat.le_of_ble_eq_true rfl) rfl d_X_begin_20 (fun H locs hW hS => ?_)
    refine lv_aload_n hx hb d_X_begin_23 rfl (lv_at hl 0 rfl) ?_
    refine va_get (D := G.1) (ci := 0) (C := "TwoPhaseCuts") (T := T_X) (N := 7) (v := .int ((σ 0 0 6) + (1 : Int32))) hx hb hts ui_X hown hK (hW.one (k := 0) (i := 0) (Nat.zero_lt_one)) 0 rfl rfl 6 (by decide) (hts _ tw_170) (fun _ h9 => h9) rfl d_X_begin_24 ?_
    refine lv_istore_n (lv' := [(3, .int ((σ 0 0 6) + (1 : Int32))), (0, .ref (L 0 0)), (1, .int a1), (2, .int a2)]) hx hb d_X_begin_27 rfl hl (by decide) rfl (fun ls hl => ?_)
    refine lv_aload_n hx hb d_X_begin_28 rfl (lv_at hl 1 rfl) ?_
    refine va_get (D := G.1) (ci := 0) (C := "TwoPhaseCuts") (T := T_X) (N := 7) (v := .ref (L 4 0)) hx hb hts ui_X hown hK (hW.one (k := 0) (i := 0) (Nat.zero_lt_one)) 0 rfl rfl 4 (by decide) (hts _ tw_168) (fun _ h9 => h9) rfl d_X_begin_29 ?_
    refine lv_iload_n hx hb d_X_begin_32 rfl (lv_at hl 0 rfl) ?_
    refine lv_iload_n hx hb d_X_begin_33 rfl (lv_at hl 3 rfl) ?_
    obtain ⟨hg1, hf⟩ := mm_guard hf
    obtain ⟨hz2, hf⟩ := mm_guard hf
    refine mm_zast hx hb hK hI hW hS (k := 4) (i := 0) (Nat.zero_lt_one) (fun _ => rfl) (t0 := 1) rfl (mm_vp hg1) hz2 d_X_begin_34 (fun H locs hW hS => ?_)
    refine lv_aload_n hx hb d_X_begin_35 rfl (lv_at hl 1 rfl) ?_
    refine lv_iload_n hx hb d_X_begin_36 rfl (lv_at hl 2 rfl) ?_
    refine lv_iload_n hx hb d_X_begin_37 rfl (lv_at hl 0 rfl) ?_
    refine lv_iconst (v := (-1 : Int32)) hx hb d_X_begin_38 (by decide) ?_
    obtain ⟨u1, hu1, hf⟩ := mm_bind hf
    refine mm_callv (va_runV (As := [.int a1, .int ((σ 0 0 6) + (1 : Int32)), .int (-1 : Int32)]) (rest := []) hC (c_X_join l G L F n hI (mm_st (mm_st σ 0 0 6 ((σ 0 0 6) + (1 : Int32))) 4 0 (Int32.toNatClampNeg ((σ 0 0 6) + (1 : Int32))) a2) a1 ((σ 0 0 6) + (1 : Int32)) (-1 : Int32) hu1) (cwV 3 hts (tw_gV tw_240 tw_242 ts_4 tw_1 tw_243) rfl rfl rfl (by decide +kernel) ⟨Nat.le_of_ble_eq_true rfl, Nat.le_of_ble_eq_true rfl⟩) (mm_preV hK hW (k := 0) (i := 0) (Nat.zero_lt_one) rfl rfl) rfl rfl hl.1 rfl (lv_room (Nat.le_of_ble_eq_true rfl)) d_X_begin_39 ⟨Nat.zero_le _, Nat.zero_le _⟩) hS (fun _ h => h) (fun H locs hW _ _ hS => ?_)
    refine lv_aload_n hx hb d_X_begin_42 rfl (lv_at hl 1 rfl) ?_
    refine lv_iload_n hx hb d_X_begin_43 rfl (lv_at hl 2 rfl) ?_
    obtain ⟨u2, hu2, hf⟩ := mm_bind hf
    refine mm_callv (va_runV (As := [.int a1]) (rest := []) hC (c_X_concludeWhenAnswered l G L F n hI u1 a1 hu2) (cwV 1 hts (tw_gV tw_264 tw_266 ts_6 tw_1 tw_267) rfl rfl rfl (by decide +kernel) ⟨Nat.le_of_ble_eq_true rfl, Nat.le_of_ble_eq_true rfl⟩) (mm_preV hK hW (k := 0) (i := 0) (Nat.zero_lt_one) rfl rfl) rfl rfl hl.1 rfl (lv_room (Nat.le_of_ble_eq_true rfl)) d_X_begin_44 ⟨Nat.zero_le _, Nat.zero_le _⟩) hS (fun _ h => h) (fun H locs hW _ _ hS => ?_)
    refine lv_iload_n hx hb d_X_begin_47 rfl (lv_at hl 0 rfl) ?_
    obtain rfl := Option.some.inj hf
    exact W.iret (v := ((σ 0 0 6) + (1 : Int32))) hx hb hr (fun t ht hw => ⟨⟨_, (), rfl, rfl, (mm_back ht hw hW hK)⟩, hS.F ht⟩) hS.2.2 d_X_begin_48
  · rw [if_neg hc] at hf
    refine lv_bipush (v := (-3 : Int32)) hx hb d_X_begin_10 (by decide) ?_
    obtain rfl := Option.some.inj hf
    exact W.iret (v := (-3 : Int32)) hx hb hr (fun t ht hw => ⟨⟨_, (), rfl, rfl, (mm_back ht hw hW hK)⟩, hS.F ht⟩) hS.2.2 d_X_begin_12
abbrev rm_X_checkpoint : Room := { frames := 5, cells := 0, slots := 0, locals := 118 }
set_option maxHeartbeats 4000000 in
set_option maxRecDepth 100000 in
theorem c_X_checkpoint (l : Launch) (G : ec_G) (L : mm_L) (F n : Nat) (hI : mm_I (ec_cnt n) L) (σ : mm_M) (a1 : Int32) {out : Int32 × mm_M} (hf : f_X_checkpoint F n σ a1 = some out) :
    Met l y_X_checkpoint (Cond.code y_X_checkpoint b_X_checkpoint 2 (some .int) :: tw_tbl) rm_X_checkpoint (va_Pc [.ref (L 0 0), .int a1] (mm_pre G.1 ec_cl (ec_T G) (ec_cnt n) L (ec_E G L n) σ))
      (va_Qi (fun r (_ : Unit) => r = out.1) (fun _ t => mm_pre G.1 ec_cl (ec_T G) (ec_cnt n) L (ec_E G L n) out.2 t) (mm_A (ec_cnt n) L)) 0 0 (mm_A (ec_cnt n) L) := by
  refine Met.ofW (cc := b_X_checkpoint) (maxL := 2) (ret := (some .int)) (by decide) rfl ?_
  intro p e s m args below meth c s₁ B hml hv
  obtain ⟨rfl, hW, hK⟩ := hv
  have hx := B.exec
  have hb := B.bytes
  have hr := B.returns
  have hts0 := atoms_spec (ws := Cond.code y_X_checkpoint b_X_checkpoint 2 (some .int) :: tw_tbl) B.pre
  have hts : ∀ w ∈ tw_tbl, w.before [.ref (L 0 0), .int a1].toArray s = true := fun w h => hts0 w (List.mem_cons_of_mem _ h)
  clear hts0
  have hown : s.vm.findClass "TwoPhaseCuts" = some m.cls := findClass_of_methodNamed B.named
  have hlocks := B.notSynchronized
  have hC : CallFix p m c b_X_checkpoint 2 s [.ref (L 0 0), .int a1].toArray tw_tbl "TwoPhaseCuts" := ⟨hx, hb, hml, hown, hts⟩
  have hS : va_S (mm_A (ec_cnt n) L) s.heap s.heap [] := va_S.rf
  have hl := lv_entry ([.ref (L 0 0), .int a1]) (n := 2) (Nat.le_of_ble_eq_true rfl)
  rw [lg_entry_eq]
  generalize (lg_sl ([.ref (L 0 0), .int a1]) ++ List.replicate (2 - (lg_sl ([.ref (L 0 0), .int a1])).length) Slot.unset).toArray = ls at hl ⊢
  have hl : lv_has ls 2 [(0, .ref (L 0 0)), (1, .int a1)] := hl
  have hW : mm_W G.1 ec_cl (ec_cnt n) L (ec_E G L n) σ s.heap := hW
  clear B
  show W p l e rm_X_checkpoint s m [.ref (L 0 0), .int a1].toArray below meth c s.heap [] 0 0 (MQ below (va_Qi (fun r (_ : Unit) => r = out.1) (fun _ t => mm_pre G.1 ec_cl (ec_T G) (ec_cnt n) L (ec_E G L n) out.2 t) (mm_A (ec_cnt n) L)) [.ref (L 0 0), .int a1].toArray s 0 0 (mm_A (ec_cnt n) L)) (F0 m 0 ls [])
  unfold f_X_checkpoint at hf
  refine lv_aload_n hx hb d_X_checkpoint_0 rfl (lv_at hl 0 rfl) ?_
  refine lv_iload_n hx hb d_X_checkpoint_1 rfl (lv_at hl 1 rfl) ?_
  obtain ⟨u1, hu1, hf⟩ := mm_bind hf
  refine mm_calli (va_runV (As := [.int a1]) (rest := []) hC (c_X_isProcess l G L F n hI σ a1 hu1) (cwV 1 hts (tw_gV tw_190 tw_192 ts_0 tw_1 tw_193) rfl rfl rfl (by decide +kernel) ⟨Nat.le_of_ble_eq_true rfl, Nat.le_of_ble_eq_true rfl⟩) (mm_preV hK hW (k := 0) (i := 0) (Nat.zero_lt_one) rfl rfl) rfl rfl hl.1 rfl (lv_room (Nat.le_of_ble_eq_true rfl)) d_X_checkpoint_2 ⟨Nat.zero_le _, Nat.zero_le _⟩) hS (fun _ h => h) (fun H locs hW _ _ hS => ?_)
  refine lv_if_ne (tgt := 10) hx hb d_X_checkpoint_5 (by decide) (fun hc => ?_) (fun hc => ?_)
  · rw [if_neg hc] at hf
    refine lv_aload_n hx hb d_X_checkpoint_10 rfl (lv_at hl 0 rfl) ?_
    refine va_get (D := G.1) (ci := 0) (C := "TwoPhaseCuts") (T := T_X) (N := 7) (v := .ref (L 1 0)) hx hb hts ui_X hown hK (hW.one (k := 0) (i := 0) (Nat.zero_lt_one)) 0 rfl rfl 1 (by decide) (hts _ tw_165) (fun _ h9 => h9) rfl d_X_checkpoint_11 ?_
    refine lv_iload_n hx hb d_X_checkpoint_14 rfl (lv_at hl 1 rfl) ?_
    obtain ⟨hg1, hf⟩ := mm_guard hf
    refine va_aldq (D := G.1) (cl := ec_cl) hx hb hK (hW.one (k := 1) (i := 0) (Nat.zero_lt_one)) 0 2 rfl rfl (mm_vp hg1) d_X_checkpoint_15 ?_
    refine va_get (D := G.1) (ci := 1) (C := "TwoPhaseCuts$Member") (T := T_M) (N := 12) (v := .int (σ 6 (Int32.toNatClampNeg a1) 3)) hx hb hts ui_M hown hK (hW.one (k := 6) (i := (Int32.toNatClampNeg a1)) (mm_nat hg1)) 0 rfl rfl 3 (by decide) (hts _ tw_58) (fun _ h9 => h9) rfl d_X_checkpoint_16 ?_
    refine lv_if_eq (tgt := 25) hx hb d_X_checkpoint_19 (by decide) (fun hc => ?_) (fun hc => ?_)
    · rw [if_pos hc] at hf
      refine lv_aload_n hx hb d_X_checkpoint_25 rfl (lv_at hl 0 rfl) ?_
      refine va_get (D := G.1) (ci := 0) (C := "TwoPhaseCuts") (T := T_X) (N := 7) (v := .ref (L 1 0)) hx hb hts ui_X hown hK (hW.one (k := 0) (i := 0) (Nat.zero_lt_one)) 0 rfl rfl 1 (by decide) (hts _ tw_165) (fun _ h9 => h9) rfl d_X_checkpoint_26 ?_
      refine lv_iload_n hx hb d_X_checkpoint_29 rfl (lv_at hl 1 rfl) ?_
      refine va_aldq (D := G.1) (cl := ec_cl) hx hb hK (hW.one (k := 1) (i := 0) (Nat.zero_lt_one)) 0 2 rfl rfl (mm_vp hg1) d_X_checkpoint_30 ?_
      obtain ⟨u2, hu2, hf⟩ := mm_bind hf
      refine mm_calli (va_runV (As := []) (rest := []) hC (c_M_isInvolved l G L F n hI σ (Int32.toNatClampNeg a1) (mm_nat hg1) hu2) (cwV 0 hts (tw_gV tw_210 tw_199 tw_200 tw_3 tw_201) rfl rfl rfl (by decide +kernel) ⟨Nat.le_of_ble_eq_true rfl, Nat.le_of_ble_eq_true rfl⟩) (mm_preV hK hW (k := 6) (i := (Int32.toNatClampNeg a1)) (mm_nat hg1) rfl rfl) rfl rfl hl.1 rfl (lv_room (Nat.le_of_ble_eq_true rfl)) d_X_checkpoint_31 ⟨Nat.zero_le _, Nat.zero_le _⟩) hS (fun _ h => h) (fun H locs hW _ _ hS => ?_)
      refine lv_if_eq (tgt := 40) hx hb d_X_checkpoint_34 (by decide) (fun hc => ?_) (fun hc => ?_)
      · rw [if_pos hc] at hf
        refine lv_aload_n hx hb d_X_checkpoint_40 rfl (lv_at hl 0 rfl) ?_
        refine lv_iload_n hx hb d_X_checkpoint_41 rfl (lv_at hl 1 rfl) ?_
        refine lv_iconst (v := (0 : Int32)) hx hb d_X_checkpoint_42 (by decide) ?_
        obtain ⟨u3, hu3, hf⟩ := mm_bind hf
        refine mm_calli (va_runV (As := [.int a1, .int (0 : Int32)]) (rest := []) hC (c_X_begin l G L F n hI σ a1 (0 : Int32) hu3) (cwV 2 hts (tw_gV tw_236 tw_238 ts_3 tw_1 tw_239) rfl rfl rfl (by decide +kernel) ⟨Nat.le_of_ble_eq_true rfl, Nat.le_of_ble_eq_true rfl⟩) (mm_preV hK hW (k := 0) (i := 0) (Nat.zero_lt_one) rfl rfl) rfl rfl hl.1 rfl (lv_room (Nat.le_of_ble_eq_true rfl)) d_X_checkpoint_43 ⟨Nat.zero_le _, Nat.zero_le _⟩) hS (fun _ h => h) (fun H locs hW _ _ hS => ?_)
        obtain rfl := Option.some.inj hf
        exact W.iret (v := u3.1) hx hb hr (fun t ht hw => ⟨⟨_, (), rfl, rfl, (mm_back ht hw hW hK)⟩, hS.F ht⟩) hS.2.2 d_X_checkpoint_46
      · rw [if_neg hc] at hf
        refine lv_bipush (v := (-3 : Int32)) hx hb d_X_checkpoint_37 (by decide) ?_
        obtain rfl := Option.some.inj hf
        exact W.iret (v := (-3 : Int32)) hx hb hr (fun t ht hw => ⟨⟨_, (), rfl, rfl, (mm_back ht hw hW hK)⟩, hS.F ht⟩) hS.2.2 d_X_checkpoint_39
    · rw [if_neg hc] at hf
      refine lv_bipush (v := (-2 : Int32)) hx hb d_X_checkpoint_22 (by decide) ?_
      obtain rfl := Option.some.inj hf
      exact W.iret (v := (-2 : Int32)) hx hb hr (fun t ht hw => ⟨⟨_, (), rfl, rfl, (mm_back ht hw hW hK)⟩, hS.F ht⟩) hS.2.2 d_X_checkpoint_24
  · rw [if_pos hc] at hf
    refine lv_iconst (v := (-1 : Int32)) hx hb d_X_checkpoint_8 (by decide) ?_
    obtain rfl := Option.some.inj hf
    exact W.iret (v := (-1 : Int32)) hx hb hr (fun t ht hw => ⟨⟨_, (), rfl, rfl, (mm_back ht hw hW hK)⟩, hS.F ht⟩) hS.2.2 d_X_checkpoint_9
abbrev rm_X_crash : Room := { frames := 1, cells := 0, slots := 0, locals := 21 }
set_option maxHeartbeats 4000000 in
set_option maxRecDepth 100000 in
theorem c_X_crash (l : Launch) (G : ec_G) (L : mm_L) (F n : Nat) (hI : mm_I (ec_cnt n) L) (σ : mm_M) (a1 : Int32) {out : Int32 × mm_M} (hf : f_X_crash F n σ a1 = some out) :
    Met l y_X_crash (Cond.code y_X_crash b_X_crash 2 (some .int) :: tw_tbl) rm_X_crash (va_Pc [.ref (L 0 0), .int a1] (mm_pre G.1 ec_cl (ec_T G) (ec_cnt n) L (ec_E G L n) σ))
      (va_Qi (fun r (_ : Unit) => r = out.1) (fun _ t => mm_pre G.1 ec_cl (ec_T G) (ec_cnt n) L (ec_E G L n) out.2 t) (mm_A (ec_cnt n) L)) 0 0 (mm_A (ec_cnt n) L) := by
  refine Met.ofW (cc := b_X_crash) (maxL := 2) (ret := (some .int)) (by decide) rfl ?_
  intro p e s m args below meth c s₁ B hml hv
  obtain ⟨rfl, hW, hK⟩ := hv
  have hx := B.exec
  have hb := B.bytes
  have hr := B.returns
  have hts0 := atoms_spec (ws := Cond.code y_X_crash b_X_crash 2 (some .int) :: tw_tbl) B.pre
  have hts : ∀ w ∈ tw_tbl, w.before [.ref (L 0 0), .int a1].toArray s = true := fun w h => hts0 w (List.mem_cons_of_mem _ h)
  clear hts0
  have hown : s.vm.findClass "TwoPhaseCuts" = some m.cls := findClass_of_methodNamed B.named
  have hlocks := B.notSynchronized
  have hC : CallFix p m c b_X_crash 2 s [.ref (L 0 0), .int a1].toArray tw_tbl "TwoPhaseCuts" := ⟨hx, hb, hml, hown, hts⟩
  have hS : va_S (mm_A (ec_cnt n) L) s.heap s.heap [] := va_S.rf
  have hl := lv_entry ([.ref (L 0 0), .int a1]) (n := 2) (Nat.le_of_ble_eq_true rfl)
  rw [lg_entry_eq]
  generalize (lg_sl ([.ref (L 0 0), .int a1]) ++ List.replicate (2 - (lg_sl ([.ref (L 0 0), .int a1])).length) Slot.unset).toArray = ls at hl ⊢
  have hl : lv_has ls 2 [(0, .ref (L 0 0)), (1, .int a1)] := hl
  have hW : mm_W G.1 ec_cl (ec_cnt n) L (ec_E G L n) σ s.heap := hW
  clear B
  show W p l e rm_X_crash s m [.ref (L 0 0), .int a1].toArray below meth c s.heap [] 0 0 (MQ below (va_Qi (fun r (_ : Unit) => r = out.1) (fun _ t => mm_pre G.1 ec_cl (ec_T G) (ec_cnt n) L (ec_E G L n) out.2 t) (mm_A (ec_cnt n) L)) [.ref (L 0 0), .int a1].toArray s 0 0 (mm_A (ec_cnt n) L)) (F0 m 0 ls [])
  unfold f_X_crash at hf
  refine lv_aload_n hx hb d_X_crash_0 rfl (lv_at hl 0 rfl) ?_
  refine lv_iload_n hx hb d_X_crash_1 rfl (lv_at hl 1 rfl) ?_
  obtain ⟨u1, hu1, hf⟩ := mm_bind hf
  refine mm_calli (va_runV (As := [.int a1]) (rest := []) hC (c_X_isProcess l G L F n hI σ a1 hu1) (cwV 1 hts (tw_gV tw_190 tw_192 ts_0 tw_1 tw_193) rfl rfl rfl (by decide +kernel) ⟨Nat.le_of_ble_eq_true rfl, Nat.le_of_ble_eq_true rfl⟩) (mm_preV hK hW (k := 0) (i := 0) (Nat.zero_lt_one) rfl rfl) rfl rfl hl.1 rfl (lv_room (Nat.le_of_ble_eq_true rfl)) d_X_crash_2 ⟨Nat.zero_le _, Nat.zero_le _⟩) hS (fun _ h => h) (fun H locs hW _ _ hS => ?_)
  refine lv_if_ne (tgt := 10) hx hb d_X_crash_5 (by decide) (fun hc => ?_) (fun hc => ?_)
  · rw [if_neg hc] at hf
    refine lv_aload_n hx hb d_X_crash_10 rfl (lv_at hl 0 rfl) ?_
    refine va_get (D := G.1) (ci := 0) (C := "TwoPhaseCuts") (T := T_X) (N := 7) (v := .ref (L 1 0)) hx hb hts ui_X hown hK (hW.one (k := 0) (i := 0) (Nat.zero_lt_one)) 0 rfl rfl 1 (by decide) (hts _ tw_165) (fun _ h9 => h9) rfl d_X_crash_11 ?_
    refine lv_iload_n hx hb d_X_crash_14 rfl (lv_at hl 1 rfl) ?_
    obtain ⟨hg1, hf⟩ := mm_guard hf
    refine va_aldq (D := G.1) (cl := ec_cl) hx hb hK (hW.one (k := 1) (i := 0) (Nat.zero_lt_one)) 0 2 rfl rfl (mm_vp hg1) d_X_crash_15 ?_
    refine va_get (D := G.1) (ci := 1) (C := "TwoPhaseCuts$Member") (T := T_M) (N := 12) (v := .int (σ 6 (Int32.toNatClampNeg a1) 3)) hx hb hts ui_M hown hK (hW.one (k := 6) (i := (Int32.toNatClampNeg a1)) (mm_nat hg1)) 0 rfl rfl 3 (by decide) (hts _ tw_58) (fun _ h9 => h9) rfl d_X_crash_16 ?_
    refine lv_if_eq (tgt := 25) hx hb d_X_crash_19 (by decide) (fun hc => ?_) (fun hc => ?_)
    · rw [if_pos hc] at hf
      refine lv_aload_n hx hb d_X_crash_25 rfl (lv_at hl 0 rfl) ?_
      refine va_get (D := G.1) (ci := 0) (C := "TwoPhaseCuts") (T := T_X) (N := 7) (v := .ref (L 1 0)) hx hb hts ui_X hown hK (hW.one (k := 0) (i := 0) (Nat.zero_lt_one)) 0 rfl rfl 1 (by decide) (hts _ tw_165) (fun _ h9 => h9) rfl d_X_crash_26 ?_
      refine lv_iload_n hx hb d_X_crash_29 rfl (lv_at hl 1 rfl) ?_
      refine va_aldq (D := G.1) (cl := ec_cl) hx hb hK (hW.one (k := 1) (i := 0) (Nat.zero_lt_one)) 0 2 rfl rfl (mm_vp hg1) d_X_crash_30 ?_
      obtain ⟨u2, hu2, hf⟩ := mm_bind hf
      refine mm_calli (va_runV (As := []) (rest := []) hC (c_M_isInvolved l G L F n hI σ (Int32.toNatClampNeg a1) (mm_nat hg1) hu2) (cwV 0 hts (tw_gV tw_210 tw_199 tw_200 tw_3 tw_201) rfl rfl rfl (by decide +kernel) ⟨Nat.le_of_ble_eq_true rfl, Nat.le_of_ble_eq_true rfl⟩) (mm_preV hK hW (k := 6) (i := (Int32.toNatClampNeg a1)) (mm_nat hg1) rfl rfl) rfl rfl hl.1 rfl (lv_room (Nat.le_of_ble_eq_true rfl)) d_X_crash_31 ⟨Nat.zero_le _, Nat.zero_le _⟩) hS (fun _ h => h) (fun H locs hW _ _ hS => ?_)
      refine lv_if_eq (tgt := 40) hx hb d_X_crash_34 (by decide) (fun hc => ?_) (fun hc => ?_)
      · rw [if_pos hc] at hf
        refine lv_aload_n hx hb d_X_crash_40 rfl (lv_at hl 0 rfl) ?_
        refine va_get (D := G.1) (ci := 0) (C := "TwoPhaseCuts") (T := T_X) (N := 7) (v := .ref (L 1 0)) hx hb hts ui_X hown hK (hW.one (k := 0) (i := 0) (Nat.zero_lt_one)) 0 rfl rfl 1 (by decide) (hts _ tw_165) (fun _ h9 => h9) rfl d_X_crash_41 ?_
        refine lv_iload_n hx hb d_X_crash_44 rfl (lv_at hl 1 rfl) ?_
        refine va_aldq (D := G.1) (cl := ec_cl) hx hb hK (hW.one (k := 1) (i := 0) (Nat.zero_lt_one)) 0 2 rfl rfl (mm_vp hg1) d_X_crash_45 ?_
        refine lv_iconst (v := (1 : Int32)) hx hb d_X_crash_46 (by decide) ?_
        refine mm_put (D := G.1) (ci := 1) (C := "TwoPhaseCuts$Member") (T := T_M) (N := 12) (x := (1 : Int32)) hx hb hts ui_M ty_M tyo_M nmo_M hown hK hI hW hS (k := 6) (i := (Int32.toNatClampNeg a1)) (mm_nat hg1) rfl rfl 3 (by decide) (hts _ tw_58) (fun _ h9 => h9) rfl (ty := .boolean) (by decide +kernel) (mm_zn (Or.inr rfl)) (mm_zf (Or.inr rfl)) (Nat.le_of_ble_eq_true rfl) rfl d_X_crash_47 (fun H locs hW hS => ?_)
        refine lv_iconst (v := (0 : Int32)) hx hb d_X_crash_50 (by decide) ?_
        obtain rfl := Option.some.inj hf
        exact W.iret (v := (0 : Int32)) hx hb hr (fun t ht hw => ⟨⟨_, (), rfl, rfl, (mm_back ht hw hW hK)⟩, hS.F ht⟩) hS.2.2 d_X_crash_51
      · rw [if_neg hc] at hf
        refine lv_bipush (v := (-3 : Int32)) hx hb d_X_crash_37 (by decide) ?_
        obtain rfl := Option.some.inj hf
        exact W.iret (v := (-3 : Int32)) hx hb hr (fun t ht hw => ⟨⟨_, (), rfl, rfl, (mm_back ht hw hW hK)⟩, hS.F ht⟩) hS.2.2 d_X_crash_39
    · rw [if_neg hc] at hf
      refine lv_bipush (v := (-2 : Int32)) hx hb d_X_crash_22 (by decide) ?_
      obtain rfl := Option.some.inj hf
      exact W.iret (v := (-2 : Int32)) hx hb hr (fun t ht hw => ⟨⟨_, (), rfl, rfl, (mm_back ht hw hW hK)⟩, hS.F ht⟩) hS.2.2 d_X_crash_24
  · rw [if_pos hc] at hf
    refine lv_iconst (v := (-1 : Int32)) hx hb d_X_crash_8 (by decide) ?_
    obtain rfl := Option.some.inj hf
    exact W.iret (v := (-1 : Int32)) hx hb hr (fun t ht hw => ⟨⟨_, (), rfl, rfl, (mm_back ht hw hW hK)⟩, hS.F ht⟩) hS.2.2 d_X_crash_9
abbrev rm_X_restart : Room := { frames := 5, cells := 0, slots := 0, locals := 118 }
set_option maxHeartbeats 4000000 in
set_option maxRecDepth 100000 in
theorem c_X_restart (l : Launch) (G : ec_G) (L : mm_L) (F n : Nat) (hI : mm_I (ec_cnt n) L) (σ : mm_M) (a1 : Int32) {out : Int32 × mm_M} (hf : f_X_restart F n σ a1 = some out) :
    Met l y_X_restart (Cond.code y_X_restart b_X_restart 2 (some .int) :: tw_tbl) rm_X_restart (va_Pc [.ref (L 0 0), .int a1] (mm_pre G.1 ec_cl (ec_T G) (ec_cnt n) L (ec_E G L n) σ))
      (va_Qi (fun r (_ : Unit) => r = out.1) (fun _ t => mm_pre G.1 ec_cl (ec_T G) (ec_cnt n) L (ec_E G L n) out.2 t) (mm_A (ec_cnt n) L)) 0 0 (mm_A (ec_cnt n) L) := by
  refine Met.ofW (cc := b_X_restart) (maxL := 2) (ret := (some .int)) (by decide) rfl ?_
  intro p e s m args below meth c s₁ B hml hv
  obtain ⟨rfl, hW, hK⟩ := hv
  have hx := B.exec
  have hb := B.bytes
  have hr := B.returns
  have hts0 := atoms_spec (ws := Cond.code y_X_restart b_X_restart 2 (some .int) :: tw_tbl) B.pre
  have hts : ∀ w ∈ tw_tbl, w.before [.ref (L 0 0), .int a1].toArray s = true := fun w h => hts0 w (List.mem_cons_of_mem _ h)
  clear hts0
  have hown : s.vm.findClass "TwoPhaseCuts" = some m.cls := findClass_of_methodNamed B.named
  have hlocks := B.notSynchronized
  have hC : CallFix p m c b_X_restart 2 s [.ref (L 0 0), .int a1].toArray tw_tbl "TwoPhaseCuts" := ⟨hx, hb, hml, hown, hts⟩
  have hS : va_S (mm_A (ec_cnt n) L) s.heap s.heap [] := va_S.rf
  have hl := lv_entry ([.ref (L 0 0), .int a1]) (n := 2) (Nat.le_of_ble_eq_true rfl)
  rw [lg_entry_eq]
  generalize (lg_sl ([.ref (L 0 0), .int a1]) ++ List.replicate (2 - (lg_sl ([.ref (L 0 0), .int a1])).length) Slot.unset).toArray = ls at hl ⊢
  have hl : lv_has ls 2 [(0, .ref (L 0 0)), (1, .int a1)] := hl
  have hW : mm_W G.1 ec_cl (ec_cnt n) L (ec_E G L n) σ s.heap := hW
  clear B
  show W p l e rm_X_restart s m [.ref (L 0 0), .int a1].toArray below meth c s.heap [] 0 0 (MQ below (va_Qi (fun r (_ : Unit) => r = out.1) (fun _ t => mm_pre G.1 ec_cl (ec_T G) (ec_cnt n) L (ec_E G L n) out.2 t) (mm_A (ec_cnt n) L)) [.ref (L 0 0), .int a1].toArray s 0 0 (mm_A (ec_cnt n) L)) (F0 m 0 ls [])
  unfold f_X_restart at hf
  refine lv_aload_n hx hb d_X_restart_0 rfl (lv_at hl 0 rfl) ?_
  refine lv_iload_n hx hb d_X_restart_1 rfl (lv_at hl 1 rfl) ?_
  obtain ⟨u1, hu1, hf⟩ := mm_bind hf
  refine mm_calli (va_runV (As := [.int a1]) (rest := []) hC (c_X_isProcess l G L F n hI σ a1 hu1) (cwV 1 hts (tw_gV tw_190 tw_192 ts_0 tw_1 tw_193) rfl rfl rfl (by decide +kernel) ⟨Nat.le_of_ble_eq_true rfl, Nat.le_of_ble_eq_true rfl⟩) (mm_preV hK hW (k := 0) (i := 0) (Nat.zero_lt_one) rfl rfl) rfl rfl hl.1 rfl (lv_room (Nat.le_of_ble_eq_true rfl)) d_X_restart_2 ⟨Nat.zero_le _, Nat.zero_le _⟩) hS (fun _ h => h) (fun H locs hW _ _ hS => ?_)
  refine lv_if_ne (tgt := 10) hx hb d_X_restart_5 (by decide) (fun hc => ?_) (fun hc => ?_)
  · rw [if_neg hc] at hf
    refine lv_aload_n hx hb d_X_restart_10 rfl (lv_at hl 0 rfl) ?_
    refine va_get (D := G.1) (ci := 0) (C := "TwoPhaseCuts") (T := T_X) (N := 7) (v := .ref (L 1 0)) hx hb hts ui_X hown hK (hW.one (k := 0) (i := 0) (Nat.zero_lt_one)) 0 rfl rfl 1 (by decide) (hts _ tw_165) (fun _ h9 => h9) rfl d_X_restart_11 ?_
    refine lv_iload_n hx hb d_X_restart_14 rfl (lv_at hl 1 rfl) ?_
    obtain ⟨hg1, hf⟩ := mm_guard hf
    refine va_aldq (D := G.1) (cl := ec_cl) hx hb hK (hW.one (k := 1) (i := 0) (Nat.zero_lt_one)) 0 2 rfl rfl (mm_vp hg1) d_X_restart_15 ?_
    refine va_get (D := G.1) (ci := 1) (C := "TwoPhaseCuts$Member") (T := T_M) (N := 12) (v := .int (σ 6 (Int32.toNatClampNeg a1) 3)) hx hb hts ui_M hown hK (hW.one (k := 6) (i := (Int32.toNatClampNeg a1)) (mm_nat hg1)) 0 rfl rfl 3 (by decide) (hts _ tw_58) (fun _ h9 => h9) rfl d_X_restart_16 ?_
    refine lv_if_ne (tgt := 25) hx hb d_X_restart_19 (by decide) (fun hc => ?_) (fun hc => ?_)
    · rw [if_neg hc] at hf
      refine lv_aload_n hx hb d_X_restart_25 rfl (lv_at hl 0 rfl) ?_
      refine va_get (D := G.1) (ci := 0) (C := "TwoPhaseCuts") (T := T_X) (N := 7) (v := .ref (L 1 0)) hx hb hts ui_X hown hK (hW.one (k := 0) (i := 0) (Nat.zero_lt_one)) 0 rfl rfl 1 (by decide) (hts _ tw_165) (fun _ h9 => h9) rfl d_X_restart_26 ?_
      refine lv_iload_n hx hb d_X_restart_29 rfl (lv_at hl 1 rfl) ?_
      refine va_aldq (D := G.1) (cl := ec_cl) hx hb hK (hW.one (k := 1) (i := 0) (Nat.zero_lt_one)) 0 2 rfl rfl (mm_vp hg1) d_X_restart_30 ?_
      obtain ⟨u2, hu2, hf⟩ := mm_bind hf
      refine mm_calli (va_runV (As := []) (rest := []) hC (c_M_isInvolved l G L F n hI σ (Int32.toNatClampNeg a1) (mm_nat hg1) hu2) (cwV 0 hts (tw_gV tw_210 tw_199 tw_200 tw_3 tw_201) rfl rfl rfl (by decide +kernel) ⟨Nat.le_of_ble_eq_true rfl, Nat.le_of_ble_eq_true rfl⟩) (mm_preV hK hW (k := 6) (i := (Int32.toNatClampNeg a1)) (mm_nat hg1) rfl rfl) rfl rfl hl.1 rfl (lv_room (Nat.le_of_ble_eq_true rfl)) d_X_restart_31 ⟨Nat.zero_le _, Nat.zero_le _⟩) hS (fun _ h => h) (fun H locs hW _ _ hS => ?_)
      refine lv_if_eq (tgt := 40) hx hb d_X_restart_34 (by decide) (fun hc => ?_) (fun hc => ?_)
      · rw [if_pos hc] at hf
        refine lv_aload_n hx hb d_X_restart_40 rfl (lv_at hl 0 rfl) ?_
        refine lv_iload_n hx hb d_X_restart_41 rfl (lv_at hl 1 rfl) ?_
        refine lv_iconst (v := (1 : Int32)) hx hb d_X_restart_42 (by decide) ?_
        obtain ⟨u3, hu3, hf⟩ := mm_bind hf
        refine mm_calli (va_runV (As := [.int a1, .int (1 : Int32)]) (rest := []) hC (c_X_begin l G L F n hI σ a1 (1 : Int32) hu3) (cwV 2 hts (tw_gV tw_236 tw_238 ts_3 tw_1 tw_239) rfl rfl rfl (by decide +kernel) ⟨Nat.le_of_ble_eq_true rfl, Nat.le_of_ble_eq_true rfl⟩) (mm_preV hK hW (k := 0) (i := 0) (Nat.zero_lt_one) rfl rfl) rfl rfl hl.1 rfl (lv_room (Nat.le_of_ble_eq_true rfl)) d_X_restart_43 ⟨Nat.zero_le _, Nat.zero_le _⟩) hS (fun _ h => h) (fun H locs hW _ _ hS => ?_)
        obtain rfl := Option.some.inj hf
        exact W.iret (v := u3.1) hx hb hr (fun t ht hw => ⟨⟨_, (), rfl, rfl, (mm_back ht hw hW hK)⟩, hS.F ht⟩) hS.2.2 d_X_restart_46
      · rw [if_neg hc] at hf
        refine lv_bipush (v := (-3 : Int32)) hx hb d_X_restart_37 (by decide) ?_
        obtain rfl := Option.some.inj hf
        exact W.iret (v := (-3 : Int32)) hx hb hr (fun t ht hw => ⟨⟨_, (), rfl, rfl, (mm_back ht hw hW hK)⟩, hS.F ht⟩) hS.2.2 d_X_restart_39
    · rw [if_pos hc] at hf
      refine lv_bipush (v := (-2 : Int32)) hx hb d_X_restart_22 (by decide) ?_
      obtain rfl := Option.some.inj hf
      exact W.iret (v := (-2 : Int32)) hx hb hr (fun t ht hw => ⟨⟨_, (), rfl, rfl, (mm_back ht hw hW hK)⟩, hS.F ht⟩) hS.2.2 d_X_restart_24
  · rw [if_pos hc] at hf
    refine lv_iconst (v := (-1 : Int32)) hx hb d_X_restart_8 (by decide) ?_
    obtain rfl := Option.some.inj hf
    exact W.iret (v := (-1 : Int32)) hx hb hr (fun t ht hw => ⟨⟨_, (), rfl, rfl, (mm_back ht hw hW hK)⟩, hS.F ht⟩) hS.2.2 d_X_restart_9
