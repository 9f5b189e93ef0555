abbrev rm_R_is : Room := { frames := 0, cells := 0, slots := 0, locals := 0 }
set_option maxHeartbeats 4000000 in
set_option maxRecDepth 100000 in
theorem c_R_is (l : Launch) (G : ec_G) (L : mm_L) (F n : Nat) (hI : mm_I (er_cnt n) L) (σ : mm_M) (a1 : Int32) {out : Int32} (hf : f_R_is F n σ a1 = some out) :
    Met l y_R_is (Cond.code y_R_is b_R_is 2 (some .boolean) :: tw_tbl) rm_R_is (va_Pc [.ref (L 0 0), .int a1] (mm_pre G.1 ec_cl (ec_T G) (er_cnt n) L (er_E G L n) σ))
      (va_Qi (fun r (_ : Unit) => r = out) (fun _ t => mm_pre G.1 ec_cl (ec_T G) (er_cnt n) L (er_E G L n) σ t) (mm_A (er_cnt n) L)) 0 0 (mm_A (er_cnt n) L) := by
  refine Met.ofW (cc := b_R_is) (maxL := 2) (ret := (some .boolean)) (by decide) rfl ?_
  intro p e s m args below meth c s₁ B hml hv
  obtain ⟨rfl, hW, hK⟩ := hv
  have hx := B.exec
  have hb := B.bytes
  have hr := B.returns
  have hts0 := atoms_spec (ws := Cond.code y_R_is b_R_is 2 (some .boolean) :: tw_tbl) B.pre
  have hts : ∀ w ∈ tw_tbl, w.before [.ref (L 0 0), .int a1].toArray s = true := fun w h => hts0 w (List.mem_cons_of_mem _ h)
  clear hts0
  have hown : s.vm.findClass "TwoPhaseCutsModel" = some m.cls := findClass_of_methodNamed B.named
  have hlocks := B.notSynchronized
  have hC : CallFix p m c b_R_is 2 s [.ref (L 0 0), .int a1].toArray tw_tbl "TwoPhaseCutsModel" := ⟨hx, hb, hml, hown, hts⟩
  have hS : va_S (mm_A (er_cnt n) L) s.heap s.heap [] := va_S.rf
  have hl := lv_entry ([.ref (L 0 0), .int a1]) (n := 2) (Nat.le_of_ble_eq_true rfl)
  rw [lg_entry_eq]
  generalize (lg_sl ([.ref (L 0 0), .int a1]) ++ List.replicate (2 - (lg_sl ([.ref (L 0 0), .int a1])).length) Slot.unset).toArray = ls at hl ⊢
  have hl : lv_has ls 2 [(0, .ref (L 0 0)), (1, .int a1)] := hl
  have hW : mm_W G.1 ec_cl (er_cnt n) L (er_E G L n) σ s.heap := hW
  clear B
  show W p l e rm_R_is s m [.ref (L 0 0), .int a1].toArray below meth c s.heap [] 0 0 (MQ below (va_Qi (fun r (_ : Unit) => r = out) (fun _ t => mm_pre G.1 ec_cl (ec_T G) (er_cnt n) L (er_E G L n) σ t) (mm_A (er_cnt n) L)) [.ref (L 0 0), .int a1].toArray s 0 0 (mm_A (er_cnt n) L)) (F0 m 0 ls [])
  unfold f_R_is at hf
  refine lv_iload_n hx hb d_R_is_0 rfl (lv_at hl 1 rfl) ?_
  obtain ⟨u1, hu1, hf⟩ := mm_bind hf
  have jp1 : ∀ (H : Heap) (locs : List Loc) (ls : Array Slot), mm_W G.1 ec_cl (er_cnt n) L (er_E G L n) σ H → va_S (mm_A (er_cnt n) L) s.heap H locs → lv_has ls 2 [] → W p l e rm_R_is s m [.ref (L 0 0), .int a1].toArray below meth c H locs 0 0 (MQ below (va_Qi (fun r (_ : Unit) => r = out) (fun _ t => mm_pre G.1 ec_cl (ec_T G) (er_cnt n) L (er_E G L n) σ t) (mm_A (er_cnt n) L)) [.ref (L 0 0), .int a1].toArray s 0 0 (mm_A (er_cnt n) L)) (F0 m 17 ls [.int u1]) := by
    intro H locs ls hW hS hl
    obtain ⟨hz1, hf⟩ := mm_guard hf
    obtain rfl := Option.some.inj hf
    exact W.zret (v := u1) hx hb hr (mm_zn hz1) (fun t ht hw => ⟨⟨_, (), rfl, rfl, (mm_back ht hw hW hK)⟩, hS.F ht⟩) hS.2.2 d_R_is_17
  clear hf
  have hf := hu1
  clear hu1
  refine lv_if_lt (tgt := 16) hx hb d_R_is_1 (by decide) (fun hc => ?_) (fun hc => ?_)
  · rw [if_pos hc] at hf
    refine lv_iconst (v := (0 : Int32)) hx hb d_R_is_16 (by decide) ?_
    obtain rfl := Option.some.inj hf
    exact jp1 _ _ _ hW hS (lv_sub hl [] rfl)
  · rw [if_neg hc] at hf
    refine lv_iload_n hx hb d_R_is_4 rfl (lv_at hl 1 rfl) ?_
    refine lv_aload_n hx hb d_R_is_5 rfl (lv_at hl 0 rfl) ?_
    refine va_get (D := G.1) (ci := 6) (C := "TwoPhaseCutsModel") (T := T_R) (N := 27) (v := .int (σ 0 0 0)) hx hb hts ui_R hown hK (hW.one (k := 0) (i := 0) (Nat.zero_lt_one)) 0 rfl rfl 0 (by decide) (hts _ tw_374) (fun _ h9 => h9) rfl d_R_is_6 ?_
    refine lv_icmp_ge (tgt := 16) hx hb d_R_is_9 (by decide) (fun hc => ?_) (fun hc => ?_)
    · rw [if_pos hc] at hf
      refine lv_iconst (v := (0 : Int32)) hx hb d_R_is_16 (by decide) ?_
      obtain rfl := Option.some.inj hf
      exact jp1 _ _ _ hW hS (lv_sub hl [] rfl)
    · rw [if_neg hc] at hf
      refine lv_iconst (v := (1 : Int32)) hx hb d_R_is_12 (by decide) ?_
      refine lv_goto (tgt := 17) hx hb d_R_is_13 (by decide) ?_
      obtain rfl := Option.some.inj hf
      exact jp1 _ _ _ hW hS (lv_sub hl [] rfl)
abbrev rm_R_pair : Room := { frames := 1, cells := 0, slots := 0, locals := 21 }
set_option maxHeartbeats 4000000 in
set_option maxRecDepth 100000 in
theorem c_R_pair (l : Launch) (G : ec_G) (L : mm_L) (F n : Nat) (hI : mm_I (er_cnt n) L) (σ : mm_M) (a1 : Int32) (a2 : Int32) {out : Int32} (hf : f_R_pair F n σ a1 a2 = some out) :
    Met l y_R_pair (Cond.code y_R_pair b_R_pair 3 (some .boolean) :: tw_tbl) rm_R_pair (va_Pc [.ref (L 0 0), .int a1, .int a2] (mm_pre G.1 ec_cl (ec_T G) (er_cnt n) L (er_E G L n) σ))
      (va_Qi (fun r (_ : Unit) => r = out) (fun _ t => mm_pre G.1 ec_cl (ec_T G) (er_cnt n) L (er_E G L n) σ t) (mm_A (er_cnt n) L)) 0 0 (mm_A (er_cnt n) L) := by
  refine Met.ofW (cc := b_R_pair) (maxL := 3) (ret := (some .boolean)) (by decide) rfl ?_
  intro p e s m args below meth c s₁ B hml hv
  obtain ⟨rfl, hW, hK⟩ := hv
  have hx := B.exec
  have hb := B.bytes
  have hr := B.returns
  have hts0 := atoms_spec (ws := Cond.code y_R_pair b_R_pair 3 (some .boolean) :: tw_tbl) B.pre
  have hts : ∀ w ∈ tw_tbl, w.before [.ref (L 0 0), .int a1, .int a2].toArray s = true := fun w h => hts0 w (List.mem_cons_of_mem _ h)
  clear hts0
  have hown : s.vm.findClass "TwoPhaseCutsModel" = some m.cls := findClass_of_methodNamed B.named
  have hlocks := B.notSynchronized
  have hC : CallFix p m c b_R_pair 3 s [.ref (L 0 0), .int a1, .int a2].toArray tw_tbl "TwoPhaseCutsModel" := ⟨hx, hb, hml, hown, hts⟩
  have hS : va_S (mm_A (er_cnt n) L) s.heap s.heap [] := va_S.rf
  have hl := lv_entry ([.ref (L 0 0), .int a1, .int a2]) (n := 3) (Nat.le_of_ble_eq_true rfl)
  rw [lg_entry_eq]
  generalize (lg_sl ([.ref (L 0 0), .int a1, .int a2]) ++ List.replicate (3 - (lg_sl ([.ref (L 0 0), .int a1, .int a2])).length) Slot.unset).toArray = ls at hl ⊢
  have hl : lv_has ls 3 [(0, .ref (L 0 0)), (1, .int a1), (2, .int a2)] := hl
  have hW : mm_W G.1 ec_cl (er_cnt n) L (er_E G L n) σ s.heap := hW
  clear B
  show W p l e rm_R_pair s m [.ref (L 0 0), .int a1, .int a2].toArray below meth c s.heap [] 0 0 (MQ below (va_Qi (fun r (_ : Unit) => r = out) (fun _ t => mm_pre G.1 ec_cl (ec_T G) (er_cnt n) L (er_E G L n) σ t) (mm_A (er_cnt n) L)) [.ref (L 0 0), .int a1, .int a2].toArray s 0 0 (mm_A (er_cnt n) L)) (F0 m 0 ls [])
  unfold f_R_pair at hf
  refine lv_aload_n hx hb d_R_pair_0 rfl (lv_at hl 0 rfl) ?_
  refine lv_iload_n hx hb d_R_pair_1 rfl (lv_at hl 1 rfl) ?_
  obtain ⟨u1, hu1, hf⟩ := mm_bind hf
  refine mm_calli (va_runV (As := [.int a1]) (rest := []) hC (c_R_is l G L F n hI σ a1 hu1) (cwV 1 hts (tw_gV tw_460 tw_462 ts_14 tw_8 tw_463) rfl rfl rfl (by decide +kernel) ⟨Nat.le_of_ble_eq_true rfl, Nat.le_of_ble_eq_true rfl⟩) (mm_preV hK hW (k := 0) (i := 0) (Nat.zero_lt_one) rfl rfl) rfl rfl hl.1 rfl (lv_room (Nat.le_of_ble_eq_true rfl)) d_R_pair_2 ⟨Nat.zero_le _, Nat.zero_le _⟩) hS (fun _ h => h) (fun H locs hW _ _ hS => ?_)
  obtain ⟨u2, hu2, hf⟩ := mm_bind hf
  have jp1 : ∀ (H : Heap) (locs : List Loc) (ls : Array Slot), mm_W G.1 ec_cl (er_cnt n) L (er_E G L n) σ H → va_S (mm_A (er_cnt n) L) s.heap H locs → lv_has ls 3 [] → W p l e rm_R_pair s m [.ref (L 0 0), .int a1, .int a2].toArray below meth c H locs 0 0 (MQ below (va_Qi (fun r (_ : Unit) => r = out) (fun _ t => mm_pre G.1 ec_cl (ec_T G) (er_cnt n) L (er_E G L n) σ t) (mm_A (er_cnt n) L)) [.ref (L 0 0), .int a1, .int a2].toArray s 0 0 (mm_A (er_cnt n) L)) (F0 m 26 ls [.int u2]) := by
    intro H locs ls hW hS hl
    obtain ⟨hz1, hf⟩ := mm_guard hf
    obtain rfl := Option.some.inj hf
    exact W.zret (v := u2) hx hb hr (mm_zn hz1) (fun t ht hw => ⟨⟨_, (), rfl, rfl, (mm_back ht hw hW hK)⟩, hS.F ht⟩) hS.2.2 d_R_pair_26
  clear hf
  have hf := hu2
  clear hu2
  refine lv_if_eq (tgt := 25) hx hb d_R_pair_5 (by decide) (fun hc => ?_) (fun hc => ?_)
  · rw [if_pos hc] at hf
    refine lv_iconst (v := (0 : Int32)) hx hb d_R_pair_25 (by decide) ?_
    obtain rfl := Option.some.inj hf
    exact jp1 _ _ _ hW hS (lv_sub hl [] rfl)
  · rw [if_neg hc] at hf
    refine lv_aload_n hx hb d_R_pair_8 rfl (lv_at hl 0 rfl) ?_
    refine lv_iload_n hx hb d_R_pair_9 rfl (lv_at hl 2 rfl) ?_
    obtain ⟨u3, hu3, hf⟩ := mm_bind hf
    refine mm_calli (va_runV (As := [.int a2]) (rest := []) hC (c_R_is l G L F n hI σ a2 hu3) (cwV 1 hts (tw_gV tw_460 tw_462 ts_14 tw_8 tw_463) rfl rfl rfl (by decide +kernel) ⟨Nat.le_of_ble_eq_true rfl, Nat.le_of_ble_eq_true rfl⟩) (mm_preV hK hW (k := 0) (i := 0) (Nat.zero_lt_one) rfl rfl) rfl rfl hl.1 rfl (lv_room (Nat.le_of_ble_eq_true rfl)) d_R_pair_10 ⟨Nat.zero_le _, Nat.zero_le _⟩) hS (fun _ h => h) (fun H locs hW _ _ hS => ?_)
    refine lv_if_eq (tgt := 25) hx hb d_R_pair_13 (by decide) (fun hc => ?_) (fun hc => ?_)
    · rw [if_pos hc] at hf
      refine lv_iconst (v := (0 : Int32)) hx hb d_R_pair_25 (by decide) ?_
      obtain rfl := Option.some.inj hf
      exact jp1 _ _ _ hW hS (lv_sub hl [] rfl)
    · rw [if_neg hc] at hf
      refine lv_iload_n hx hb d_R_pair_16 rfl (lv_at hl 1 rfl) ?_
      refine lv_iload_n hx hb d_R_pair_17 rfl (lv_at hl 2 rfl) ?_
      refine lv_icmp_eq (tgt := 25) hx hb d_R_pair_18 (by decide) (fun hc => ?_) (fun hc => ?_)
      · rw [if_pos hc] at hf
        refine lv_iconst (v := (0 : Int32)) hx hb d_R_pair_25 (by decide) ?_
        obtain rfl := Option.some.inj hf
        exact jp1 _ _ _ hW hS (lv_sub hl [] rfl)
      · rw [if_neg hc] at hf
        refine lv_iconst (v := (1 : Int32)) hx hb d_R_pair_21 (by decide) ?_
        refine lv_goto (tgt := 26) hx hb d_R_pair_22 (by decide) ?_
        obtain rfl := Option.some.inj hf
        exact jp1 _ _ _ hW hS (lv_sub hl [] rfl)
abbrev rm_R_valueAt : Room := { frames := 0, cells := 0, slots := 0, locals := 0 }
set_option maxHeartbeats 4000000 in
set_option maxRecDepth 100000 in
theorem w_R_valueAt_l9 (l : Launch) (G : ec_G) (L : mm_L) {p : Program} {e : Env} {s : State} {m : MethodId} {args : Array Value} {below : List Frame} {meth : Method} {c : Code} {H0 : Heap} {Q : State → Prop} (F n : Nat) (hI : mm_I (er_cnt n) L) (hC : CallFix p m c b_R_valueAt 5 s args tw_tbl "TwoPhaseCutsModel") (hK : va_K G.1 ec_cl (ec_T G) s) (σ : mm_M) (x1 : Int32) (x2 : Int32) {out : Int32} :
    ∀ (K : Nat) (v3 : Int32) (v4 : Int32) (H : Heap) (locs : List Loc) (ls : Array Slot), f_R_valueAt_l9 F n σ x1 x2 K v3 v4 = some out → mm_W G.1 ec_cl (er_cnt n) L (er_E G L n) σ H → va_S (mm_A (er_cnt n) L) H0 H locs → lv_has ls 5 [(0, .ref (L 0 0)), (1, .int x1), (2, .int x2), (3, .int v3), (4, .int v4)] →
    (∀ (H : Heap) (locs : List Loc) (ls : Array Slot), mm_W G.1 ec_cl (er_cnt n) L (er_E G L n) σ H → va_S (mm_A (er_cnt n) L) H0 H locs → lv_has ls 5 [(3, .int out)] → W p l e rm_R_valueAt s m args below meth c H locs 0 0 Q (F0 m 82 ls [])) →
    W p l e rm_R_valueAt s m args below meth c H locs 0 0 Q (F0 m 9 ls []) := by
  obtain ⟨hx, hb, hml, hown, hts⟩ := id hC
  intro K
  induction K with
  | zero =>
    intro v3 v4 H locs ls hf
    simp [f_R_valueAt_l9] at hf
  | succ K ih =>
    intro v3 v4 H locs ls hf hW hS hl kx
    rw [f_R_valueAt_l9] at hf
    refine lv_iload hx hb d_R_valueAt_9 (lv_at hl 4 rfl) ?_
    refine lv_sipush (v := (512 : Int32)) hx hb d_R_valueAt_11 (by decide) ?_
    refine lv_iload_n hx hb d_R_valueAt_14 rfl (lv_at hl 1 rfl) ?_
    refine lv_imul hx hb d_R_valueAt_15 ?_
    refine lv_iload_n hx hb d_R_valueAt_16 rfl (lv_at hl 2 rfl) ?_
    refine lv_iadd hx hb d_R_valueAt_17 ?_
    refine lv_icmp_ge (tgt := 82) hx hb d_R_valueAt_18 (by decide) (fun hc => ?_) (fun hc => ?_)
    · rw [if_pos hc] at hf
      obtain rfl := Option.some.inj hf
      exact kx _ _ _ hW hS (lv_sub hl [3] rfl)
    · rw [if_neg hc] at hf
      refine lv_aload_n hx hb d_R_valueAt_21 rfl (lv_at hl 0 rfl) ?_
      refine va_get (D := G.1) (ci := 6) (C := "TwoPhaseCutsModel") (T := T_R) (N := 27) (v := .ref (L 3 0)) hx hb hts ui_R hown hK (hW.one (k := 0) (i := 0) (Nat.zero_lt_one)) 0 rfl rfl 2 (by decide) (hts _ tw_376) (fun _ h9 => h9) rfl d_R_valueAt_22 ?_
      refine lv_iload hx hb d_R_valueAt_25 (lv_at hl 4 rfl) ?_
      obtain ⟨hg1, hf⟩ := mm_guard hf
      refine va_iald (D := G.1) (cl := ec_cl) hx hb hK (hW.one (k := 3) (i := 0) (Nat.zero_lt_one)) 0 0 rfl rfl (mm_vp hg1) d_R_valueAt_27 ?_
      refine mm_top (y := (σ 3 0 (Int32.toNatClampNeg v4))) rfl ?_
      obtain ⟨u1, hu1, hf⟩ := mm_bind hf
      have jp1 : ∀ (H : Heap) (locs : List Loc) (ls : Array Slot), mm_W G.1 ec_cl (er_cnt n) L (er_E G L n) σ H → va_S (mm_A (er_cnt n) L) H0 H locs → lv_has ls 5 [(0, .ref (L 0 0)), (1, .int x1), (2, .int x2), (4, .int v4)] → W p l e rm_R_valueAt s m args below meth c H locs 0 0 Q (F0 m 75 ls [.int u1]) := by
        intro H locs ls hW hS hl
        refine lv_istore_n (lv' := [(3, .int u1), (0, .ref (L 0 0)), (1, .int x1), (2, .int x2), (4, .int v4)]) hx hb d_R_valueAt_75 rfl hl (by decide) rfl (fun ls hl => ?_)
        refine lv_iinc (v := (v4 + (1 : Int32))) (lv' := [(4, .int (v4 + (1 : Int32))), (3, .int u1), (0, .ref (L 0 0)), (1, .int x1), (2, .int x2)]) hx hb d_R_valueAt_76 hl (k := 4) rfl (mm_inc _) (by decide) rfl (fun ls hl => ?_)
        refine lv_goto (tgt := 9) hx hb d_R_valueAt_79 (by decide) ?_
        exact ih _ _ _ _ _ hf hW hS (lv_sub hl [2, 3, 4, 1, 0] rfl) kx
      clear hf
      have hf := hu1
      clear hu1
      refine lv_if_ne (tgt := 46) hx hb d_R_valueAt_28 (by decide) (fun hc => ?_) (fun hc => ?_)
      · rw [if_neg hc] at hf
        refine lv_aload_n hx hb d_R_valueAt_46 rfl (lv_at hl 0 rfl) ?_
        refine va_get (D := G.1) (ci := 6) (C := "TwoPhaseCutsModel") (T := T_R) (N := 27) (v := .ref (L 3 0)) hx hb hts ui_R hown hK (hW.one (k := 0) (i := 0) (Nat.zero_lt_one)) 0 rfl rfl 2 (by decide) (hts _ tw_376) (fun _ h9 => h9) rfl d_R_valueAt_47 ?_
        refine lv_iload hx hb d_R_valueAt_50 (lv_at hl 4 rfl) ?_
        refine va_iald (D := G.1) (cl := ec_cl) hx hb hK (hW.one (k := 3) (i := 0) (Nat.zero_lt_one)) 0 0 rfl rfl (mm_vp hg1) d_R_valueAt_52 ?_
        refine mm_top (y := (σ 3 0 (Int32.toNatClampNeg v4))) rfl ?_
        refine lv_iconst (v := (2 : Int32)) hx hb d_R_valueAt_53 (by decide) ?_
        refine lv_icmp_ne (tgt := 74) hx hb d_R_valueAt_54 (by decide) (fun hc => ?_) (fun hc => ?_)
        · rw [if_neg hc] at hf
          refine lv_iload_n hx hb d_R_valueAt_74 rfl (lv_at hl 3 rfl) ?_
          obtain rfl := Option.some.inj hf
          exact jp1 _ _ _ hW hS (lv_sub hl [0, 1, 2, 4] rfl)
        · rw [if_pos hc] at hf
          refine lv_bipush (v := (17 : Int32)) hx hb d_R_valueAt_57 (by decide) ?_
          refine lv_iload_n hx hb d_R_valueAt_59 rfl (lv_at hl 3 rfl) ?_
          refine lv_imul hx hb d_R_valueAt_60 ?_
          refine lv_aload_n hx hb d_R_valueAt_61 rfl (lv_at hl 0 rfl) ?_
          refine va_get (D := G.1) (ci := 6) (C := "TwoPhaseCutsModel") (T := T_R) (N := 27) (v := .ref (L 6 0)) hx hb hts ui_R hown hK (hW.one (k := 0) (i := 0) (Nat.zero_lt_one)) 0 rfl rfl 5 (by decide) (hts _ tw_379) (fun _ h9 => h9) rfl d_R_valueAt_62 ?_
          refine lv_iload hx hb d_R_valueAt_65 (lv_at hl 4 rfl) ?_
          refine va_iald (D := G.1) (cl := ec_cl) hx hb hK (hW.one (k := 6) (i := 0) (Nat.zero_lt_one)) 0 0 rfl rfl (mm_vp hg1) d_R_valueAt_67 ?_
          refine mm_top (y := (σ 6 0 (Int32.toNatClampNeg v4))) rfl ?_
          refine lv_iadd hx hb d_R_valueAt_68 ?_
          refine lv_iconst (v := (1 : Int32)) hx hb d_R_valueAt_69 (by decide) ?_
          refine lv_iadd hx hb d_R_valueAt_70 ?_
          refine lv_goto (tgt := 75) hx hb d_R_valueAt_71 (by decide) ?_
          obtain rfl := Option.some.inj hf
          exact jp1 _ _ _ hW hS (lv_sub hl [0, 1, 2, 4] rfl)
      · rw [if_pos hc] at hf
        refine lv_bipush (v := (31 : Int32)) hx hb d_R_valueAt_31 (by decide) ?_
        refine lv_iload_n hx hb d_R_valueAt_33 rfl (lv_at hl 3 rfl) ?_
        refine lv_imul hx hb d_R_valueAt_34 ?_
        refine lv_aload_n hx hb d_R_valueAt_35 rfl (lv_at hl 0 rfl) ?_
        refine va_get (D := G.1) (ci := 6) (C := "TwoPhaseCutsModel") (T := T_R) (N := 27) (v := .ref (L 4 0)) hx hb hts ui_R hown hK (hW.one (k := 0) (i := 0) (Nat.zero_lt_one)) 0 rfl rfl 3 (by decide) (hts _ tw_377) (fun _ h9 => h9) rfl d_R_valueAt_36 ?_
        refine lv_iload hx hb d_R_valueAt_39 (lv_at hl 4 rfl) ?_
        refine va_iald (D := G.1) (cl := ec_cl) hx hb hK (hW.one (k := 4) (i := 0) (Nat.zero_lt_one)) 0 0 rfl rfl (mm_vp hg1) d_R_valueAt_41 ?_
        refine mm_top (y := (σ 4 0 (Int32.toNatClampNeg v4))) rfl ?_
        refine lv_iadd hx hb d_R_valueAt_42 ?_
        refine lv_goto (tgt := 75) hx hb d_R_valueAt_43 (by decide) ?_
        obtain rfl := Option.some.inj hf
        exact jp1 _ _ _ hW hS (lv_sub hl [0, 1, 2, 4] rfl)
set_option maxHeartbeats 4000000 in
set_option maxRecDepth 100000 in
theorem c_R_valueAt (l : Launch) (G : ec_G) (L : mm_L) (F n : Nat) (hI : mm_I (er_cnt n) L) (σ : mm_M) (a1 : Int32) (a2 : Int32) {out : Int32} (hf : f_R_valueAt F n σ a1 a2 = some out) :
    Met l y_R_valueAt (Cond.code y_R_valueAt b_R_valueAt 5 (some .int) :: tw_tbl) rm_R_valueAt (va_Pc [.ref (L 0 0), .int a1, .int a2] (mm_pre G.1 ec_cl (ec_T G) (er_cnt n) L (er_E G L n) σ))
      (va_Qi (fun r (_ : Unit) => r = out) (fun _ t => mm_pre G.1 ec_cl (ec_T G) (er_cnt n) L (er_E G L n) σ t) (mm_A (er_cnt n) L)) 0 0 (mm_A (er_cnt n) L) := by
  refine Met.ofW (cc := b_R_valueAt) (maxL := 5) (ret := (some .int)) (by decide) rfl ?_
  intro p e s m args below meth c s₁ B hml hv
  obtain ⟨rfl, hW, hK⟩ := hv
  have hx := B.exec
  have hb := B.bytes
  have hr := B.returns
  have hts0 := atoms_spec (ws := Cond.code y_R_valueAt b_R_valueAt 5 (some .int) :: tw_tbl) B.pre
  have hts : ∀ w ∈ tw_tbl, w.before [.ref (L 0 0), .int a1, .int a2].toArray s = true := fun w h => hts0 w (List.mem_cons_of_mem _ h)
  clear hts0
  have hown : s.vm.findClass "TwoPhaseCutsModel" = some m.cls := findClass_of_methodNamed B.named
  have hlocks := B.notSynchronized
  have hC : CallFix p m c b_R_valueAt 5 s [.ref (L 0 0), .int a1, .int a2].toArray tw_tbl "TwoPhaseCutsModel" := ⟨hx, hb, hml, hown, hts⟩
  have hS : va_S (mm_A (er_cnt n) L) s.heap s.heap [] := va_S.rf
  have hl := lv_entry ([.ref (L 0 0), .int a1, .int a2]) (n := 5) (Nat.le_of_ble_eq_true rfl)
  rw [lg_entry_eq]
  generalize (lg_sl ([.ref (L 0 0), .int a1, .int a2]) ++ List.replicate (5 - (lg_sl ([.ref (L 0 0), .int a1, .int a2])).length) Slot.unset).toArray = ls at hl ⊢
  have hl : lv_has ls 5 [(0, .ref (L 0 0)), (1, .int a1), (2, .int a2)] := hl
  have hW : mm_W G.1 ec_cl (er_cnt n) L (er_E G L n) σ s.heap := hW
  clear B
  show W p l e rm_R_valueAt s m [.ref (L 0 0), .int a1, .int a2].toArray below meth c s.heap [] 0 0 (MQ below (va_Qi (fun r (_ : Unit) => r = out) (fun _ t => mm_pre G.1 ec_cl (ec_T G) (er_cnt n) L (er_E G L n) σ t) (mm_A (er_cnt n) L)) [.ref (L 0 0), .int a1, .int a2].toArray s 0 0 (mm_A (er_cnt n) L)) (F0 m 0 ls [])
  unfold f_R_valueAt at hf
  refine lv_iconst (v := (0 : Int32)) hx hb d_R_valueAt_0 (by decide) ?_
  refine lv_istore_n (lv' := [(3, .int (0 : Int32)), (0, .ref (L 0 0)), (1, .int a1), (2, .int a2)]) hx hb d_R_valueAt_1 rfl hl (by decide) rfl (fun ls hl => ?_)
  refine lv_sipush (v := (512 : Int32)) hx hb d_R_valueAt_2 (by decide) ?_
  refine lv_iload_n hx hb d_R_valueAt_5 rfl (lv_at hl 2 rfl) ?_
  refine lv_imul hx hb d_R_valueAt_6 ?_
  refine lv_istore (lv' := [(4, .int ((512 : Int32) * a1)), (3, .int (0 : Int32)), (0, .ref (L 0 0)), (1, .int a1), (2, .int a2)]) hx hb d_R_valueAt_7 hl (by decide) rfl (fun ls hl => ?_)
  obtain ⟨u1, hu1, hf⟩ := mm_bind hf
  refine w_R_valueAt_l9 l G L F n hI hC hK σ a1 a2 F (0 : Int32) ((512 : Int32) * a1) _ _ _ hu1 hW hS (lv_sub hl [2, 3, 4, 1, 0] rfl) (fun H locs ls hW hS hl => ?_)
  refine lv_iload_n hx hb d_R_valueAt_82 rfl (lv_at hl 0 rfl) ?_
  obtain rfl := Option.some.inj hf
  exact W.iret (v := u1) hx hb hr (fun t ht hw => ⟨⟨_, (), rfl, rfl, (mm_back ht hw hW hK)⟩, hS.F ht⟩) hS.2.2 d_R_valueAt_83
abbrev rm_R_sentAt : Room := { frames := 0, cells := 0, slots := 0, locals := 0 }
set_option maxHeartbeats 4000000 in
set_option maxRecDepth 100000 in
theorem w_R_sentAt_l10 (l : Launch) (G : ec_G) (L : mm_L) {p : Program} {e : Env} {s : State} {m : MethodId} {args : Array Value} {below : List Frame} {meth : Method} {c : Code} {H0 : Heap} {Q : State → Prop} (F n : Nat) (hI : mm_I (er_cnt n) L) (hC : CallFix p m c b_R_sentAt 6 s args tw_tbl "TwoPhaseCutsModel") (hK : va_K G.1 ec_cl (ec_T G) s) (σ : mm_M) (x1 : Int32) (x2 : Int32) (x3 : Int32) {out : Int32} :
    ∀ (K : Nat) (v4 : Int32) (v5 : Int32) (H : Heap) (locs : List Loc) (ls : Array Slot), f_R_sentAt_l10 F n σ x1 x2 x3 K v4 v5 = some out → mm_W G.1 ec_cl (er_cnt n) L (er_E G L n) σ H → va_S (mm_A (er_cnt n) L) H0 H locs → lv_has ls 6 [(0, .ref (L 0 0)), (1, .int x1), (2, .int x2), (3, .int x3), (4, .int v4), (5, .int v5)] →
    (∀ (H : Heap) (locs : List Loc) (ls : Array Slot), mm_W G.1 ec_cl (er_cnt n) L (er_E G L n) σ H → va_S (mm_A (er_cnt n) L) H0 H locs → lv_has ls 6 [(4, .int out)] → W p l e rm_R_sentAt s m args below meth c H locs 0 0 Q (F0 m 60 ls [])) →
    W p l e rm_R_sentAt s m args below meth c H locs 0 0 Q (F0 m 10 ls []) := by
  obtain ⟨hx, hb, hml, hown, hts⟩ := id hC
  intro K
  induction K with
  | zero =>
    intro v4 v5 H locs ls hf
    simp [f_R_sentAt_l10] at hf
  | succ K ih =>
    intro v4 v5 H locs ls hf hW hS hl kx
    rw [f_R_sentAt_l10] at hf
    refine lv_iload hx hb d_R_sentAt_10 (lv_at hl 5 rfl) ?_
    refine lv_sipush (v := (512 : Int32)) hx hb d_R_sentAt_12 (by decide) ?_
    refine lv_iload_n hx hb d_R_sentAt_15 rfl (lv_at hl 1 rfl) ?_
    refine lv_imul hx hb d_R_sentAt_16 ?_
    refine lv_iload_n hx hb d_R_sentAt_17 rfl (lv_at hl 3 rfl) ?_
    refine lv_iadd hx hb d_R_sentAt_18 ?_
    refine lv_icmp_ge (tgt := 60) hx hb d_R_sentAt_19 (by decide) (fun hc => ?_) (fun hc => ?_)
    · rw [if_pos hc] at hf
      obtain rfl := Option.some.inj hf
      exact kx _ _ _ hW hS (lv_sub hl [4] rfl)
    · rw [if_neg hc] at hf
      refine lv_iload hx hb d_R_sentAt_22 (lv_at hl 4 rfl) ?_
      refine lv_aload_n hx hb d_R_sentAt_24 rfl (lv_at hl 0 rfl) ?_
      refine va_get (D := G.1) (ci := 6) (C := "TwoPhaseCutsModel") (T := T_R) (N := 27) (v := .ref (L 3 0)) hx hb hts ui_R hown hK (hW.one (k := 0) (i := 0) (Nat.zero_lt_one)) 0 rfl rfl 2 (by decide) (hts _ tw_376) (fun _ h9 => h9) rfl d_R_sentAt_25 ?_
      refine lv_iload hx hb d_R_sentAt_28 (lv_at hl 5 rfl) ?_
      obtain ⟨hg1, hf⟩ := mm_guard hf
      refine va_iald (D := G.1) (cl := ec_cl) hx hb hK (hW.one (k := 3) (i := 0) (Nat.zero_lt_one)) 0 0 rfl rfl (mm_vp hg1) d_R_sentAt_30 ?_
      refine mm_top (y := (σ 3 0 (Int32.toNatClampNeg v5))) rfl ?_
      refine lv_iconst (v := (1 : Int32)) hx hb d_R_sentAt_31 (by decide) ?_
      obtain ⟨u1, hu1, hf⟩ := mm_bind hf
      have jp1 : ∀ (H : Heap) (locs : List Loc) (ls : Array Slot), mm_W G.1 ec_cl (er_cnt n) L (er_E G L n) σ H → va_S (mm_A (er_cnt n) L) H0 H locs → lv_has ls 6 [(0, .ref (L 0 0)), (1, .int x1), (2, .int x2), (3, .int x3), (5, .int v5)] → W p l e rm_R_sentAt s m args below meth c H locs 0 0 Q (F0 m 51 ls [.int u1, .int v4]) := by
        intro H locs ls hW hS hl
        refine lv_iadd hx hb d_R_sentAt_51 ?_
        refine lv_istore (lv' := [(4, .int (v4 + u1)), (0, .ref (L 0 0)), (1, .int x1), (2, .int x2), (3, .int x3), (5, .int v5)]) hx hb d_R_sentAt_52 hl (by decide) rfl (fun ls hl => ?_)
        refine lv_iinc (v := (v5 + (1 : Int32))) (lv' := [(5, .int (v5 + (1 : Int32))), (4, .int (v4 + u1)), (0, .ref (L 0 0)), (1, .int x1), (2, .int x2), (3, .int x3)]) hx hb d_R_sentAt_54 hl (k := 5) rfl (mm_inc _) (by decide) rfl (fun ls hl => ?_)
        refine lv_goto (tgt := 10) hx hb d_R_sentAt_57 (by decide) ?_
        exact ih _ _ _ _ _ hf hW hS (lv_sub hl [2, 3, 4, 5, 1, 0] rfl) kx
      clear hf
      have hf := hu1
      clear hu1
      refine lv_icmp_ne (tgt := 50) hx hb d_R_sentAt_32 (by decide) (fun hc => ?_) (fun hc => ?_)
      · rw [if_neg hc] at hf
        refine lv_iconst (v := (0 : Int32)) hx hb d_R_sentAt_50 (by decide) ?_
        obtain rfl := Option.some.inj hf
        exact jp1 _ _ _ hW hS (lv_sub hl [0, 1, 2, 3, 5] rfl)
      · rw [if_pos hc] at hf
        refine lv_aload_n hx hb d_R_sentAt_35 rfl (lv_at hl 0 rfl) ?_
        refine va_get (D := G.1) (ci := 6) (C := "TwoPhaseCutsModel") (T := T_R) (N := 27) (v := .ref (L 4 0)) hx hb hts ui_R hown hK (hW.one (k := 0) (i := 0) (Nat.zero_lt_one)) 0 rfl rfl 3 (by decide) (hts _ tw_377) (fun _ h9 => h9) rfl d_R_sentAt_36 ?_
        refine lv_iload hx hb d_R_sentAt_39 (lv_at hl 5 rfl) ?_
        refine va_iald (D := G.1) (cl := ec_cl) hx hb hK (hW.one (k := 4) (i := 0) (Nat.zero_lt_one)) 0 0 rfl rfl (mm_vp hg1) d_R_sentAt_41 ?_
        refine mm_top (y := (σ 4 0 (Int32.toNatClampNeg v5))) rfl ?_
        refine lv_iload_n hx hb d_R_sentAt_42 rfl (lv_at hl 2 rfl) ?_
        refine lv_icmp_ne (tgt := 50) hx hb d_R_sentAt_43 (by decide) (fun hc => ?_) (fun hc => ?_)
        · rw [if_neg hc] at hf
          refine lv_iconst (v := (0 : Int32)) hx hb d_R_sentAt_50 (by decide) ?_
          obtain rfl := Option.some.inj hf
          exact jp1 _ _ _ hW hS (lv_sub hl [0, 1, 2, 3, 5] rfl)
        · rw [if_pos hc] at hf
          refine lv_iconst (v := (1 : Int32)) hx hb d_R_sentAt_46 (by decide) ?_
          refine lv_goto (tgt := 51) hx hb d_R_sentAt_47 (by decide) ?_
          obtain rfl := Option.some.inj hf
          exact jp1 _ _ _ hW hS (lv_sub hl [0, 1, 2, 3, 5] rfl)
set_option maxHeartbeats 4000000 in
set_option maxRecDepth 100000 in
theorem c_R_sentAt (l : Launch) (G : ec_G) (L : mm_L) (F n : Nat) (hI : mm_I (er_cnt n) L) (σ : mm_M) (a1 : Int32) (a2 : Int32) (a3 : Int32) {out : Int32} (hf : f_R_sentAt F n σ a1 a2 a3 = some out) :
    Met l y_R_sentAt (Cond.code y_R_sentAt b_R_sentAt 6 (some .int) :: tw_tbl) rm_R_sentAt (va_Pc [.ref (L 0 0), .int a1, .int a2, .int a3] (mm_pre G.1 ec_cl (ec_T G) (er_cnt n) L (er_E G L n) σ))
      (va_Qi (fun r (_ : Unit) => r = out) (fun _ t => mm_pre G.1 ec_cl (ec_T G) (er_cnt n) L (er_E G L n) σ t) (mm_A (er_cnt n) L)) 0 0 (mm_A (er_cnt n) L) := by
  refine Met.ofW (cc := b_R_sentAt) (maxL := 6) (ret := (some .int)) (by decide) rfl ?_
  intro p e s m args below meth c s₁ B hml hv
  obtain ⟨rfl, hW, hK⟩ := hv
  have hx := B.exec
  have hb := B.bytes
  have hr := B.returns
  have hts0 := atoms_spec (ws := Cond.code y_R_sentAt b_R_sentAt 6 (some .int) :: tw_tbl) B.pre
  have hts : ∀ w ∈ tw_tbl, w.before [.ref (L 0 0), .int a1, .int a2, .int a3].toArray s = true := fun w h => hts0 w (List.mem_cons_of_mem _ h)
  clear hts0
  have hown : s.vm.findClass "TwoPhaseCutsModel" = some m.cls := findClass_of_methodNamed B.named
  have hlocks := B.notSynchronized
  have hC : CallFix p m c b_R_sentAt 6 s [.ref (L 0 0), .int a1, .int a2, .int a3].toArray tw_tbl "TwoPhaseCutsModel" := ⟨hx, hb, hml, hown, hts⟩
  have hS : va_S (mm_A (er_cnt n) L) s.heap s.heap [] := va_S.rf
  have hl := lv_entry ([.ref (L 0 0), .int a1, .int a2, .int a3]) (n := 6) (Nat.le_of_ble_eq_true rfl)
  rw [lg_entry_eq]
  generalize (lg_sl ([.ref (L 0 0), .int a1, .int a2, .int a3]) ++ List.replicate (6 - (lg_sl ([.ref (L 0 0), .int a1, .int a2, .int a3])).length) Slot.unset).toArray = ls at hl ⊢
  have hl : lv_has ls 6 [(0, .ref (L 0 0)), (1, .int a1), (2, .int a2), (3, .int a3)] := hl
  have hW : mm_W G.1 ec_cl (er_cnt n) L (er_E G L n) σ s.heap := hW
  clear B
  show W p l e rm_R_sentAt s m [.ref (L 0 0), .int a1, .int a2, .int a3].toArray below meth c s.heap [] 0 0 (MQ below (va_Qi (fun r (_ : Unit) => r = out) (fun _ t => mm_pre G.1 ec_cl (ec_T G) (er_cnt n) L (er_E G L n) σ t) (mm_A (er_cnt n) L)) [.ref (L 0 0), .int a1, .int a2, .int a3].toArray s 0 0 (mm_A (er_cnt n) L)) (F0 m 0 ls [])
  unfold f_R_sentAt at hf
  refine lv_iconst (v := (0 : Int32)) hx hb d_R_sentAt_0 (by decide) ?_
  refine lv_istore (lv' := [(4, .int (0 : Int32)), (0, .ref (L 0 0)), (1, .int a1), (2, .int a2), (3, .int a3)]) hx hb d_R_sentAt_1 hl (by decide) rfl (fun ls hl => ?_)
  refine lv_sipush (v := (512 : Int32)) hx hb d_R_sentAt_3 (by decide) ?_
  refine lv_iload_n hx hb d_R_sentAt_6 rfl (lv_at hl 2 rfl) ?_
  refine lv_imul hx hb d_R_sentAt_7 ?_
  refine lv_istore (lv' := [(5, .int ((512 : Int32) * a1)), (4, .int (0 : Int32)), (0, .ref (L 0 0)), (1, .int a1), (2, .int a2), (3, .int a3)]) hx hb d_R_sentAt_8 hl (by decide) rfl (fun ls hl => ?_)
  obtain ⟨u1, hu1, hf⟩ := mm_bind hf
  refine w_R_sentAt_l10 l G L F n hI hC hK σ a1 a2 a3 F (0 : Int32) ((512 : Int32) * a1) _ _ _ hu1 hW hS (lv_sub hl [2, 3, 4, 5, 1, 0] rfl) (fun H locs ls hW hS hl => ?_)
  refine lv_iload hx hb d_R_sentAt_60 (lv_at hl 0 rfl) ?_
  obtain rfl := Option.some.inj hf
  exact W.iret (v := u1) hx hb hr (fun t ht hw => ⟨⟨_, (), rfl, rfl, (mm_back ht hw hW hK)⟩, hS.F ht⟩) hS.2.2 d_R_sentAt_62
abbrev rm_R_receivedAt : Room := { frames := 0, cells := 0, slots := 0, locals := 0 }
set_option maxHeartbeats 4000000 in
set_option maxRecDepth 100000 in
theorem w_R_receivedAt_l10 (l : Launch) (G : ec_G) (L : mm_L) {p : Program} {e : Env} {s : State} {m : MethodId} {args : Array Value} {below : List Frame} {meth : Method} {c : Code} {H0 : Heap} {Q : State → Prop} (F n : Nat) (hI : mm_I (er_cnt n) L) (hC : CallFix p m c b_R_receivedAt 6 s args tw_tbl "TwoPhaseCutsModel") (hK : va_K G.1 ec_cl (ec_T G) s) (σ : mm_M) (x1 : Int32) (x2 : Int32) (x3 : Int32) {out : Int32} :
    ∀ (K : Nat) (v4 : Int32) (v5 : Int32) (H : Heap) (locs : List Loc) (ls : Array Slot), f_R_receivedAt_l10 F n σ x1 x2 x3 K v4 v5 = some out → mm_W G.1 ec_cl (er_cnt n) L (er_E G L n) σ H → va_S (mm_A (er_cnt n) L) H0 H locs → lv_has ls 6 [(0, .ref (L 0 0)), (1, .int x1), (2, .int x2), (3, .int x3), (4, .int v4), (5, .int v5)] →
    (∀ (H : Heap) (locs : List Loc) (ls : Array Slot), mm_W G.1 ec_cl (er_cnt n) L (er_E G L n) σ H → va_S (mm_A (er_cnt n) L) H0 H locs → lv_has ls 6 [(4, .int out)] → W p l e rm_R_receivedAt s m args below meth c H locs 0 0 Q (F0 m 64 ls [])) →
    W p l e rm_R_receivedAt s m args below meth c H locs 0 0 Q (F0 m 10 ls []) := by
  obtain ⟨hx, hb, hml, hown, hts⟩ := id hC
  intro K
  induction K with
  | zero =>
    intro v4 v5 H locs ls hf
    simp [f_R_receivedAt_l10] at hf
  | succ K ih =>
    intro v4 v5 H locs ls hf hW hS hl kx
    rw [f_R_receivedAt_l10] at hf
    refine lv_iload hx hb d_R_receivedAt_10 (lv_at hl 5 rfl) ?_
    refine lv_sipush (v := (512 : Int32)) hx hb d_R_receivedAt_12 (by decide) ?_
    refine lv_iload_n hx hb d_R_receivedAt_15 rfl (lv_at hl 1 rfl) ?_
    refine lv_imul hx hb d_R_receivedAt_16 ?_
    refine lv_iload_n hx hb d_R_receivedAt_17 rfl (lv_at hl 3 rfl) ?_
    refine lv_iadd hx hb d_R_receivedAt_18 ?_
    refine lv_icmp_ge (tgt := 64) hx hb d_R_receivedAt_19 (by decide) (fun hc => ?_) (fun hc => ?_)
    · rw [if_pos hc] at hf
      obtain rfl := Option.some.inj hf
      exact kx _ _ _ hW hS (lv_sub hl [4] rfl)
    · rw [if_neg hc] at hf
      refine lv_aload_n hx hb d_R_receivedAt_22 rfl (lv_at hl 0 rfl) ?_
      refine va_get (D := G.1) (ci := 6) (C := "TwoPhaseCutsModel") (T := T_R) (N := 27) (v := .ref (L 3 0)) hx hb hts ui_R hown hK (hW.one (k := 0) (i := 0) (Nat.zero_lt_one)) 0 rfl rfl 2 (by decide) (hts _ tw_376) (fun _ h9 => h9) rfl d_R_receivedAt_23 ?_
      refine lv_iload hx hb d_R_receivedAt_26 (lv_at hl 5 rfl) ?_
      obtain ⟨hg1, hf⟩ := mm_guard hf
      refine va_iald (D := G.1) (cl := ec_cl) hx hb hK (hW.one (k := 3) (i := 0) (Nat.zero_lt_one)) 0 0 rfl rfl (mm_vp hg1) d_R_receivedAt_28 ?_
      refine mm_top (y := (σ 3 0 (Int32.toNatClampNeg v5))) rfl ?_
      refine lv_iconst (v := (2 : Int32)) hx hb d_R_receivedAt_29 (by decide) ?_
      obtain ⟨u1, hu1, hf⟩ := mm_bind hf
      have jp1 : ∀ (H : Heap) (locs : List Loc) (ls : Array Slot), mm_W G.1 ec_cl (er_cnt n) L (er_E G L n) σ H → va_S (mm_A (er_cnt n) L) H0 H locs → lv_has ls 6 [(0, .ref (L 0 0)), (1, .int x1), (2, .int x2), (3, .int x3), (5, .int v5)] → W p l e rm_R_receivedAt s m args below meth c H locs 0 0 Q (F0 m 56 ls [.int u1]) := by
        intro H locs ls hW hS hl
        refine lv_istore (lv' := [(4, .int u1), (0, .ref (L 0 0)), (1, .int x1), (2, .int x2), (3, .int x3), (5, .int v5)]) hx hb d_R_receivedAt_56 hl (by decide) rfl (fun ls hl => ?_)
        refine lv_iinc (v := (v5 + (1 : Int32))) (lv' := [(5, .int (v5 + (1 : Int32))), (4, .int u1), (0, .ref (L 0 0)), (1, .int x1), (2, .int x2), (3, .int x3)]) hx hb d_R_receivedAt_58 hl (k := 5) rfl (mm_inc _) (by decide) rfl (fun ls hl => ?_)
        refine lv_goto (tgt := 10) hx hb d_R_receivedAt_61 (by decide) ?_
        exact ih _ _ _ _ _ hf hW hS (lv_sub hl [2, 3, 4, 5, 1, 0] rfl) kx
      clear hf
      have hf := hu1
      clear hu1
      refine lv_icmp_ne (tgt := 54) hx hb d_R_receivedAt_30 (by decide) (fun hc => ?_) (fun hc => ?_)
      · rw [if_neg hc] at hf
        refine lv_iload hx hb d_R_receivedAt_54 (lv_at hl 4 rfl) ?_
        obtain rfl := Option.some.inj hf
        exact jp1 _ _ _ hW hS (lv_sub hl [0, 1, 2, 3, 5] rfl)
      · rw [if_pos hc] at hf
        refine lv_aload_n hx hb d_R_receivedAt_33 rfl (lv_at hl 0 rfl) ?_
        refine va_get (D := G.1) (ci := 6) (C := "TwoPhaseCutsModel") (T := T_R) (N := 27) (v := .ref (L 4 0)) hx hb hts ui_R hown hK (hW.one (k := 0) (i := 0) (Nat.zero_lt_one)) 0 rfl rfl 3 (by decide) (hts _ tw_377) (fun _ h9 => h9) rfl d_R_receivedAt_34 ?_
        refine lv_iload hx hb d_R_receivedAt_37 (lv_at hl 5 rfl) ?_
        refine va_iald (D := G.1) (cl := ec_cl) hx hb hK (hW.one (k := 4) (i := 0) (Nat.zero_lt_one)) 0 0 rfl rfl (mm_vp hg1) d_R_receivedAt_39 ?_
        refine mm_top (y := (σ 4 0 (Int32.toNatClampNeg v5))) rfl ?_
        refine lv_iload_n hx hb d_R_receivedAt_40 rfl (lv_at hl 2 rfl) ?_
        refine lv_icmp_ne (tgt := 54) hx hb d_R_receivedAt_41 (by decide) (fun hc => ?_) (fun hc => ?_)
        · rw [if_neg hc] at hf
          refine lv_iload hx hb d_R_receivedAt_54 (lv_at hl 4 rfl) ?_
          obtain rfl := Option.some.inj hf
          exact jp1 _ _ _ hW hS (lv_sub hl [0, 1, 2, 3, 5] rfl)
        · rw [if_pos hc] at hf
          refine lv_aload_n hx hb d_R_receivedAt_44 rfl (lv_at hl 0 rfl) ?_
          refine va_get (D := G.1) (ci := 6) (C := "TwoPhaseCutsModel") (T := T_R) (N := 27) (v := .ref (L 5 0)) hx hb hts ui_R hown hK (hW.one (k := 0) (i := 0) (Nat.zero_lt_one)) 0 rfl rfl 4 (by decide) (hts _ tw_378) (fun _ h9 => h9) rfl d_R_receivedAt_45 ?_
          refine lv_iload hx hb d_R_receivedAt_48 (lv_at hl 5 rfl) ?_
          refine va_iald (D := G.1) (cl := ec_cl) hx hb hK (hW.one (k := 5) (i := 0) (Nat.zero_lt_one)) 0 0 rfl rfl (mm_vp hg1) d_R_receivedAt_50 ?_
          refine mm_top (y := (σ 5 0 (Int32.toNatClampNeg v5))) rfl ?_
          refine lv_goto (tgt := 56) hx hb d_R_receivedAt_51 (by decide) ?_
          obtain rfl := Option.some.inj hf
          exact jp1 _ _ _ hW hS (lv_sub hl [0, 1, 2, 3, 5] rfl)
set_option maxHeartbeats 4000000 in
set_option maxRecDepth 100000 in
theorem c_R_receivedAt (l : Launch) (G : ec_G) (L : mm_L) (F n : Nat) (hI : mm_I (er_cnt n) L) (σ : mm_M) (a1 : Int32) (a2 : Int32) (a3 : Int32) {out : Int32} (hf : f_R_receivedAt F n σ a1 a2 a3 = some out) :
    Met l y_R_receivedAt (Cond.code y_R_receivedAt b_R_receivedAt 6 (some .int) :: tw_tbl) rm_R_receivedAt (va_Pc [.ref (L 0 0), .int a1, .int a2, .int a3] (mm_pre G.1 ec_cl (ec_T G) (er_cnt n) L (er_E G L n) σ))
      (va_Qi (fun r (_ : Unit) => r = out) (fun _ t => mm_pre G.1 ec_cl (ec_T G) (er_cnt n) L (er_E G L n) σ t) (mm_A (er_cnt n) L)) 0 0 (mm_A (er_cnt n) L) := by
  refine Met.ofW (cc := b_R_receivedAt) (maxL := 6) (ret := (some .int)) (by decide) rfl ?_
  intro p e s m args below meth c s₁ B hml hv
  obtain ⟨rfl, hW, hK⟩ := hv
  have hx := B.exec
  have hb := B.bytes
  have hr := B.returns
  have hts0 := atoms_spec (ws := Cond.code y_R_receivedAt b_R_receivedAt 6 (some .int) :: tw_tbl) B.pre
  have hts : ∀ w ∈ tw_tbl, w.before [.ref (L 0 0), .int a1, .int a2, .int a3].toArray s = true := fun w h => hts0 w (List.mem_cons_of_mem _ h)
  clear hts0
  have hown : s.vm.findClass "TwoPhaseCutsModel" = some m.cls := findClass_of_methodNamed B.named
  have hlocks := B.notSynchronized
  have hC : CallFix p m c b_R_receivedAt 6 s [.ref (L 0 0), .int a1, .int a2, .int a3].toArray tw_tbl "TwoPhaseCutsModel" := ⟨hx, hb, hml, hown, hts⟩
  have hS : va_S (mm_A (er_cnt n) L) s.heap s.heap [] := va_S.rf
  have hl := lv_entry ([.ref (L 0 0), .int a1, .int a2, .int a3]) (n := 6) (Nat.le_of_ble_eq_true rfl)
  rw [lg_entry_eq]
  generalize (lg_sl ([.ref (L 0 0), .int a1, .int a2, .int a3]) ++ List.replicate (6 - (lg_sl ([.ref (L 0 0), .int a1, .int a2, .int a3])).length) Slot.unset).toArray = ls at hl ⊢
  have hl : lv_has ls 6 [(0, .ref (L 0 0)), (1, .int a1), (2, .int a2), (3, .int a3)] := hl
  have hW : mm_W G.1 ec_cl (er_cnt n) L (er_E G L n) σ s.heap := hW
  clear B
  show W p l e rm_R_receivedAt s m [.ref (L 0 0), .int a1, .int a2, .int a3].toArray below meth c s.heap [] 0 0 (MQ below (va_Qi (fun r (_ : Unit) => r = out) (fun _ t => mm_pre G.1 ec_cl (ec_T G) (er_cnt n) L (er_E G L n) σ t) (mm_A (er_cnt n) L)) [.ref (L 0 0), .int a1, .int a2, .int a3].toArray s 0 0 (mm_A (er_cnt n) L)) (F0 m 0 ls [])
  unfold f_R_receivedAt at hf
  refine lv_iconst (v := (0 : Int32)) hx hb d_R_receivedAt_0 (by decide) ?_
  refine lv_istore (lv' := [(4, .int (0 : Int32)), (0, .ref (L 0 0)), (1, .int a1), (2, .int a2), (3, .int a3)]) hx hb d_R_receivedAt_1 hl (by decide) rfl (fun ls hl => ?_)
  refine lv_sipush (v := (512 : Int32)) hx hb d_R_receivedAt_3 (by decide) ?_
  refine lv_iload_n hx hb d_R_receivedAt_6 rfl (lv_at hl 2 rfl) ?_
  refine lv_imul hx hb d_R_receivedAt_7 ?_
  refine lv_istore (lv' := [(5, .int ((512 : Int32) * a1)), (4, .int (0 : Int32)), (0, .ref (L 0 0)), (1, .int a1), (2, .int a2), (3, .int a3)]) hx hb d_R_receivedAt_8 hl (by decide) rfl (fun ls hl => ?_)
  obtain ⟨u1, hu1, hf⟩ := mm_bind hf
  refine w_R_receivedAt_l10 l G L F n hI hC hK σ a1 a2 a3 F (0 : Int32) ((512 : Int32) * a1) _ _ _ hu1 hW hS (lv_sub hl [2, 3, 4, 5, 1, 0] rfl) (fun H locs ls hW hS hl => ?_)
  refine lv_iload hx hb d_R_receivedAt_64 (lv_at hl 0 rfl) ?_
  obtain rfl := Option.some.inj hf
  exact W.iret (v := u1) hx hb hr (fun t ht hw => ⟨⟨_, (), rfl, rfl, (mm_back ht hw hW hK)⟩, hS.F ht⟩) hS.2.2 d_R_receivedAt_66
abbrev rm_R_sentWith : Room := { frames := 1, cells := 0, slots := 0, locals := 24 }
set_option maxHeartbeats 4000000 in
set_option maxRecDepth 100000 in
theorem w_R_sentWith_l9 (l : Launch) (G : ec_G) (L : mm_L) {p : Program} {e : Env} {s : State} {m : MethodId} {args : Array Value} {below : List Frame} {meth : Method} {c : Code} {H0 : Heap} {Q : State → Prop} (F n : Nat) (hI : mm_I (er_cnt n) L) (hC : CallFix p m c b_R_sentWith 7 s args tw_tbl "TwoPhaseCutsModel") (hK : va_K G.1 ec_cl (ec_T G) s) (σ : mm_M) (x1 : Int32) (x2 : Int32) (x3 : Int32) {out : Int32} :
    ∀ (K : Nat) (v4 : Int32) (v5 : Int32) (v6 : Int32) (H : Heap) (locs : List Loc) (ls : Array Slot), f_R_sentWith_l9 F n σ x1 x2 x3 K v4 v5 v6 = some out → mm_W G.1 ec_cl (er_cnt n) L (er_E G L n) σ H → va_S (mm_A (er_cnt n) L) H0 H locs → lv_has ls 7 [(0, .ref (L 0 0)), (1, .int x1), (2, .int x2), (3, .int x3), (4, .int v4), (5, .int v5), (6, .int v6)] →
    (∀ (H : Heap) (locs : List Loc) (ls : Array Slot), mm_W G.1 ec_cl (er_cnt n) L (er_E G L n) σ H → va_S (mm_A (er_cnt n) L) H0 H locs → lv_has ls 7 [(0, .ref (L 0 0)), (1, .int x1), (4, .int out)] → W p l e rm_R_sentWith s m args below meth c H locs 0 0 Q (F0 m 80 ls [])) →
    W p l e rm_R_sentWith s m args below meth c H locs 0 0 Q (F0 m 9 ls []) := by
  obtain ⟨hx, hb, hml, hown, hts⟩ := id hC
  intro K
  induction K with
  | zero =>
    intro v4 v5 v6 H locs ls hf
    simp [f_R_sentWith_l9] at hf
  | succ K ih =>
    intro v4 v5 v6 H locs ls hf hW hS hl kx
    rw [f_R_sentWith_l9] at hf
    refine lv_iload hx hb d_R_sentWith_9 (lv_at hl 6 rfl) ?_
    refine lv_aload_n hx hb d_R_sentWith_11 rfl (lv_at hl 0 rfl) ?_
    refine va_get (D := G.1) (ci := 6) (C := "TwoPhaseCutsModel") (T := T_R) (N := 27) (v := .ref (L 2 0)) hx hb hts ui_R hown hK (hW.one (k := 0) (i := 0) (Nat.zero_lt_one)) 0 rfl rfl 1 (by decide) (hts _ tw_375) (fun _ h9 => h9) rfl d_R_sentWith_12 ?_
    refine lv_iload_n hx hb d_R_sentWith_15 rfl (lv_at hl 1 rfl) ?_
    obtain ⟨hg1, hf⟩ := mm_guard hf
    refine va_iald (D := G.1) (cl := ec_cl) hx hb hK (hW.one (k := 2) (i := 0) (Nat.zero_lt_one)) 0 0 rfl rfl (mm_vp hg1) d_R_sentWith_16 ?_
    refine mm_top (y := (σ 2 0 (Int32.toNatClampNeg x1))) rfl ?_
    refine lv_icmp_ge (tgt := 80) hx hb d_R_sentWith_17 (by decide) (fun hc => ?_) (fun hc => ?_)
    · rw [if_pos hc] at hf
      obtain rfl := Option.some.inj hf
      exact kx _ _ _ hW hS (lv_sub hl [0, 1, 4] rfl)
    · rw [if_neg hc] at hf
      refine lv_iload hx hb d_R_sentWith_20 (lv_at hl 5 rfl) ?_
      refine lv_iload_n hx hb d_R_sentWith_22 rfl (lv_at hl 3 rfl) ?_
      refine lv_icmp_ge (tgt := 80) hx hb d_R_sentWith_23 (by decide) (fun hc => ?_) (fun hc => ?_)
      · rw [if_pos hc] at hf
        obtain rfl := Option.some.inj hf
        exact kx _ _ _ hW hS (lv_sub hl [0, 1, 4] rfl)
      · rw [if_neg hc] at hf
        refine lv_iload hx hb d_R_sentWith_26 (lv_at hl 5 rfl) ?_
        refine lv_aload_n hx hb d_R_sentWith_28 rfl (lv_at hl 0 rfl) ?_
        refine va_get (D := G.1) (ci := 6) (C := "TwoPhaseCutsModel") (T := T_R) (N := 27) (v := .ref (L 3 0)) hx hb hts ui_R hown hK (hW.one (k := 0) (i := 0) (Nat.zero_lt_one)) 0 rfl rfl 2 (by decide) (hts _ tw_376) (fun _ h9 => h9) rfl d_R_sentWith_29 ?_
        refine lv_sipush (v := (512 : Int32)) hx hb d_R_sentWith_32 (by decide) ?_
        refine lv_iload_n hx hb d_R_sentWith_35 rfl (lv_at hl 1 rfl) ?_
        refine lv_imul hx hb d_R_sentWith_36 ?_
        refine lv_iload hx hb d_R_sentWith_37 (lv_at hl 6 rfl) ?_
        refine lv_iadd hx hb d_R_sentWith_39 ?_
        obtain ⟨hg2, hf⟩ := mm_guard hf
        refine va_iald (D := G.1) (cl := ec_cl) hx hb hK (hW.one (k := 3) (i := 0) (Nat.zero_lt_one)) 0 0 rfl rfl (mm_vp hg2) d_R_sentWith_40 ?_
        refine mm_top (y := (σ 3 0 (Int32.toNatClampNeg (((512 : Int32) * x1) + v6)))) rfl ?_
        refine lv_iconst (v := (1 : Int32)) hx hb d_R_sentWith_41 (by decide) ?_
        obtain ⟨u1, hu1, hf⟩ := mm_bind hf
        have jp1 : ∀ (H : Heap) (locs : List Loc) (ls : Array Slot), mm_W G.1 ec_cl (er_cnt n) L (er_E G L n) σ H → va_S (mm_A (er_cnt n) L) H0 H locs → lv_has ls 7 [(0, .ref (L 0 0)), (1, .int x1), (2, .int x2), (3, .int x3), (6, .int v6)] → W p l e rm_R_sentWith s m args below meth c H locs 0 0 Q (F0 m 67 ls [.int u1, .int v5]) := by
          intro H locs ls hW hS hl
          refine lv_iadd hx hb d_R_sentWith_67 ?_
          refine lv_istore (lv' := [(5, .int (v5 + u1)), (0, .ref (L 0 0)), (1, .int x1), (2, .int x2), (3, .int x3), (6, .int v6)]) hx hb d_R_sentWith_68 hl (by decide) rfl (fun ls hl => ?_)
          refine lv_iload hx hb d_R_sentWith_70 (lv_at hl 5 rfl) ?_
          refine lv_istore (lv' := [(4, .int v6), (5, .int (v5 + u1)), (0, .ref (L 0 0)), (1, .int x1), (2, .int x2), (3, .int x3), (6, .int v6)]) hx hb d_R_sentWith_72 hl (by decide) rfl (fun ls hl => ?_)
          refine lv_iinc (v := (v6 + (1 : Int32))) (lv' := [(6, .int (v6 + (1 : Int32))), (4, .int v6), (5, .int (v5 + u1)), (0, .ref (L 0 0)), (1, .int x1), (2, .int x2), (3, .int x3)]) hx hb d_R_sentWith_74 hl (k := 6) rfl (mm_inc _) (by decide) rfl (fun ls hl => ?_)
          refine lv_goto (tgt := 9) hx hb d_R_sentWith_77 (by decide) ?_
          exact ih _ _ _ _ _ _ hf hW hS (lv_sub hl [3, 4, 5, 6, 1, 2, 0] rfl) kx
        clear hf
        have hf := hu1
        clear hu1
        refine lv_icmp_ne (tgt := 66) hx hb d_R_sentWith_42 (by decide) (fun hc => ?_) (fun hc => ?_)
        · rw [if_neg hc] at hf
          refine lv_iconst (v := (0 : Int32)) hx hb d_R_sentWith_66 (by decide) ?_
          obtain rfl := Option.some.inj hf
          exact jp1 _ _ _ hW hS (lv_sub hl [0, 1, 2, 3, 6] rfl)
        · rw [if_pos hc] at hf
          refine lv_aload_n hx hb d_R_sentWith_45 rfl (lv_at hl 0 rfl) ?_
          refine va_get (D := G.1) (ci := 6) (C := "TwoPhaseCutsModel") (T := T_R) (N := 27) (v := .ref (L 4 0)) hx hb hts ui_R hown hK (hW.one (k := 0) (i := 0) (Nat.zero_lt_one)) 0 rfl rfl 3 (by decide) (hts _ tw_377) (fun _ h9 => h9) rfl d_R_sentWith_46 ?_
          refine lv_sipush (v := (512 : Int32)) hx hb d_R_sentWith_49 (by decide) ?_
          refine lv_iload_n hx hb d_R_sentWith_52 rfl (lv_at hl 1 rfl) ?_
          refine lv_imul hx hb d_R_sentWith_53 ?_
          refine lv_iload hx hb d_R_sentWith_54 (lv_at hl 6 rfl) ?_
          refine lv_iadd hx hb d_R_sentWith_56 ?_
          refine va_iald (D := G.1) (cl := ec_cl) hx hb hK (hW.one (k := 4) (i := 0) (Nat.zero_lt_one)) 0 0 rfl rfl (mm_vp hg2) d_R_sentWith_57 ?_
          refine mm_top (y := (σ 4 0 (Int32.toNatClampNeg (((512 : Int32) * x1) + v6)))) rfl ?_
          refine lv_iload_n hx hb d_R_sentWith_58 rfl (lv_at hl 2 rfl) ?_
          refine lv_icmp_ne (tgt := 66) hx hb d_R_sentWith_59 (by decide) (fun hc => ?_) (fun hc => ?_)
          · rw [if_neg hc] at hf
            refine lv_iconst (v := (0 : Int32)) hx hb d_R_sentWith_66 (by decide) ?_
            obtain rfl := Option.some.inj hf
            exact jp1 _ _ _ hW hS (lv_sub hl [0, 1, 2, 3, 6] rfl)
          · rw [if_pos hc] at hf
            refine lv_iconst (v := (1 : Int32)) hx hb d_R_sentWith_62 (by decide) ?_
            refine lv_goto (tgt := 67) hx hb d_R_sentWith_63 (by decide) ?_
            obtain rfl := Option.some.inj hf
            exact jp1 _ _ _ hW hS (lv_sub hl [0, 1, 2, 3, 6] rfl)
set_option maxHeartbeats 4000000 in
set_option maxRecDepth 100000 in
theorem c_R_sentWith (l : Launch) (G : ec_G) (L : mm_L) (F n : Nat) (hI : mm_I (er_cnt n) L) (σ : mm_M) (a1 : Int32) (a2 : Int32) (a3 : Int32) {out : Int32} (hf : f_R_sentWith F n σ a1 a2 a3 = some out) :
    Met l y_R_sentWith (Cond.code y_R_sentWith b_R_sentWith 7 (some .int) :: tw_tbl) rm_R_sentWith (va_Pc [.ref (L 0 0), .int a1, .int a2, .int a3] (mm_pre G.1 ec_cl (ec_T G) (er_cnt n) L (er_E G L n) σ))
      (va_Qi (fun r (_ : Unit) => r = out) (fun _ t => mm_pre G.1 ec_cl (ec_T G) (er_cnt n) L (er_E G L n) σ t) (mm_A (er_cnt n) L)) 0 0 (mm_A (er_cnt n) L) := by
  refine Met.ofW (cc := b_R_sentWith) (maxL := 7) (ret := (some .int)) (by decide) rfl ?_
  intro p e s m args below meth c s₁ B hml hv
  obtain ⟨rfl, hW, hK⟩ := hv
  have hx := B.exec
  have hb := B.bytes
  have hr := B.returns
  have hts0 := atoms_spec (ws := Cond.code y_R_sentWith b_R_sentWith 7 (some .int) :: tw_tbl) B.pre
  have hts : ∀ w ∈ tw_tbl, w.before [.ref (L 0 0), .int a1, .int a2, .int a3].toArray s = true := fun w h => hts0 w (List.mem_cons_of_mem _ h)
  clear hts0
  have hown : s.vm.findClass "TwoPhaseCutsModel" = some m.cls := findClass_of_methodNamed B.named
  have hlocks := B.notSynchronized
  have hC : CallFix p m c b_R_sentWith 7 s [.ref (L 0 0), .int a1, .int a2, .int a3].toArray tw_tbl "TwoPhaseCutsModel" := ⟨hx, hb, hml, hown, hts⟩
  have hS : va_S (mm_A (er_cnt n) L) s.heap s.heap [] := va_S.rf
  have hl := lv_entry ([.ref (L 0 0), .int a1, .int a2, .int a3]) (n := 7) (Nat.le_of_ble_eq_true rfl)
  rw [lg_entry_eq]
  generalize (lg_sl ([.ref (L 0 0), .int a1, .int a2, .int a3]) ++ List.replicate (7 - (lg_sl ([.ref (L 0 0), .int a1, .int a2, .int a3])).length) Slot.unset).toArray = ls at hl ⊢
  have hl : lv_has ls 7 [(0, .ref (L 0 0)), (1, .int a1), (2, .int a2), (3, .int a3)] := hl
  have hW : mm_W G.1 ec_cl (er_cnt n) L (er_E G L n) σ s.heap := hW
  clear B
  show W p l e rm_R_sentWith s m [.ref (L 0 0), .int a1, .int a2, .int a3].toArray below meth c s.heap [] 0 0 (MQ below (va_Qi (fun r (_ : Unit) => r = out) (fun _ t => mm_pre G.1 ec_cl (ec_T G) (er_cnt n) L (er_E G L n) σ t) (mm_A (er_cnt n) L)) [.ref (L 0 0), .int a1, .int a2, .int a3].toArray s 0 0 (mm_A (er_cnt n) L)) (F0 m 0 ls [])
  unfold f_R_sentWith at hf
  refine lv_iconst (v := (0 : Int32)) hx hb d_R_sentWith_0 (by decide) ?_
  refine lv_istore (lv' := [(4, .int (0 : Int32)), (0, .ref (L 0 0)), (1, .int a1), (2, .int a2), (3, .int a3)]) hx hb d_R_sentWith_1 hl (by decide) rfl (fun ls hl => ?_)
  refine lv_iconst (v := (0 : Int32)) hx hb d_R_sentWith_3 (by decide) ?_
  refine lv_istore (lv' := [(5, .int (0 : Int32)), (4, .int (0 : Int32)), (0, .ref (L 0 0)), (1, .int a1), (2, .int a2), (3, .int a3)]) hx hb d_R_sentWith_4 hl (by decide) rfl (fun ls hl => ?_)
  refine lv_iconst (v := (0 : Int32)) hx hb d_R_sentWith_6 (by decide) ?_
  refine lv_istore (lv' := [(6, .int (0 : Int32)), (5, .int (0 : Int32)), (4, .int (0 : Int32)), (0, .ref (L 0 0)), (1, .int a1), (2, .int a2), (3, .int a3)]) hx hb d_R_sentWith_7 hl (by decide) rfl (fun ls hl => ?_)
  obtain ⟨u1, hu1, hf⟩ := mm_bind hf
  refine w_R_sentWith_l9 l G L F n hI hC hK σ a1 a2 a3 F (0 : Int32) (0 : Int32) (0 : Int32) _ _ _ hu1 hW hS (lv_sub hl [3, 4, 5, 6, 2, 1, 0] rfl) (fun H locs ls hW hS hl => ?_)
  refine lv_aload_n hx hb d_R_sentWith_80 rfl (lv_at hl 0 rfl) ?_
  refine lv_iload_n hx hb d_R_sentWith_81 rfl (lv_at hl 1 rfl) ?_
  refine lv_iload hx hb d_R_sentWith_82 (lv_at hl 2 rfl) ?_
  obtain ⟨u2, hu2, hf⟩ := mm_bind hf
  refine mm_calli (va_runV (As := [.int a1, .int u1]) (rest := []) hC (c_R_valueAt l G L F n hI σ a1 u1 hu2) (cwV 2 hts (tw_gV tw_496 tw_498 ts_21 tw_8 tw_499) rfl rfl rfl (by decide +kernel) ⟨Nat.le_of_ble_eq_true rfl, Nat.le_of_ble_eq_true rfl⟩) (mm_preV hK hW (k := 0) (i := 0) (Nat.zero_lt_one) rfl rfl) rfl rfl hl.1 rfl (lv_room (Nat.le_of_ble_eq_true rfl)) d_R_sentWith_84 ⟨Nat.zero_le _, Nat.zero_le _⟩) hS (fun _ h => h) (fun H locs hW _ _ hS => ?_)
  obtain rfl := Option.some.inj hf
  exact W.iret (v := u2) hx hb hr (fun t ht hw => ⟨⟨_, (), rfl, rfl, (mm_back ht hw hW hK)⟩, hS.F ht⟩) hS.2.2 d_R_sentWith_87
abbrev rm_R_inChannel : Room := { frames := 1, cells := 0, slots := 0, locals := 25 }
set_option maxHeartbeats 4000000 in
set_option maxRecDepth 100000 in
theorem c_R_inChannel (l : Launch) (G : ec_G) (L : mm_L) (F n : Nat) (hI : mm_I (er_cnt n) L) (σ : mm_M) (a1 : Int32) (a2 : Int32) {out : Int32} (hf : f_R_inChannel F n σ a1 a2 = some out) :
    Met l y_R_inChannel (Cond.code y_R_inChannel b_R_inChannel 3 (some .int) :: tw_tbl) rm_R_inChannel (va_Pc [.ref (L 0 0), .int a1, .int a2] (mm_pre G.1 ec_cl (ec_T G) (er_cnt n) L (er_E G L n) σ))
      (va_Qi (fun r (_ : Unit) => r = out) (fun _ t => mm_pre G.1 ec_cl (ec_T G) (er_cnt n) L (er_E G L n) σ t) (mm_A (er_cnt n) L)) 0 0 (mm_A (er_cnt n) L) := by
  refine Met.ofW (cc := b_R_inChannel) (maxL := 3) (ret := (some .int)) (by decide) rfl ?_
  intro p e s m args below meth c s₁ B hml hv
  obtain ⟨rfl, hW, hK⟩ := hv
  have hx := B.exec
  have hb := B.bytes
  have hr := B.returns
  have hts0 := atoms_spec (ws := Cond.code y_R_inChannel b_R_inChannel 3 (some .int) :: tw_tbl) B.pre
  have hts : ∀ w ∈ tw_tbl, w.before [.ref (L 0 0), .int a1, .int a2].toArray s = true := fun w h => hts0 w (List.mem_cons_of_mem _ h)
  clear hts0
  have hown : s.vm.findClass "TwoPhaseCutsModel" = some m.cls := findClass_of_methodNamed B.named
  have hlocks := B.notSynchronized
  have hC : CallFix p m c b_R_inChannel 3 s [.ref (L 0 0), .int a1, .int a2].toArray tw_tbl "TwoPhaseCutsModel" := ⟨hx, hb, hml, hown, hts⟩
  have hS : va_S (mm_A (er_cnt n) L) s.heap s.heap [] := va_S.rf
  have hl := lv_entry ([.ref (L 0 0), .int a1, .int a2]) (n := 3) (Nat.le_of_ble_eq_true rfl)
  rw [lg_entry_eq]
  generalize (lg_sl ([.ref (L 0 0), .int a1, .int a2]) ++ List.replicate (3 - (lg_sl ([.ref (L 0 0), .int a1, .int a2])).length) Slot.unset).toArray = ls at hl ⊢
  have hl : lv_has ls 3 [(0, .ref (L 0 0)), (1, .int a1), (2, .int a2)] := hl
  have hW : mm_W G.1 ec_cl (er_cnt n) L (er_E G L n) σ s.heap := hW
  clear B
  show W p l e rm_R_inChannel s m [.ref (L 0 0), .int a1, .int a2].toArray below meth c s.heap [] 0 0 (MQ below (va_Qi (fun r (_ : Unit) => r = out) (fun _ t => mm_pre G.1 ec_cl (ec_T G) (er_cnt n) L (er_E G L n) σ t) (mm_A (er_cnt n) L)) [.ref (L 0 0), .int a1, .int a2].toArray s 0 0 (mm_A (er_cnt n) L)) (F0 m 0 ls [])
  unfold f_R_inChannel at hf
  refine lv_aload_n hx hb d_R_inChannel_0 rfl (lv_at hl 0 rfl) ?_
  refine lv_iload_n hx hb d_R_inChannel_1 rfl (lv_at hl 1 rfl) ?_
  refine lv_iload_n hx hb d_R_inChannel_2 rfl (lv_at hl 2 rfl) ?_
  refine lv_aload_n hx hb d_R_inChannel_3 rfl (lv_at hl 0 rfl) ?_
  refine va_get (D := G.1) (ci := 6) (C := "TwoPhaseCutsModel") (T := T_R) (N := 27) (v := .ref (L 2 0)) hx hb hts ui_R hown hK (hW.one (k := 0) (i := 0) (Nat.zero_lt_one)) 0 rfl rfl 1 (by decide) (hts _ tw_375) (fun _ h9 => h9) rfl d_R_inChannel_4 ?_
  refine lv_iload_n hx hb d_R_inChannel_7 rfl (lv_at hl 1 rfl) ?_
  obtain ⟨hg1, hf⟩ := mm_guard hf
  refine va_iald (D := G.1) (cl := ec_cl) hx hb hK (hW.one (k := 2) (i := 0) (Nat.zero_lt_one)) 0 0 rfl rfl (mm_vp hg1) d_R_inChannel_8 ?_
  refine mm_top (y := (σ 2 0 (Int32.toNatClampNeg a1))) rfl ?_
  obtain ⟨u1, hu1, hf⟩ := mm_bind hf
  refine mm_calli (va_runV (As := [.int a1, .int a2, .int (σ 2 0 (Int32.toNatClampNeg a1))]) (rest := []) hC (c_R_sentAt l G L F n hI σ a1 a2 (σ 2 0 (Int32.toNatClampNeg a1)) hu1) (cwV 3 hts (tw_gV tw_484 tw_486 ts_19 tw_8 tw_487) rfl rfl rfl (by decide +kernel) ⟨Nat.le_of_ble_eq_true rfl, Nat.le_of_ble_eq_true rfl⟩) (mm_preV hK hW (k := 0) (i := 0) (Nat.zero_lt_one) rfl rfl) rfl rfl hl.1 rfl (lv_room (Nat.le_of_ble_eq_true rfl)) d_R_inChannel_9 ⟨Nat.zero_le _, Nat.zero_le _⟩) hS (fun _ h => h) (fun H locs hW _ _ hS => ?_)
  refine lv_aload_n hx hb d_R_inChannel_12 rfl (lv_at hl 0 rfl) ?_
  refine va_get (D := G.1) (ci := 6) (C := "TwoPhaseCutsModel") (T := T_R) (N := 27) (v := .ref (L 9 0)) hx hb hts ui_R hown hK (hW.one (k := 0) (i := 0) (Nat.zero_lt_one)) 0 rfl rfl 8 (by decide) (hts _ tw_382) (fun _ h9 => h9) rfl d_R_inChannel_13 ?_
  refine lv_iconst (v := (5 : Int32)) hx hb d_R_inChannel_16 (by decide) ?_
  refine lv_iload_n hx hb d_R_inChannel_17 rfl (lv_at hl 1 rfl) ?_
  refine lv_imul hx hb d_R_inChannel_18 ?_
  refine lv_iload_n hx hb d_R_inChannel_19 rfl (lv_at hl 2 rfl) ?_
  refine lv_iadd hx hb d_R_inChannel_20 ?_
  obtain ⟨hg2, hf⟩ := mm_guard hf
  refine va_iald (D := G.1) (cl := ec_cl) hx hb hK (hW.one (k := 9) (i := 0) (Nat.zero_lt_one)) 0 0 rfl rfl (mm_vp hg2) d_R_inChannel_21 ?_
  refine mm_top (y := (σ 9 0 (Int32.toNatClampNeg (((5 : Int32) * a1) + a2)))) rfl ?_
  refine lv_isub hx hb d_R_inChannel_22 ?_
  obtain rfl := Option.some.inj hf
  exact W.iret (v := (u1 - (σ 9 0 (Int32.toNatClampNeg (((5 : Int32) * a1) + a2))))) hx hb hr (fun t ht hw => ⟨⟨_, (), rfl, rfl, (mm_back ht hw hW hK)⟩, hS.F ht⟩) hS.2.2 d_R_inChannel_23
abbrev rm_R_note : Room := { frames := 0, cells := 0, slots := 0, locals := 0 }
set_option maxHeartbeats 4000000 in
set_option maxRecDepth 100000 in
theorem c_R_note (l : Launch) (G : ec_G) (L : mm_L) (F n : Nat) (hI : mm_I (er_cnt n) L) (σ : mm_M) (a1 : Int32) (a2 : Int32) (a3 : Int32) (a4 : Int32) (a5 : Int32) {out : Int32 × mm_M} (hf : f_R_note F n σ a1 a2 a3 a4 a5 = some out) :
    Met l y_R_note (Cond.code y_R_note b_R_note 7 (some .int) :: tw_tbl) rm_R_note (va_Pc [.ref (L 0 0), .int a1, .int a2, .int a3, .int a4, .int a5] (mm_pre G.1 ec_cl (ec_T G) (er_cnt n) L (er_E G L n) σ))
      (va_Qi (fun r (_ : Unit) => r = out.1) (fun _ t => mm_pre G.1 ec_cl (ec_T G) (er_cnt n) L (er_E G L n) out.2 t) (mm_A (er_cnt n) L)) 0 0 (mm_A (er_cnt n) L) := by
  refine Met.ofW (cc := b_R_note) (maxL := 7) (ret := (some .int)) (by decide) rfl ?_
  intro p e s m args below meth c s₁ B hml hv
  obtain ⟨rfl, hW, hK⟩ := hv
  have hx := B.exec
  have hb := B.bytes
  have hr := B.returns
  have hts0 := atoms_spec (ws := Cond.code y_R_note b_R_note 7 (some .int) :: tw_tbl) B.pre
  have hts : ∀ w ∈ tw_tbl, w.before [.ref (L 0 0), .int a1, .int a2, .int a3, .int a4, .int a5].toArray s = true := fun w h => hts0 w (List.mem_cons_of_mem _ h)
  clear hts0
  have hown : s.vm.findClass "TwoPhaseCutsModel" = some m.cls := findClass_of_methodNamed B.named
  have hlocks := B.notSynchronized
  have hC : CallFix p m c b_R_note 7 s [.ref (L 0 0), .int a1, .int a2, .int a3, .int a4, .int a5].toArray tw_tbl "TwoPhaseCutsModel" := ⟨hx, hb, hml, hown, hts⟩
  have hS : va_S (mm_A (er_cnt n) L) s.heap s.heap [] := va_S.rf
  have hl := lv_entry ([.ref (L 0 0), .int a1, .int a2, .int a3, .int a4, .int a5]) (n := 7) (Nat.le_of_ble_eq_true rfl)
  rw [lg_entry_eq]
  generalize (lg_sl ([.ref (L 0 0), .int a1, .int a2, .int a3, .int a4, .int a5]) ++ List.replicate (7 - (lg_sl ([.ref (L 0 0), .int a1, .int a2, .int a3, .int a4, .int a5])).length) Slot.unset).toArray = ls at hl ⊢
  have hl : lv_has ls 7 [(0, .ref (L 0 0)), (1, .int a1), (2, .int a2), (3, .int a3), (4, .int a4), (5, .int a5)] := hl
  have hW : mm_W G.1 ec_cl (er_cnt n) L (er_E G L n) σ s.heap := hW
  clear B
  show W p l e rm_R_note s m [.ref (L 0 0), .int a1, .int a2, .int a3, .int a4, .int a5].toArray below meth c s.heap [] 0 0 (MQ below (va_Qi (fun r (_ : Unit) => r = out.1) (fun _ t => mm_pre G.1 ec_cl (ec_T G) (er_cnt n) L (er_E G L n) out.2 t) (mm_A (er_cnt n) L)) [.ref (L 0 0), .int a1, .int a2, .int a3, .int a4, .int a5].toArray s 0 0 (mm_A (er_cnt n) L)) (F0 m 0 ls [])
  unfold f_R_note at hf
  refine lv_sipush (v := (512 : Int32)) hx hb d_R_note_0 (by decide) ?_
  refine lv_iload_n hx hb d_R_note_3 rfl (lv_at hl 1 rfl) ?_
  refine lv_imul hx hb d_R_note_4 ?_
  refine lv_aload_n hx hb d_R_note_5 rfl (lv_at hl 0 rfl) ?_
  refine va_get (D := G.1) (ci := 6) (C := "TwoPhaseCutsModel") (T := T_R) (N := 27) (v := .ref (L 2 0)) hx hb hts ui_R hown hK (hW.one (k := 0) (i := 0) (Nat.zero_lt_one)) 0 rfl rfl 1 (by decide) (hts _ tw_375) (fun _ h9 => h9) rfl d_R_note_6 ?_
  refine lv_iload_n hx hb d_R_note_9 rfl (lv_at hl 1 rfl) ?_
  obtain ⟨hg1, hf⟩ := mm_guard hf
  refine va_iald (D := G.1) (cl := ec_cl) hx hb hK (hW.one (k := 2) (i := 0) (Nat.zero_lt_one)) 0 0 rfl rfl (mm_vp hg1) d_R_note_10 ?_
  refine mm_top (y := (σ 2 0 (Int32.toNatClampNeg a1))) rfl ?_
  refine lv_iadd hx hb d_R_note_11 ?_
  refine lv_istore (lv' := [(6, .int (((512 : Int32) * a1) + (σ 2 0 (Int32.toNatClampNeg a1)))), (0, .ref (L 0 0)), (1, .int a1), (2, .int a2), (3, .int a3), (4, .int a4), (5, .int a5)]) hx hb d_R_note_12 hl (by decide) rfl (fun ls hl => ?_)
  refine lv_aload_n hx hb d_R_note_14 rfl (lv_at hl 1 rfl) ?_
  refine va_get (D := G.1) (ci := 6) (C := "TwoPhaseCutsModel") (T := T_R) (N := 27) (v := .ref (L 3 0)) hx hb hts ui_R hown hK (hW.one (k := 0) (i := 0) (Nat.zero_lt_one)) 0 rfl rfl 2 (by decide) (hts _ tw_376) (fun _ h9 => h9) rfl d_R_note_15 ?_
  refine lv_iload hx hb d_R_note_18 (lv_at hl 0 rfl) ?_
  refine lv_iload_n hx hb d_R_note_20 rfl (lv_at hl 3 rfl) ?_
  obtain ⟨hg2, hf⟩ := mm_guard hf
  refine mm_iast hx hb hK hI hW hS (k := 3) (i := 0) (Nat.zero_lt_one) (fun _ => rfl) (t0 := 0) rfl (mm_vp hg2) d_R_note_21 (fun H locs hW hS => ?_)
  refine lv_aload_n hx hb d_R_note_22 rfl (lv_at hl 1 rfl) ?_
  refine va_get (D := G.1) (ci := 6) (C := "TwoPhaseCutsModel") (T := T_R) (N := 27) (v := .ref (L 4 0)) hx hb hts ui_R hown hK (hW.one (k := 0) (i := 0) (Nat.zero_lt_one)) 0 rfl rfl 3 (by decide) (hts _ tw_377) (fun _ h9 => h9) rfl d_R_note_23 ?_
  refine lv_iload hx hb d_R_note_26 (lv_at hl 0 rfl) ?_
  refine lv_iload_n hx hb d_R_note_28 rfl (lv_at hl 4 rfl) ?_
  refine mm_iast hx hb hK hI hW hS (k := 4) (i := 0) (Nat.zero_lt_one) (fun _ => rfl) (t0 := 0) rfl (mm_vp hg2) d_R_note_29 (fun H locs hW hS => ?_)
  refine lv_aload_n hx hb d_R_note_30 rfl (lv_at hl 1 rfl) ?_
  refine va_get (D := G.1) (ci := 6) (C := "TwoPhaseCutsModel") (T := T_R) (N := 27) (v := .ref (L 5 0)) hx hb hts ui_R hown hK (hW.one (k := 0) (i := 0) (Nat.zero_lt_one)) 0 rfl rfl 4 (by decide) (hts _ tw_378) (fun _ h9 => h9) rfl d_R_note_31 ?_
  refine lv_iload hx hb d_R_note_34 (lv_at hl 0 rfl) ?_
  refine lv_iload hx hb d_R_note_36 (lv_at hl 5 rfl) ?_
  refine mm_iast hx hb hK hI hW hS (k := 5) (i := 0) (Nat.zero_lt_one) (fun _ => rfl) (t0 := 0) rfl (mm_vp hg2) d_R_note_38 (fun H locs hW hS => ?_)
  refine lv_aload_n hx hb d_R_note_39 rfl (lv_at hl 1 rfl) ?_
  refine va_get (D := G.1) (ci := 6) (C := "TwoPhaseCutsModel") (T := T_R) (N := 27) (v := .ref (L 6 0)) hx hb hts ui_R hown hK (hW.one (k := 0) (i := 0) (Nat.zero_lt_one)) 0 rfl rfl 5 (by decide) (hts _ tw_379) (fun _ h9 => h9) rfl d_R_note_40 ?_
  refine lv_iload hx hb d_R_note_43 (lv_at hl 0 rfl) ?_
  refine lv_iload hx hb d_R_note_45 (lv_at hl 6 rfl) ?_
  refine mm_iast hx hb hK hI hW hS (k := 6) (i := 0) (Nat.zero_lt_one) (fun _ => rfl) (t0 := 0) rfl (mm_vp hg2) d_R_note_47 (fun H locs hW hS => ?_)
  refine lv_aload_n hx hb d_R_note_48 rfl (lv_at hl 1 rfl) ?_
  refine va_get (D := G.1) (ci := 6) (C := "TwoPhaseCutsModel") (T := T_R) (N := 27) (v := .ref (L 2 0)) hx hb hts ui_R hown hK (hW.one (k := 0) (i := 0) (Nat.zero_lt_one)) 0 rfl rfl 1 (by decide) (hts _ tw_375) (fun _ h9 => h9) rfl d_R_note_49 ?_
  refine lv_iload_n hx hb d_R_note_52 rfl (lv_at hl 2 rfl) ?_
  refine lv_dup2_11 hx hb d_R_note_53 rfl rfl ?_
  refine va_iald (D := G.1) (cl := ec_cl) hx hb hK (hW.one (k := 2) (i := 0) (Nat.zero_lt_one)) 0 0 rfl rfl (mm_vp hg1) d_R_note_54 ?_
  refine mm_top (y := (σ 2 0 (Int32.toNatClampNeg a1))) rfl ?_
  refine lv_iconst (v := (1 : Int32)) hx hb d_R_note_55 (by decide) ?_
  refine lv_iadd hx hb d_R_note_56 ?_
  refine mm_iast hx hb hK hI hW hS (k := 2) (i := 0) (Nat.zero_lt_one) (fun _ => rfl) (t0 := 0) rfl (mm_vp hg1) d_R_note_57 (fun H locs hW hS => ?_)
  refine lv_iconst (v := (0 : Int32)) hx hb d_R_note_58 (by decide) ?_
  obtain rfl := Option.some.inj hf
  exact W.iret (v := (0 : Int32)) hx hb hr (fun t ht hw => ⟨⟨_, (), rfl, rfl, (mm_back ht hw hW hK)⟩, hS.F ht⟩) hS.2.2 d_R_note_59
abbrev rm_R_stands : Room := { frames := 0, cells := 0, slots := 0, locals := 0 }
set_option maxHeartbeats 4000000 in
set_option maxRecDepth 100000 in
theorem c_R_stands (l : Launch) (G : ec_G) (L : mm_L) (F n : Nat) (hI : mm_I (er_cnt n) L) (σ : mm_M) (a1 : Int32) {out : Int32} (hf : f_R_stands F n σ a1 = some out) :
    Met l y_R_stands (Cond.code y_R_stands b_R_stands 2 (some .boolean) :: tw_tbl) rm_R_stands (va_Pc [.ref (L 0 0), .int a1] (mm_pre G.1 ec_cl (ec_T G) (er_cnt n) L (er_E G L n) σ))
      (va_Qi (fun r (_ : Unit) => r = out) (fun _ t => mm_pre G.1 ec_cl (ec_T G) (er_cnt n) L (er_E G L n) σ t) (mm_A (er_cnt n) L)) 0 0 (mm_A (er_cnt n) L) := by
  refine Met.ofW (cc := b_R_stands) (maxL := 2) (ret := (some .boolean)) (by decide) rfl ?_
  intro p e s m args below meth c s₁ B hml hv
  obtain ⟨rfl, hW, hK⟩ := hv
  have hx := B.exec
  have hb := B.bytes
  have hr := B.returns
  have hts0 := atoms_spec (ws := Cond.code y_R_stands b_R_stands 2 (some .boolean) :: tw_tbl) B.pre
  have hts : ∀ w ∈ tw_tbl, w.before [.ref (L 0 0), .int a1].toArray s = true := fun w h => hts0 w (List.mem_cons_of_mem _ h)
  clear hts0
  have hown : s.vm.findClass "TwoPhaseCutsModel" = some m.cls := findClass_of_methodNamed B.named
  have hlocks := B.notSynchronized
  have hC : CallFix p m c b_R_stands 2 s [.ref (L 0 0), .int a1].toArray tw_tbl "TwoPhaseCutsModel" := ⟨hx, hb, hml, hown, hts⟩
  have hS : va_S (mm_A (er_cnt n) L) s.heap s.heap [] := va_S.rf
  have hl := lv_entry ([.ref (L 0 0), .int a1]) (n := 2) (Nat.le_of_ble_eq_true rfl)
  rw [lg_entry_eq]
  generalize (lg_sl ([.ref (L 0 0), .int a1]) ++ List.replicate (2 - (lg_sl ([.ref (L 0 0), .int a1])).length) Slot.unset).toArray = ls at hl ⊢
  have hl : lv_has ls 2 [(0, .ref (L 0 0)), (1, .int a1)] := hl
  have hW : mm_W G.1 ec_cl (er_cnt n) L (er_E G L n) σ s.heap := hW
  clear B
  show W p l e rm_R_stands s m [.ref (L 0 0), .int a1].toArray below meth c s.heap [] 0 0 (MQ below (va_Qi (fun r (_ : Unit) => r = out) (fun _ t => mm_pre G.1 ec_cl (ec_T G) (er_cnt n) L (er_E G L n) σ t) (mm_A (er_cnt n) L)) [.ref (L 0 0), .int a1].toArray s 0 0 (mm_A (er_cnt n) L)) (F0 m 0 ls [])
  unfold f_R_stands at hf
  refine lv_aload_n hx hb d_R_stands_0 rfl (lv_at hl 0 rfl) ?_
  refine va_get (D := G.1) (ci := 6) (C := "TwoPhaseCutsModel") (T := T_R) (N := 27) (v := .ref (L 11 0)) hx hb hts ui_R hown hK (hW.one (k := 0) (i := 0) (Nat.zero_lt_one)) 0 rfl rfl 10 (by decide) (hts _ tw_384) (fun _ h9 => h9) rfl d_R_stands_1 ?_
  refine lv_iload_n hx hb d_R_stands_4 rfl (lv_at hl 1 rfl) ?_
  obtain ⟨hg1, hf⟩ := mm_guard hf
  refine va_iald (D := G.1) (cl := ec_cl) hx hb hK (hW.one (k := 11) (i := 0) (Nat.zero_lt_one)) 0 0 rfl rfl (mm_vp hg1) d_R_stands_5 ?_
  refine mm_top (y := (σ 11 0 (Int32.toNatClampNeg a1))) rfl ?_
  obtain ⟨u1, hu1, hf⟩ := mm_bind hf
  have jp1 : ∀ (H : Heap) (locs : List Loc) (ls : Array Slot), mm_W G.1 ec_cl (er_cnt n) L (er_E G L n) σ H → va_S (mm_A (er_cnt n) L) s.heap H locs → lv_has ls 2 [] → W p l e rm_R_stands s m [.ref (L 0 0), .int a1].toArray below meth c H locs 0 0 (MQ below (va_Qi (fun r (_ : Unit) => r = out) (fun _ t => mm_pre G.1 ec_cl (ec_T G) (er_cnt n) L (er_E G L n) σ t) (mm_A (er_cnt n) L)) [.ref (L 0 0), .int a1].toArray s 0 0 (mm_A (er_cnt n) L)) (F0 m 23 ls [.int u1]) := by
    intro H locs ls hW hS hl
    obtain ⟨hz2, hf⟩ := mm_guard hf
    obtain rfl := Option.some.inj hf
    exact W.zret (v := u1) hx hb hr (mm_zn hz2) (fun t ht hw => ⟨⟨_, (), rfl, rfl, (mm_back ht hw hW hK)⟩, hS.F ht⟩) hS.2.2 d_R_stands_23
  clear hf
  have hf := hu1
  clear hu1
  refine lv_if_le (tgt := 22) hx hb d_R_stands_6 (by decide) (fun hc => ?_) (fun hc => ?_)
  · rw [if_pos hc] at hf
    refine lv_iconst (v := (0 : Int32)) hx hb d_R_stands_22 (by decide) ?_
    obtain rfl := Option.some.inj hf
    exact jp1 _ _ _ hW hS (lv_sub hl [] rfl)
  · rw [if_neg hc] at hf
    refine lv_aload_n hx hb d_R_stands_9 rfl (lv_at hl 0 rfl) ?_
    refine va_get (D := G.1) (ci := 6) (C := "TwoPhaseCutsModel") (T := T_R) (N := 27) (v := .ref (L 12 0)) hx hb hts ui_R hown hK (hW.one (k := 0) (i := 0) (Nat.zero_lt_one)) 0 rfl rfl 11 (by decide) (hts _ tw_385) (fun _ h9 => h9) rfl d_R_stands_10 ?_
    refine lv_iload_n hx hb d_R_stands_13 rfl (lv_at hl 1 rfl) ?_
    refine va_zald (D := G.1) (cl := ec_cl) hx hb hK (hW.one (k := 12) (i := 0) (Nat.zero_lt_one)) 0 1 rfl rfl (mm_vp hg1) d_R_stands_14 ?_
    refine mm_top (y := (σ 12 0 (Int32.toNatClampNeg a1))) rfl ?_
    refine lv_if_eq (tgt := 22) hx hb d_R_stands_15 (by decide) (fun hc => ?_) (fun hc => ?_)
    · rw [if_pos hc] at hf
      refine lv_iconst (v := (0 : Int32)) hx hb d_R_stands_22 (by decide) ?_
      obtain rfl := Option.some.inj hf
      exact jp1 _ _ _ hW hS (lv_sub hl [] rfl)
    · rw [if_neg hc] at hf
      refine lv_iconst (v := (1 : Int32)) hx hb d_R_stands_18 (by decide) ?_
      refine lv_goto (tgt := 23) hx hb d_R_stands_19 (by decide) ?_
      obtain rfl := Option.some.inj hf
      exact jp1 _ _ _ hW hS (lv_sub hl [] rfl)
abbrev rm_R_work : Room := { frames := 1, cells := 0, slots := 0, locals := 26 }
set_option maxHeartbeats 4000000 in
set_option maxRecDepth 100000 in
theorem c_R_work (l : Launch) (G : ec_G) (L : mm_L) (F n : Nat) (hI : mm_I (er_cnt n) L) (σ : mm_M) (a1 : Int32) (a2 : Int32) {out : Int32 × mm_M} (hf : f_R_work F n σ a1 a2 = some out) :
    Met l y_R_work (Cond.code y_R_work b_R_work 3 (some .int) :: tw_tbl) rm_R_work (va_Pc [.ref (L 0 0), .int a1, .int a2] (mm_pre G.1 ec_cl (ec_T G) (er_cnt n) L (er_E G L n) σ))
      (va_Qi (fun r (_ : Unit) => r = out.1) (fun _ t => mm_pre G.1 ec_cl (ec_T G) (er_cnt n) L (er_E G L n) out.2 t) (mm_A (er_cnt n) L)) 0 0 (mm_A (er_cnt n) L) := by
  refine Met.ofW (cc := b_R_work) (maxL := 3) (ret := (some .int)) (by decide) rfl ?_
  intro p e s m args below meth c s₁ B hml hv
  obtain ⟨rfl, hW, hK⟩ := hv
  have hx := B.exec
  have hb := B.bytes
  have hr := B.returns
  have hts0 := atoms_spec (ws := Cond.code y_R_work b_R_work 3 (some .int) :: tw_tbl) B.pre
  have hts : ∀ w ∈ tw_tbl, w.before [.ref (L 0 0), .int a1, .int a2].toArray s = true := fun w h => hts0 w (List.mem_cons_of_mem _ h)
  clear hts0
  have hown : s.vm.findClass "TwoPhaseCutsModel" = some m.cls := findClass_of_methodNamed B.named
  have hlocks := B.notSynchronized
  have hC : CallFix p m c b_R_work 3 s [.ref (L 0 0), .int a1, .int a2].toArray tw_tbl "TwoPhaseCutsModel" := ⟨hx, hb, hml, hown, hts⟩
  have hS : va_S (mm_A (er_cnt n) L) s.heap s.heap [] := va_S.rf
  have hl := lv_entry ([.ref (L 0 0), .int a1, .int a2]) (n := 3) (Nat.le_of_ble_eq_true rfl)
  rw [lg_entry_eq]
  generalize (lg_sl ([.ref (L 0 0), .int a1, .int a2]) ++ List.replicate (3 - (lg_sl ([.ref (L 0 0), .int a1, .int a2])).length) Slot.unset).toArray = ls at hl ⊢
  have hl : lv_has ls 3 [(0, .ref (L 0 0)), (1, .int a1), (2, .int a2)] := hl
  have hW : mm_W G.1 ec_cl (er_cnt n) L (er_E G L n) σ s.heap := hW
  clear B
  show W p l e rm_R_work s m [.ref (L 0 0), .int a1, .int a2].toArray below meth c s.heap [] 0 0 (MQ below (va_Qi (fun r (_ : Unit) => r = out.1) (fun _ t => mm_pre G.1 ec_cl (ec_T G) (er_cnt n) L (er_E G L n) out.2 t) (mm_A (er_cnt n) L)) [.ref (L 0 0), .int a1, .int a2].toArray s 0 0 (mm_A (er_cnt n) L)) (F0 m 0 ls [])
  unfold f_R_work at hf
  refine lv_aload_n hx hb d_R_work_0 rfl (lv_at hl 0 rfl) ?_
  refine lv_iload_n hx hb d_R_work_1 rfl (lv_at hl 1 rfl) ?_
  obtain ⟨u1, hu1, hf⟩ := mm_bind hf
  refine mm_calli (va_runV (As := [.int a1]) (rest := []) hC (c_R_is l G L F n hI σ a1 hu1) (cwV 1 hts (tw_gV tw_460 tw_462 ts_14 tw_8 tw_463) rfl rfl rfl (by decide +kernel) ⟨Nat.le_of_ble_eq_true rfl, Nat.le_of_ble_eq_true rfl⟩) (mm_preV hK hW (k := 0) (i := 0) (Nat.zero_lt_one) rfl rfl) rfl rfl hl.1 rfl (lv_room (Nat.le_of_ble_eq_true rfl)) d_R_work_2 ⟨Nat.zero_le _, Nat.zero_le _⟩) hS (fun _ h => h) (fun H locs hW _ _ hS => ?_)
  refine lv_if_ne (tgt := 10) hx hb d_R_work_5 (by decide) (fun hc => ?_) (fun hc => ?_)
  · rw [if_neg hc] at hf
    refine lv_aload_n hx hb d_R_work_10 rfl (lv_at hl 0 rfl) ?_
    refine va_get (D := G.1) (ci := 6) (C := "TwoPhaseCutsModel") (T := T_R) (N := 27) (v := .ref (L 10 0)) hx hb hts ui_R hown hK (hW.one (k := 0) (i := 0) (Nat.zero_lt_one)) 0 rfl rfl 9 (by decide) (hts _ tw_383) (fun _ h9 => h9) rfl d_R_work_11 ?_
    refine lv_iload_n hx hb d_R_work_14 rfl (lv_at hl 1 rfl) ?_
    obtain ⟨hg1, hf⟩ := mm_guard hf
    refine va_zald (D := G.1) (cl := ec_cl) hx hb hK (hW.one (k := 10) (i := 0) (Nat.zero_lt_one)) 0 1 rfl rfl (mm_vp hg1) d_R_work_15 ?_
    refine mm_top (y := (σ 10 0 (Int32.toNatClampNeg a1))) rfl ?_
    obtain ⟨u2, hu2, hf⟩ := mm_bind hf
    have jp1 : ∀ (H : Heap) (locs : List Loc) (ls : Array Slot), mm_W G.1 ec_cl (er_cnt n) L (er_E G L n) u2.1 H → va_S (mm_A (er_cnt n) L) s.heap H locs → lv_has ls 3 [] → W p l e rm_R_work s m [.ref (L 0 0), .int a1, .int a2].toArray below meth c H locs 0 0 (MQ below (va_Qi (fun r (_ : Unit) => r = out.1) (fun _ t => mm_pre G.1 ec_cl (ec_T G) (er_cnt n) L (er_E G L n) out.2 t) (mm_A (er_cnt n) L)) [.ref (L 0 0), .int a1, .int a2].toArray s 0 0 (mm_A (er_cnt n) L)) (F0 m 46 ls [.int u2.2]) := by
      intro H locs ls hW hS hl
      obtain rfl := Option.some.inj hf
      exact W.iret (v := u2.2) hx hb hr (fun t ht hw => ⟨⟨_, (), rfl, rfl, (mm_back ht hw hW hK)⟩, hS.F ht⟩) hS.2.2 d_R_work_46
    clear hf
    have hf := hu2
    clear hu2
    refine lv_if_eq (tgt := 24) hx hb d_R_work_16 (by decide) (fun hc => ?_) (fun hc => ?_)
    · rw [if_pos hc] at hf
      refine lv_aload_n hx hb d_R_work_24 rfl (lv_at hl 0 rfl) ?_
      refine lv_iload_n hx hb d_R_work_25 rfl (lv_at hl 1 rfl) ?_
      obtain ⟨u3, hu3, hf⟩ := mm_bind hf
      refine mm_calli (va_runV (As := [.int a1]) (rest := []) hC (c_R_stands l G L F n hI σ a1 hu3) (cwV 1 hts (tw_gV tw_464 tw_466 ts_15 tw_8 tw_467) rfl rfl rfl (by decide +kernel) ⟨Nat.le_of_ble_eq_true rfl, Nat.le_of_ble_eq_true rfl⟩) (mm_preV hK hW (k := 0) (i := 0) (Nat.zero_lt_one) rfl rfl) rfl rfl hl.1 rfl (lv_room (Nat.le_of_ble_eq_true rfl)) d_R_work_26 ⟨Nat.zero_le _, Nat.zero_le _⟩) hS (fun _ h => h) (fun H locs hW _ _ hS => ?_)
      refine lv_if_eq (tgt := 37) hx hb d_R_work_29 (by decide) (fun hc => ?_) (fun hc => ?_)
      · rw [if_pos hc] at hf
        refine lv_aload_n hx hb d_R_work_37 rfl (lv_at hl 0 rfl) ?_
        refine lv_iload_n hx hb d_R_work_38 rfl (lv_at hl 1 rfl) ?_
        refine lv_iconst (v := (0 : Int32)) hx hb d_R_work_39 (by decide) ?_
        refine lv_iload_n hx hb d_R_work_40 rfl (lv_at hl 2 rfl) ?_
        refine lv_iconst (v := (0 : Int32)) hx hb d_R_work_41 (by decide) ?_
        refine lv_iconst (v := (0 : Int32)) hx hb d_R_work_42 (by decide) ?_
        obtain ⟨u4, hu4, hf⟩ := mm_bind hf
        refine mm_calli (va_runV (As := [.int a1, .int (0 : Int32), .int a2, .int (0 : Int32), .int (0 : Int32)]) (rest := []) hC (c_R_note l G L F n hI σ a1 (0 : Int32) a2 (0 : Int32) (0 : Int32) hu4) (cwV 5 hts (tw_gV tw_468 tw_470 ts_16 tw_8 tw_471) rfl rfl rfl (by decide +kernel) ⟨Nat.le_of_ble_eq_true rfl, Nat.le_of_ble_eq_true rfl⟩) (mm_preV hK hW (k := 0) (i := 0) (Nat.zero_lt_one) rfl rfl) rfl rfl hl.1 rfl (lv_room (Nat.le_of_ble_eq_true rfl)) d_R_work_43 ⟨Nat.zero_le _, Nat.zero_le _⟩) hS (fun _ h => h) (fun H locs hW _ _ hS => ?_)
        obtain rfl := Option.some.inj hf
        exact jp1 _ _ _ hW hS (lv_sub hl [] rfl)
      · rw [if_neg hc] at hf
        refine lv_bipush (v := (-3 : Int32)) hx hb d_R_work_32 (by decide) ?_
        refine lv_goto (tgt := 46) hx hb d_R_work_34 (by decide) ?_
        obtain rfl := Option.some.inj hf
        exact jp1 _ _ _ hW hS (lv_sub hl [] rfl)
    · rw [if_neg hc] at hf
      refine lv_bipush (v := (-2 : Int32)) hx hb d_R_work_19 (by decide) ?_
      refine lv_goto (tgt := 46) hx hb d_R_work_21 (by decide) ?_
      obtain rfl := Option.some.inj hf
      exact jp1 _ _ _ hW hS (lv_sub hl [] rfl)
  · rw [if_pos hc] at hf
    refine lv_iconst (v := (-1 : Int32)) hx hb d_R_work_8 (by decide) ?_
    obtain rfl := Option.some.inj hf
    exact W.iret (v := (-1 : Int32)) hx hb hr (fun t ht hw => ⟨⟨_, (), rfl, rfl, (mm_back ht hw hW hK)⟩, hS.F ht⟩) hS.2.2 d_R_work_9
abbrev rm_R_send : Room := { frames := 2, cells := 0, slots := 0, locals := 47 }
set_option maxHeartbeats 4000000 in
set_option maxRecDepth 100000 in
theorem c_R_send (l : Launch) (G : ec_G) (L : mm_L) (F n : Nat) (hI : mm_I (er_cnt n) L) (σ : mm_M) (a1 : Int32) (a2 : Int32) {out : Int32 × mm_M} (hf : f_R_send F n σ a1 a2 = some out) :
    Met l y_R_send (Cond.code y_R_send b_R_send 3 (some .int) :: tw_tbl) rm_R_send (va_Pc [.ref (L 0 0), .int a1, .int a2] (mm_pre G.1 ec_cl (ec_T G) (er_cnt n) L (er_E G L n) σ))
      (va_Qi (fun r (_ : Unit) => r = out.1) (fun _ t => mm_pre G.1 ec_cl (ec_T G) (er_cnt n) L (er_E G L n) out.2 t) (mm_A (er_cnt n) L)) 0 0 (mm_A (er_cnt n) L) := by
  refine Met.ofW (cc := b_R_send) (maxL := 3) (ret := (some .int)) (by decide) rfl ?_
  intro p e s m args below meth c s₁ B hml hv
  obtain ⟨rfl, hW, hK⟩ := hv
  have hx := B.exec
  have hb := B.bytes
  have hr := B.returns
  have hts0 := atoms_spec (ws := Cond.code y_R_send b_R_send 3 (some .int) :: tw_tbl) B.pre
  have hts : ∀ w ∈ tw_tbl, w.before [.ref (L 0 0), .int a1, .int a2].toArray s = true := fun w h => hts0 w (List.mem_cons_of_mem _ h)
  clear hts0
  have hown : s.vm.findClass "TwoPhaseCutsModel" = some m.cls := findClass_of_methodNamed B.named
  have hlocks := B.notSynchronized
  have hC : CallFix p m c b_R_send 3 s [.ref (L 0 0), .int a1, .int a2].toArray tw_tbl "TwoPhaseCutsModel" := ⟨hx, hb, hml, hown, hts⟩
  have hS : va_S (mm_A (er_cnt n) L) s.heap s.heap [] := va_S.rf
  have hl := lv_entry ([.ref (L 0 0), .int a1, .int a2]) (n := 3) (Nat.le_of_ble_eq_true rfl)
  rw [lg_entry_eq]
  generalize (lg_sl ([.ref (L 0 0), .int a1, .int a2]) ++ List.replicate (3 - (lg_sl ([.ref (L 0 0), .int a1, .int a2])).length) Slot.unset).toArray = ls at hl ⊢
  have hl : lv_has ls 3 [(0, .ref (L 0 0)), (1, .int a1), (2, .int a2)] := hl
  have hW : mm_W G.1 ec_cl (er_cnt n) L (er_E G L n) σ s.heap := hW
  clear B
  show W p l e rm_R_send s m [.ref (L 0 0), .int a1, .int a2].toArray below meth c s.heap [] 0 0 (MQ below (va_Qi (fun r (_ : Unit) => r = out.1) (fun _ t => mm_pre G.1 ec_cl (ec_T G) (er_cnt n) L (er_E G L n) out.2 t) (mm_A (er_cnt n) L)) [.ref (L 0 0), .int a1, .int a2].toArray s 0 0 (mm_A (er_cnt n) L)) (F0 m 0 ls [])
  unfold f_R_send at hf
  refine lv_aload_n hx hb d_R_send_0 rfl (lv_at hl 0 rfl) ?_
  refine lv_iload_n hx hb d_R_send_1 rfl (lv_at hl 1 rfl) ?_
  refine lv_iload_n hx hb d_R_send_2 rfl (lv_at hl 2 rfl) ?_
  obtain ⟨u1, hu1, hf⟩ := mm_bind hf
  refine mm_calli (va_runV (As := [.int a1, .int a2]) (rest := []) hC (c_R_pair l G L F n hI σ a1 a2 hu1) (cwV 2 hts (tw_gV tw_476 tw_478 ts_17 tw_8 tw_479) rfl rfl rfl (by decide +kernel) ⟨Nat.le_of_ble_eq_true rfl, Nat.le_of_ble_eq_true rfl⟩) (mm_preV hK hW (k := 0) (i := 0) (Nat.zero_lt_one) rfl rfl) rfl rfl hl.1 rfl (lv_room (Nat.le_of_ble_eq_true rfl)) d_R_send_3 ⟨Nat.zero_le _, Nat.zero_le _⟩) hS (fun _ h => h) (fun H locs hW _ _ hS => ?_)
  refine lv_if_ne (tgt := 11) hx hb d_R_send_6 (by decide) (fun hc => ?_) (fun hc => ?_)
  · rw [if_neg hc] at hf
    refine lv_aload_n hx hb d_R_send_11 rfl (lv_at hl 0 rfl) ?_
    refine va_get (D := G.1) (ci := 6) (C := "TwoPhaseCutsModel") (T := T_R) (N := 27) (v := .ref (L 10 0)) hx hb hts ui_R hown hK (hW.one (k := 0) (i := 0) (Nat.zero_lt_one)) 0 rfl rfl 9 (by decide) (hts _ tw_383) (fun _ h9 => h9) rfl d_R_send_12 ?_
    refine lv_iload_n hx hb d_R_send_15 rfl (lv_at hl 1 rfl) ?_
    obtain ⟨hg1, hf⟩ := mm_guard hf
    refine va_zald (D := G.1) (cl := ec_cl) hx hb hK (hW.one (k := 10) (i := 0) (Nat.zero_lt_one)) 0 1 rfl rfl (mm_vp hg1) d_R_send_16 ?_
    refine mm_top (y := (σ 10 0 (Int32.toNatClampNeg a1))) rfl ?_
    refine lv_if_ne (tgt := 29) hx hb d_R_send_17 (by decide) (fun hc => ?_) (fun hc => ?_)
    · rw [if_neg hc] at hf
      refine lv_aload_n hx hb d_R_send_29 rfl (lv_at hl 0 rfl) ?_
      refine va_get (D := G.1) (ci := 6) (C := "TwoPhaseCutsModel") (T := T_R) (N := 27) (v := .ref (L 10 0)) hx hb hts ui_R hown hK (hW.one (k := 0) (i := 0) (Nat.zero_lt_one)) 0 rfl rfl 9 (by decide) (hts _ tw_383) (fun _ h9 => h9) rfl d_R_send_30 ?_
      refine lv_iload_n hx hb d_R_send_33 rfl (lv_at hl 1 rfl) ?_
      refine va_zald (D := G.1) (cl := ec_cl) hx hb hK (hW.one (k := 10) (i := 0) (Nat.zero_lt_one)) 0 1 rfl rfl (mm_vp hg1) d_R_send_34 ?_
      refine mm_top (y := (σ 10 0 (Int32.toNatClampNeg a1))) rfl ?_
      obtain ⟨u2, hu2, hf⟩ := mm_bind hf
      have jp1 : ∀ (H : Heap) (locs : List Loc) (ls : Array Slot), mm_W G.1 ec_cl (er_cnt n) L (er_E G L n) σ H → va_S (mm_A (er_cnt n) L) s.heap H locs → lv_has ls 3 [] → W p l e rm_R_send s m [.ref (L 0 0), .int a1, .int a2].toArray below meth c H locs 0 0 (MQ below (va_Qi (fun r (_ : Unit) => r = out.1) (fun _ t => mm_pre G.1 ec_cl (ec_T G) (er_cnt n) L (er_E G L n) out.2 t) (mm_A (er_cnt n) L)) [.ref (L 0 0), .int a1, .int a2].toArray s 0 0 (mm_A (er_cnt n) L)) (F0 m 45 ls [.int u2]) := by
        intro H locs ls hW hS hl
        obtain rfl := Option.some.inj hf
        exact W.iret (v := u2) hx hb hr (fun t ht hw => ⟨⟨_, (), rfl, rfl, (mm_back ht hw hW hK)⟩, hS.F ht⟩) hS.2.2 d_R_send_45
      clear hf
      have hf := hu2
      clear hu2
      refine lv_if_eq (tgt := 43) hx hb d_R_send_35 (by decide) (fun hc => ?_) (fun hc => ?_)
      · rw [if_pos hc] at hf
        refine lv_bipush (v := (-3 : Int32)) hx hb d_R_send_43 (by decide) ?_
        obtain rfl := Option.some.inj hf
        exact jp1 _ _ _ hW hS (lv_sub hl [] rfl)
      · rw [if_neg hc] at hf
        refine lv_bipush (v := (-2 : Int32)) hx hb d_R_send_38 (by decide) ?_
        refine lv_goto (tgt := 45) hx hb d_R_send_40 (by decide) ?_
        obtain rfl := Option.some.inj hf
        exact jp1 _ _ _ hW hS (lv_sub hl [] rfl)
    · rw [if_pos hc] at hf
      refine lv_aload_n hx hb d_R_send_20 rfl (lv_at hl 0 rfl) ?_
      refine va_get (D := G.1) (ci := 6) (C := "TwoPhaseCutsModel") (T := T_R) (N := 27) (v := .ref (L 11 0)) hx hb hts ui_R hown hK (hW.one (k := 0) (i := 0) (Nat.zero_lt_one)) 0 rfl rfl 10 (by decide) (hts _ tw_384) (fun _ h9 => h9) rfl d_R_send_21 ?_
      refine lv_iload_n hx hb d_R_send_24 rfl (lv_at hl 1 rfl) ?_
      refine va_iald (D := G.1) (cl := ec_cl) hx hb hK (hW.one (k := 11) (i := 0) (Nat.zero_lt_one)) 0 0 rfl rfl (mm_vp hg1) d_R_send_25 ?_
      refine mm_top (y := (σ 11 0 (Int32.toNatClampNeg a1))) rfl ?_
      refine lv_if_le (tgt := 46) hx hb d_R_send_26 (by decide) (fun hc => ?_) (fun hc => ?_)
      · rw [if_pos hc] at hf
        refine lv_aload_n hx hb d_R_send_46 rfl (lv_at hl 0 rfl) ?_
        refine lv_iload_n hx hb d_R_send_47 rfl (lv_at hl 1 rfl) ?_
        refine lv_iload_n hx hb d_R_send_48 rfl (lv_at hl 2 rfl) ?_
        obtain ⟨u3, hu3, hf⟩ := mm_bind hf
        refine mm_calli (va_runV (As := [.int a1, .int a2]) (rest := []) hC (c_R_inChannel l G L F n hI σ a1 a2 hu3) (cwV 2 hts (tw_gV tw_480 tw_482 ts_18 tw_8 tw_483) rfl rfl rfl (by decide +kernel) ⟨Nat.le_of_ble_eq_true rfl, Nat.le_of_ble_eq_true rfl⟩) (mm_preV hK hW (k := 0) (i := 0) (Nat.zero_lt_one) rfl rfl) rfl rfl hl.1 rfl (lv_room (Nat.le_of_ble_eq_true rfl)) d_R_send_49 ⟨Nat.zero_le _, Nat.zero_le _⟩) hS (fun _ h => h) (fun H locs hW _ _ hS => ?_)
        refine lv_bipush (v := (6 : Int32)) hx hb d_R_send_52 (by decide) ?_
        refine lv_icmp_ne (tgt := 60) hx hb d_R_send_54 (by decide) (fun hc => ?_) (fun hc => ?_)
        · rw [if_neg hc] at hf
          refine lv_aload_n hx hb d_R_send_60 rfl (lv_at hl 0 rfl) ?_
          refine lv_iload_n hx hb d_R_send_61 rfl (lv_at hl 1 rfl) ?_
          refine lv_iconst (v := (1 : Int32)) hx hb d_R_send_62 (by decide) ?_
          refine lv_iload_n hx hb d_R_send_63 rfl (lv_at hl 2 rfl) ?_
          refine lv_iconst (v := (0 : Int32)) hx hb d_R_send_64 (by decide) ?_
          refine lv_iconst (v := (0 : Int32)) hx hb d_R_send_65 (by decide) ?_
          obtain ⟨u4, hu4, hf⟩ := mm_bind hf
          refine mm_calli (va_runV (As := [.int a1, .int (1 : Int32), .int a2, .int (0 : Int32), .int (0 : Int32)]) (rest := []) hC (c_R_note l G L F n hI σ a1 (1 : Int32) a2 (0 : Int32) (0 : Int32) hu4) (cwV 5 hts (tw_gV tw_468 tw_470 ts_16 tw_8 tw_471) rfl rfl rfl (by decide +kernel) ⟨Nat.le_of_ble_eq_true rfl, Nat.le_of_ble_eq_true rfl⟩) (mm_preV hK hW (k := 0) (i := 0) (Nat.zero_lt_one) rfl rfl) rfl rfl hl.1 rfl (lv_room (Nat.le_of_ble_eq_true rfl)) d_R_send_66 ⟨Nat.zero_le _, Nat.zero_le _⟩) hS (fun _ h => h) (fun H locs hW _ _ hS => ?_)
          refine lv_pop hx hb d_R_send_69 rfl ?_
          refine lv_aload_n hx hb d_R_send_70 rfl (lv_at hl 0 rfl) ?_
          refine lv_iload_n hx hb d_R_send_71 rfl (lv_at hl 1 rfl) ?_
          refine lv_iload_n hx hb d_R_send_72 rfl (lv_at hl 2 rfl) ?_
          refine lv_aload_n hx hb d_R_send_73 rfl (lv_at hl 0 rfl) ?_
          refine va_get (D := G.1) (ci := 6) (C := "TwoPhaseCutsModel") (T := T_R) (N := 27) (v := .ref (L 2 0)) hx hb hts ui_R hown hK (hW.one (k := 0) (i := 0) (Nat.zero_lt_one)) 0 rfl rfl 1 (by decide) (hts _ tw_375) (fun _ h9 => h9) rfl d_R_send_74 ?_
          refine lv_iload_n hx hb d_R_send_77 rfl (lv_at hl 1 rfl) ?_
          refine va_iald (D := G.1) (cl := ec_cl) hx hb hK (hW.one (k := 2) (i := 0) (Nat.zero_lt_one)) 0 0 rfl rfl (mm_vp hg1) d_R_send_78 ?_
          refine mm_top (y := (u4.2 2 0 (Int32.toNatClampNeg a1))) rfl ?_
          obtain ⟨u5, hu5, hf⟩ := mm_bind hf
          refine mm_calli (va_runV (As := [.int a1, .int a2, .int (u4.2 2 0 (Int32.toNatClampNeg a1))]) (rest := []) hC (c_R_sentAt l G L F n hI u4.2 a1 a2 (u4.2 2 0 (Int32.toNatClampNeg a1)) hu5) (cwV 3 hts (tw_gV tw_484 tw_486 ts_19 tw_8 tw_487) rfl rfl rfl (by decide +kernel) ⟨Nat.le_of_ble_eq_true rfl, Nat.le_of_ble_eq_true rfl⟩) (mm_preV hK hW (k := 0) (i := 0) (Nat.zero_lt_one) rfl rfl) rfl rfl hl.1 rfl (lv_room (Nat.le_of_ble_eq_true rfl)) d_R_send_79 ⟨Nat.zero_le _, Nat.zero_le _⟩) hS (fun _ h => h) (fun H locs hW _ _ hS => ?_)
          obtain rfl := Option.some.inj hf
          exact W.iret (v := u5) hx hb hr (fun t ht hw => ⟨⟨_, (), rfl, rfl, (mm_back ht hw hW hK)⟩, hS.F ht⟩) hS.2.2 d_R_send_82
        · rw [if_pos hc] at hf
          refine lv_bipush (v := (-4 : Int32)) hx hb d_R_send_57 (by decide) ?_
          obtain rfl := Option.some.inj hf
          exact W.iret (v := (-4 : Int32)) hx hb hr (fun t ht hw => ⟨⟨_, (), rfl, rfl, (mm_back ht hw hW hK)⟩, hS.F ht⟩) hS.2.2 d_R_send_59
      · rw [if_neg hc] at hf
        refine lv_aload_n hx hb d_R_send_29 rfl (lv_at hl 0 rfl) ?_
        refine va_get (D := G.1) (ci := 6) (C := "TwoPhaseCutsModel") (T := T_R) (N := 27) (v := .ref (L 10 0)) hx hb hts ui_R hown hK (hW.one (k := 0) (i := 0) (Nat.zero_lt_one)) 0 rfl rfl 9 (by decide) (hts _ tw_383) (fun _ h9 => h9) rfl d_R_send_30 ?_
        refine lv_iload_n hx hb d_R_send_33 rfl (lv_at hl 1 rfl) ?_
        refine va_zald (D := G.1) (cl := ec_cl) hx hb hK (hW.one (k := 10) (i := 0) (Nat.zero_lt_one)) 0 1 rfl rfl (mm_vp hg1) d_R_send_34 ?_
        refine mm_top (y := (σ 10 0 (Int32.toNatClampNeg a1))) rfl ?_
        obtain ⟨u6, hu6, hf⟩ := mm_bind hf
        have jp2 : ∀ (H : Heap) (locs : List Loc) (ls : Array Slot), mm_W G.1 ec_cl (er_cnt n) L (er_E G L n) σ H → va_S (mm_A (er_cnt n) L) s.heap H locs → lv_has ls 3 [] → W p l e rm_R_send s m [.ref (L 0 0), .int a1, .int a2].toArray below meth c H locs 0 0 (MQ below (va_Qi (fun r (_ : Unit) => r = out.1) (fun _ t => mm_pre G.1 ec_cl (ec_T G) (er_cnt n) L (er_E G L n) out.2 t) (mm_A (er_cnt n) L)) [.ref (L 0 0), .int a1, .int a2].toArray s 0 0 (mm_A (er_cnt n) L)) (F0 m 45 ls [.int u6]) := by
          intro H locs ls hW hS hl
          obtain rfl := Option.some.inj hf
          exact W.iret (v := u6) hx hb hr (fun t ht hw => ⟨⟨_, (), rfl, rfl, (mm_back ht hw hW hK)⟩, hS.F ht⟩) hS.2.2 d_R_send_45
        clear hf
        have hf := hu6
        clear hu6
        refine lv_if_eq (tgt := 43) hx hb d_R_send_35 (by decide) (fun hc => ?_) (fun hc => ?_)
        · rw [if_pos hc] at hf
          refine lv_bipush (v := (-3 : Int32)) hx hb d_R_send_43 (by decide) ?_
          obtain rfl := Option.some.inj hf
          exact jp2 _ _ _ hW hS (lv_sub hl [] rfl)
        · rw [if_neg hc] at hf
          refine lv_bipush (v := (-2 : Int32)) hx hb d_R_send_38 (by decide) ?_
          refine lv_goto (tgt := 45) hx hb d_R_send_40 (by decide) ?_
          obtain rfl := Option.some.inj hf
          exact jp2 _ _ _ hW hS (lv_sub hl [] rfl)
  · rw [if_pos hc] at hf
    refine lv_iconst (v := (-1 : Int32)) hx hb d_R_send_9 (by decide) ?_
    obtain rfl := Option.some.inj hf
    exact W.iret (v := (-1 : Int32)) hx hb hr (fun t ht hw => ⟨⟨_, (), rfl, rfl, (mm_back ht hw hW hK)⟩, hS.F ht⟩) hS.2.2 d_R_send_10
abbrev rm_R_receive : Room := { frames := 2, cells := 0, slots := 0, locals := 50 }
set_option maxHeartbeats 4000000 in
set_option maxRecDepth 100000 in
theorem c_R_receive (l : Launch) (G : ec_G) (L : mm_L) (F n : Nat) (hI : mm_I (er_cnt n) L) (σ : mm_M) (a1 : Int32) (a2 : Int32) {out : Int32 × mm_M} (hf : f_R_receive F n σ a1 a2 = some out) :
    Met l y_R_receive (Cond.code y_R_receive b_R_receive 5 (some .int) :: tw_tbl) rm_R_receive (va_Pc [.ref (L 0 0), .int a1, .int a2] (mm_pre G.1 ec_cl (ec_T G) (er_cnt n) L (er_E G L n) σ))
      (va_Qi (fun r (_ : Unit) => r = out.1) (fun _ t => mm_pre G.1 ec_cl (ec_T G) (er_cnt n) L (er_E G L n) out.2 t) (mm_A (er_cnt n) L)) 0 0 (mm_A (er_cnt n) L) := by
  refine Met.ofW (cc := b_R_receive) (maxL := 5) (ret := (some .int)) (by decide) rfl ?_
  intro p e s m args below meth c s₁ B hml hv
  obtain ⟨rfl, hW, hK⟩ := hv
  have hx := B.exec
  have hb := B.bytes
  have hr := B.returns
  have hts0 := atoms_spec (ws := Cond.code y_R_receive b_R_receive 5 (some .int) :: tw_tbl) B.pre
  have hts : ∀ w ∈ tw_tbl, w.before [.ref (L 0 0), .int a1, .int a2].toArray s = true := fun w h => hts0 w (List.mem_cons_of_mem _ h)
  clear hts0
  have hown : s.vm.findClass "TwoPhaseCutsModel" = some m.cls := findClass_of_methodNamed B.named
  have hlocks := B.notSynchronized
  have hC : CallFix p m c b_R_receive 5 s [.ref (L 0 0), .int a1, .int a2].toArray tw_tbl "TwoPhaseCutsModel" := ⟨hx, hb, hml, hown, hts⟩
  have hS : va_S (mm_A (er_cnt n) L) s.heap s.heap [] := va_S.rf
  have hl := lv_entry ([.ref (L 0 0), .int a1, .int a2]) (n := 5) (Nat.le_of_ble_eq_true rfl)
  rw [lg_entry_eq]
  generalize (lg_sl ([.ref (L 0 0), .int a1, .int a2]) ++ List.replicate (5 - (lg_sl ([.ref (L 0 0), .int a1, .int a2])).length) Slot.unset).toArray = ls at hl ⊢
  have hl : lv_has ls 5 [(0, .ref (L 0 0)), (1, .int a1), (2, .int a2)] := hl
  have hW : mm_W G.1 ec_cl (er_cnt n) L (er_E G L n) σ s.heap := hW
  clear B
  show W p l e rm_R_receive s m [.ref (L 0 0), .int a1, .int a2].toArray below meth c s.heap [] 0 0 (MQ below (va_Qi (fun r (_ : Unit) => r = out.1) (fun _ t => mm_pre G.1 ec_cl (ec_T G) (er_cnt n) L (er_E G L n) out.2 t) (mm_A (er_cnt n) L)) [.ref (L 0 0), .int a1, .int a2].toArray s 0 0 (mm_A (er_cnt n) L)) (F0 m 0 ls [])
  unfold f_R_receive at hf
  refine lv_aload_n hx hb d_R_receive_0 rfl (lv_at hl 0 rfl) ?_
  refine lv_iload_n hx hb d_R_receive_1 rfl (lv_at hl 1 rfl) ?_
  refine lv_iload_n hx hb d_R_receive_2 rfl (lv_at hl 2 rfl) ?_
  obtain ⟨u1, hu1, hf⟩ := mm_bind hf
  refine mm_calli (va_runV (As := [.int a1, .int a2]) (rest := []) hC (c_R_pair l G L F n hI σ a1 a2 hu1) (cwV 2 hts (tw_gV tw_476 tw_478 ts_17 tw_8 tw_479) rfl rfl rfl (by decide +kernel) ⟨Nat.le_of_ble_eq_true rfl, Nat.le_of_ble_eq_true rfl⟩) (mm_preV hK hW (k := 0) (i := 0) (Nat.zero_lt_one) rfl rfl) rfl rfl hl.1 rfl (lv_room (Nat.le_of_ble_eq_true rfl)) d_R_receive_3 ⟨Nat.zero_le _, Nat.zero_le _⟩) hS (fun _ h => h) (fun H locs hW _ _ hS => ?_)
  refine lv_if_ne (tgt := 11) hx hb d_R_receive_6 (by decide) (fun hc => ?_) (fun hc => ?_)
  · rw [if_neg hc] at hf
    refine lv_aload_n hx hb d_R_receive_11 rfl (lv_at hl 0 rfl) ?_
    refine va_get (D := G.1) (ci := 6) (C := "TwoPhaseCutsModel") (T := T_R) (N := 27) (v := .ref (L 10 0)) hx hb hts ui_R hown hK (hW.one (k := 0) (i := 0) (Nat.zero_lt_one)) 0 rfl rfl 9 (by decide) (hts _ tw_383) (fun _ h9 => h9) rfl d_R_receive_12 ?_
    refine lv_iload_n hx hb d_R_receive_15 rfl (lv_at hl 2 rfl) ?_
    obtain ⟨hg1, hf⟩ := mm_guard hf
    refine va_zald (D := G.1) (cl := ec_cl) hx hb hK (hW.one (k := 10) (i := 0) (Nat.zero_lt_one)) 0 1 rfl rfl (mm_vp hg1) d_R_receive_16 ?_
    refine mm_top (y := (σ 10 0 (Int32.toNatClampNeg a2))) rfl ?_
    refine lv_if_ne (tgt := 45) hx hb d_R_receive_17 (by decide) (fun hc => ?_) (fun hc => ?_)
    · rw [if_neg hc] at hf
      refine lv_aload_n hx hb d_R_receive_45 rfl (lv_at hl 0 rfl) ?_
      refine va_get (D := G.1) (ci := 6) (C := "TwoPhaseCutsModel") (T := T_R) (N := 27) (v := .ref (L 10 0)) hx hb hts ui_R hown hK (hW.one (k := 0) (i := 0) (Nat.zero_lt_one)) 0 rfl rfl 9 (by decide) (hts _ tw_383) (fun _ h9 => h9) rfl d_R_receive_46 ?_
      refine lv_iload_n hx hb d_R_receive_49 rfl (lv_at hl 2 rfl) ?_
      refine va_zald (D := G.1) (cl := ec_cl) hx hb hK (hW.one (k := 10) (i := 0) (Nat.zero_lt_one)) 0 1 rfl rfl (mm_vp hg1) d_R_receive_50 ?_
      refine mm_top (y := (σ 10 0 (Int32.toNatClampNeg a2))) rfl ?_
      obtain ⟨u2, hu2, hf⟩ := mm_bind hf
      have jp1 : ∀ (H : Heap) (locs : List Loc) (ls : Array Slot), mm_W G.1 ec_cl (er_cnt n) L (er_E G L n) σ H → va_S (mm_A (er_cnt n) L) s.heap H locs → lv_has ls 5 [] → W p l e rm_R_receive s m [.ref (L 0 0), .int a1, .int a2].toArray below meth c H locs 0 0 (MQ below (va_Qi (fun r (_ : Unit) => r = out.1) (fun _ t => mm_pre G.1 ec_cl (ec_T G) (er_cnt n) L (er_E G L n) out.2 t) (mm_A (er_cnt n) L)) [.ref (L 0 0), .int a1, .int a2].toArray s 0 0 (mm_A (er_cnt n) L)) (F0 m 61 ls [.int u2]) := by
        intro H locs ls hW hS hl
        obtain rfl := Option.some.inj hf
        exact W.iret (v := u2) hx hb hr (fun t ht hw => ⟨⟨_, (), rfl, rfl, (mm_back ht hw hW hK)⟩, hS.F ht⟩) hS.2.2 d_R_receive_61
      clear hf
      have hf := hu2
      clear hu2
      refine lv_if_eq (tgt := 59) hx hb d_R_receive_51 (by decide) (fun hc => ?_) (fun hc => ?_)
      · rw [if_pos hc] at hf
        refine lv_bipush (v := (-3 : Int32)) hx hb d_R_receive_59 (by decide) ?_
        obtain rfl := Option.some.inj hf
        exact jp1 _ _ _ hW hS (lv_sub hl [] rfl)
      · rw [if_neg hc] at hf
        refine lv_bipush (v := (-2 : Int32)) hx hb d_R_receive_54 (by decide) ?_
        refine lv_goto (tgt := 61) hx hb d_R_receive_56 (by decide) ?_
        obtain rfl := Option.some.inj hf
        exact jp1 _ _ _ hW hS (lv_sub hl [] rfl)
    · rw [if_pos hc] at hf
      refine lv_aload_n hx hb d_R_receive_20 rfl (lv_at hl 0 rfl) ?_
      refine lv_iload_n hx hb d_R_receive_21 rfl (lv_at hl 2 rfl) ?_
      obtain ⟨u3, hu3, hf⟩ := mm_bind hf
      refine mm_calli (va_runV (As := [.int a2]) (rest := []) hC (c_R_stands l G L F n hI σ a2 hu3) (cwV 1 hts (tw_gV tw_464 tw_466 ts_15 tw_8 tw_467) rfl rfl rfl (by decide +kernel) ⟨Nat.le_of_ble_eq_true rfl, Nat.le_of_ble_eq_true rfl⟩) (mm_preV hK hW (k := 0) (i := 0) (Nat.zero_lt_one) rfl rfl) rfl rfl hl.1 rfl (lv_room (Nat.le_of_ble_eq_true rfl)) d_R_receive_22 ⟨Nat.zero_le _, Nat.zero_le _⟩) hS (fun _ h => h) (fun H locs hW _ _ hS => ?_)
      refine lv_if_ne (tgt := 45) hx hb d_R_receive_25 (by decide) (fun hc => ?_) (fun hc => ?_)
      · rw [if_neg hc] at hf
        refine lv_aload_n hx hb d_R_receive_45 rfl (lv_at hl 0 rfl) ?_
        refine va_get (D := G.1) (ci := 6) (C := "TwoPhaseCutsModel") (T := T_R) (N := 27) (v := .ref (L 10 0)) hx hb hts ui_R hown hK (hW.one (k := 0) (i := 0) (Nat.zero_lt_one)) 0 rfl rfl 9 (by decide) (hts _ tw_383) (fun _ h9 => h9) rfl d_R_receive_46 ?_
        refine lv_iload_n hx hb d_R_receive_49 rfl (lv_at hl 2 rfl) ?_
        refine va_zald (D := G.1) (cl := ec_cl) hx hb hK (hW.one (k := 10) (i := 0) (Nat.zero_lt_one)) 0 1 rfl rfl (mm_vp hg1) d_R_receive_50 ?_
        refine mm_top (y := (σ 10 0 (Int32.toNatClampNeg a2))) rfl ?_
        obtain ⟨u4, hu4, hf⟩ := mm_bind hf
        have jp2 : ∀ (H : Heap) (locs : List Loc) (ls : Array Slot), mm_W G.1 ec_cl (er_cnt n) L (er_E G L n) σ H → va_S (mm_A (er_cnt n) L) s.heap H locs → lv_has ls 5 [] → W p l e rm_R_receive s m [.ref (L 0 0), .int a1, .int a2].toArray below meth c H locs 0 0 (MQ below (va_Qi (fun r (_ : Unit) => r = out.1) (fun _ t => mm_pre G.1 ec_cl (ec_T G) (er_cnt n) L (er_E G L n) out.2 t) (mm_A (er_cnt n) L)) [.ref (L 0 0), .int a1, .int a2].toArray s 0 0 (mm_A (er_cnt n) L)) (F0 m 61 ls [.int u4]) := by
          intro H locs ls hW hS hl
          obtain rfl := Option.some.inj hf
          exact W.iret (v := u4) hx hb hr (fun t ht hw => ⟨⟨_, (), rfl, rfl, (mm_back ht hw hW hK)⟩, hS.F ht⟩) hS.2.2 d_R_receive_61
        clear hf
        have hf := hu4
        clear hu4
        refine lv_if_eq (tgt := 59) hx hb d_R_receive_51 (by decide) (fun hc => ?_) (fun hc => ?_)
        · rw [if_pos hc] at hf
          refine lv_bipush (v := (-3 : Int32)) hx hb d_R_receive_59 (by decide) ?_
          obtain rfl := Option.some.inj hf
          exact jp2 _ _ _ hW hS (lv_sub hl [] rfl)
        · rw [if_neg hc] at hf
          refine lv_bipush (v := (-2 : Int32)) hx hb d_R_receive_54 (by decide) ?_
          refine lv_goto (tgt := 61) hx hb d_R_receive_56 (by decide) ?_
          obtain rfl := Option.some.inj hf
          exact jp2 _ _ _ hW hS (lv_sub hl [] rfl)
      · rw [if_pos hc] at hf
        refine lv_aload_n hx hb d_R_receive_28 rfl (lv_at hl 0 rfl) ?_
        refine va_get (D := G.1) (ci := 6) (C := "TwoPhaseCutsModel") (T := T_R) (N := 27) (v := .ref (L 10 0)) hx hb hts ui_R hown hK (hW.one (k := 0) (i := 0) (Nat.zero_lt_one)) 0 rfl rfl 9 (by decide) (hts _ tw_383) (fun _ h9 => h9) rfl d_R_receive_29 ?_
        refine lv_iload_n hx hb d_R_receive_32 rfl (lv_at hl 1 rfl) ?_
        obtain ⟨hg2, hf⟩ := mm_guard hf
        refine va_zald (D := G.1) (cl := ec_cl) hx hb hK (hW.one (k := 10) (i := 0) (Nat.zero_lt_one)) 0 1 rfl rfl (mm_vp hg2) d_R_receive_33 ?_
        refine mm_top (y := (σ 10 0 (Int32.toNatClampNeg a1))) rfl ?_
        refine lv_if_ne (tgt := 45) hx hb d_R_receive_34 (by decide) (fun hc => ?_) (fun hc => ?_)
        · rw [if_neg hc] at hf
          refine lv_aload_n hx hb d_R_receive_45 rfl (lv_at hl 0 rfl) ?_
          refine va_get (D := G.1) (ci := 6) (C := "TwoPhaseCutsModel") (T := T_R) (N := 27) (v := .ref (L 10 0)) hx hb hts ui_R hown hK (hW.one (k := 0) (i := 0) (Nat.zero_lt_one)) 0 rfl rfl 9 (by decide) (hts _ tw_383) (fun _ h9 => h9) rfl d_R_receive_46 ?_
          refine lv_iload_n hx hb d_R_receive_49 rfl (lv_at hl 2 rfl) ?_
          refine va_zald (D := G.1) (cl := ec_cl) hx hb hK (hW.one (k := 10) (i := 0) (Nat.zero_lt_one)) 0 1 rfl rfl (mm_vp hg1) d_R_receive_50 ?_
          refine mm_top (y := (σ 10 0 (Int32.toNatClampNeg a2))) rfl ?_
          obtain ⟨u5, hu5, hf⟩ := mm_bind hf
          have jp3 : ∀ (H : Heap) (locs : List Loc) (ls : Array Slot), mm_W G.1 ec_cl (er_cnt n) L (er_E G L n) σ H → va_S (mm_A (er_cnt n) L) s.heap H locs → lv_has ls 5 [] → W p l e rm_R_receive s m [.ref (L 0 0), .int a1, .int a2].toArray below meth c H locs 0 0 (MQ below (va_Qi (fun r (_ : Unit) => r = out.1) (fun _ t => mm_pre G.1 ec_cl (ec_T G) (er_cnt n) L (er_E G L n) out.2 t) (mm_A (er_cnt n) L)) [.ref (L 0 0), .int a1, .int a2].toArray s 0 0 (mm_A (er_cnt n) L)) (F0 m 61 ls [.int u5]) := by
            intro H locs ls hW hS hl
            obtain rfl := Option.some.inj hf
            exact W.iret (v := u5) hx hb hr (fun t ht hw => ⟨⟨_, (), rfl, rfl, (mm_back ht hw hW hK)⟩, hS.F ht⟩) hS.2.2 d_R_receive_61
          clear hf
          have hf := hu5
          clear hu5
          refine lv_if_eq (tgt := 59) hx hb d_R_receive_51 (by decide) (fun hc => ?_) (fun hc => ?_)
          · rw [if_pos hc] at hf
            refine lv_bipush (v := (-3 : Int32)) hx hb d_R_receive_59 (by decide) ?_
            obtain rfl := Option.some.inj hf
            exact jp3 _ _ _ hW hS (lv_sub hl [] rfl)
          · rw [if_neg hc] at hf
            refine lv_bipush (v := (-2 : Int32)) hx hb d_R_receive_54 (by decide) ?_
            refine lv_goto (tgt := 61) hx hb d_R_receive_56 (by decide) ?_
            obtain rfl := Option.some.inj hf
            exact jp3 _ _ _ hW hS (lv_sub hl [] rfl)
        · rw [if_pos hc] at hf
          refine lv_aload_n hx hb d_R_receive_37 rfl (lv_at hl 0 rfl) ?_
          refine lv_iload_n hx hb d_R_receive_38 rfl (lv_at hl 1 rfl) ?_
          obtain ⟨u6, hu6, hf⟩ := mm_bind hf
          refine mm_calli (va_runV (As := [.int a1]) (rest := []) hC (c_R_stands l G L F n hI σ a1 hu6) (cwV 1 hts (tw_gV tw_464 tw_466 ts_15 tw_8 tw_467) rfl rfl rfl (by decide +kernel) ⟨Nat.le_of_ble_eq_true rfl, Nat.le_of_ble_eq_true rfl⟩) (mm_preV hK hW (k := 0) (i := 0) (Nat.zero_lt_one) rfl rfl) rfl rfl hl.1 rfl (lv_room (Nat.le_of_ble_eq_true rfl)) d_R_receive_39 ⟨Nat.zero_le _, Nat.zero_le _⟩) hS (fun _ h => h) (fun H locs hW _ _ hS => ?_)
          refine lv_if_eq (tgt := 62) hx hb d_R_receive_42 (by decide) (fun hc => ?_) (fun hc => ?_)
          · rw [if_pos hc] at hf
            refine lv_aload_n hx hb d_R_receive_62 rfl (lv_at hl 0 rfl) ?_
            refine lv_iload_n hx hb d_R_receive_63 rfl (lv_at hl 1 rfl) ?_
            refine lv_iload_n hx hb d_R_receive_64 rfl (lv_at hl 2 rfl) ?_
            obtain ⟨u7, hu7, hf⟩ := mm_bind hf
            refine mm_calli (va_runV (As := [.int a1, .int a2]) (rest := []) hC (c_R_inChannel l G L F n hI σ a1 a2 hu7) (cwV 2 hts (tw_gV tw_480 tw_482 ts_18 tw_8 tw_483) rfl rfl rfl (by decide +kernel) ⟨Nat.le_of_ble_eq_true rfl, Nat.le_of_ble_eq_true rfl⟩) (mm_preV hK hW (k := 0) (i := 0) (Nat.zero_lt_one) rfl rfl) rfl rfl hl.1 rfl (lv_room (Nat.le_of_ble_eq_true rfl)) d_R_receive_65 ⟨Nat.zero_le _, Nat.zero_le _⟩) hS (fun _ h => h) (fun H locs hW _ _ hS => ?_)
            refine lv_if_ne (tgt := 74) hx hb d_R_receive_68 (by decide) (fun hc => ?_) (fun hc => ?_)
            · rw [if_neg hc] at hf
              refine lv_aload_n hx hb d_R_receive_74 rfl (lv_at hl 0 rfl) ?_
              refine va_get (D := G.1) (ci := 6) (C := "TwoPhaseCutsModel") (T := T_R) (N := 27) (v := .ref (L 9 0)) hx hb hts ui_R hown hK (hW.one (k := 0) (i := 0) (Nat.zero_lt_one)) 0 rfl rfl 8 (by decide) (hts _ tw_382) (fun _ h9 => h9) rfl d_R_receive_75 ?_
              refine lv_iconst (v := (5 : Int32)) hx hb d_R_receive_78 (by decide) ?_
              refine lv_iload_n hx hb d_R_receive_79 rfl (lv_at hl 1 rfl) ?_
              refine lv_imul hx hb d_R_receive_80 ?_
              refine lv_iload_n hx hb d_R_receive_81 rfl (lv_at hl 2 rfl) ?_
              refine lv_iadd hx hb d_R_receive_82 ?_
              obtain ⟨hg3, hf⟩ := mm_guard hf
              refine va_iald (D := G.1) (cl := ec_cl) hx hb hK (hW.one (k := 9) (i := 0) (Nat.zero_lt_one)) 0 0 rfl rfl (mm_vp hg3) d_R_receive_83 ?_
              refine mm_top (y := (σ 9 0 (Int32.toNatClampNeg (((5 : Int32) * a1) + a2)))) rfl ?_
              refine lv_iconst (v := (1 : Int32)) hx hb d_R_receive_84 (by decide) ?_
              refine lv_iadd hx hb d_R_receive_85 ?_
              refine lv_istore_n (lv' := [(3, .int ((σ 9 0 (Int32.toNatClampNeg (((5 : Int32) * a1) + a2))) + (1 : Int32))), (0, .ref (L 0 0)), (1, .int a1), (2, .int a2)]) hx hb d_R_receive_86 rfl hl (by decide) rfl (fun ls hl => ?_)
              refine lv_aload_n hx hb d_R_receive_87 rfl (lv_at hl 1 rfl) ?_
              refine lv_iload_n hx hb d_R_receive_88 rfl (lv_at hl 2 rfl) ?_
              refine lv_iload_n hx hb d_R_receive_89 rfl (lv_at hl 3 rfl) ?_
              refine lv_iload_n hx hb d_R_receive_90 rfl (lv_at hl 0 rfl) ?_
              obtain ⟨u8, hu8, hf⟩ := mm_bind hf
              refine mm_calli (va_runV (As := [.int a1, .int a2, .int ((σ 9 0 (Int32.toNatClampNeg (((5 : Int32) * a1) + a2))) + (1 : Int32))]) (rest := []) hC (c_R_sentWith l G L F n hI σ a1 a2 ((σ 9 0 (Int32.toNatClampNeg (((5 : Int32) * a1) + a2))) + (1 : Int32)) hu8) (cwV 3 hts (tw_gV tw_492 tw_494 ts_20 tw_8 tw_495) rfl rfl rfl (by decide +kernel) ⟨Nat.le_of_ble_eq_true rfl, Nat.le_of_ble_eq_true rfl⟩) (mm_preV hK hW (k := 0) (i := 0) (Nat.zero_lt_one) rfl rfl) rfl rfl hl.1 rfl (lv_room (Nat.le_of_ble_eq_true rfl)) d_R_receive_91 ⟨Nat.zero_le _, Nat.zero_le _⟩) hS (fun _ h => h) (fun H locs hW _ _ hS => ?_)
              refine lv_istore (lv' := [(4, .int u8), (3, .int ((σ 9 0 (Int32.toNatClampNeg (((5 : Int32) * a1) + a2))) + (1 : Int32))), (0, .ref (L 0 0)), (1, .int a1), (2, .int a2)]) hx hb d_R_receive_94 hl (by decide) rfl (fun ls hl => ?_)
              refine lv_aload_n hx hb d_R_receive_96 rfl (lv_at hl 2 rfl) ?_
              refine lv_iload_n hx hb d_R_receive_97 rfl (lv_at hl 4 rfl) ?_
              refine lv_iconst (v := (2 : Int32)) hx hb d_R_receive_98 (by decide) ?_
              refine lv_iload_n hx hb d_R_receive_99 rfl (lv_at hl 3 rfl) ?_
              refine lv_iload_n hx hb d_R_receive_100 rfl (lv_at hl 1 rfl) ?_
              refine lv_iload hx hb d_R_receive_101 (lv_at hl 0 rfl) ?_
              obtain ⟨u9, hu9, hf⟩ := mm_bind hf
              refine mm_calli (va_runV (As := [.int a2, .int (2 : Int32), .int a1, .int ((σ 9 0 (Int32.toNatClampNeg (((5 : Int32) * a1) + a2))) + (1 : Int32)), .int u8]) (rest := []) hC (c_R_note l G L F n hI σ a2 (2 : Int32) a1 ((σ 9 0 (Int32.toNatClampNeg (((5 : Int32) * a1) + a2))) + (1 : Int32)) u8 hu9) (cwV 5 hts (tw_gV tw_468 tw_470 ts_16 tw_8 tw_471) rfl rfl rfl (by decide +kernel) ⟨Nat.le_of_ble_eq_true rfl, Nat.le_of_ble_eq_true rfl⟩) (mm_preV hK hW (k := 0) (i := 0) (Nat.zero_lt_one) rfl rfl) rfl rfl hl.1 rfl (lv_room (Nat.le_of_ble_eq_true rfl)) d_R_receive_103 ⟨Nat.zero_le _, Nat.zero_le _⟩) hS (fun _ h => h) (fun H locs hW _ _ hS => ?_)
              refine lv_pop hx hb d_R_receive_106 rfl ?_
              refine lv_aload_n hx hb d_R_receive_107 rfl (lv_at hl 2 rfl) ?_
              refine va_get (D := G.1) (ci := 6) (C := "TwoPhaseCutsModel") (T := T_R) (N := 27) (v := .ref (L 9 0)) hx hb hts ui_R hown hK (hW.one (k := 0) (i := 0) (Nat.zero_lt_one)) 0 rfl rfl 8 (by decide) (hts _ tw_382) (fun _ h9 => h9) rfl d_R_receive_108 ?_
              refine lv_iconst (v := (5 : Int32)) hx hb d_R_receive_111 (by decide) ?_
              refine lv_iload_n hx hb d_R_receive_112 rfl (lv_at hl 3 rfl) ?_
              refine lv_imul hx hb d_R_receive_113 ?_
              refine lv_iload_n hx hb d_R_receive_114 rfl (lv_at hl 4 rfl) ?_
              refine lv_iadd hx hb d_R_receive_115 ?_
              refine lv_iload_n hx hb d_R_receive_116 rfl (lv_at hl 1 rfl) ?_
              refine mm_iast hx hb hK hI hW hS (k := 9) (i := 0) (Nat.zero_lt_one) (fun _ => rfl) (t0 := 0) rfl (mm_vp hg3) d_R_receive_117 (fun H locs hW hS => ?_)
              refine lv_iload_n hx hb d_R_receive_118 rfl (lv_at hl 1 rfl) ?_
              obtain rfl := Option.some.inj hf
              exact W.iret (v := ((σ 9 0 (Int32.toNatClampNeg (((5 : Int32) * a1) + a2))) + (1 : Int32))) hx hb hr (fun t ht hw => ⟨⟨_, (), rfl, rfl, (mm_back ht hw hW hK)⟩, hS.F ht⟩) hS.2.2 d_R_receive_119
            · rw [if_pos hc] at hf
              refine lv_bipush (v := (-4 : Int32)) hx hb d_R_receive_71 (by decide) ?_
              obtain rfl := Option.some.inj hf
              exact W.iret (v := (-4 : Int32)) hx hb hr (fun t ht hw => ⟨⟨_, (), rfl, rfl, (mm_back ht hw hW hK)⟩, hS.F ht⟩) hS.2.2 d_R_receive_73
          · rw [if_neg hc] at hf
            refine lv_aload_n hx hb d_R_receive_45 rfl (lv_at hl 0 rfl) ?_
            refine va_get (D := G.1) (ci := 6) (C := "TwoPhaseCutsModel") (T := T_R) (N := 27) (v := .ref (L 10 0)) hx hb hts ui_R hown hK (hW.one (k := 0) (i := 0) (Nat.zero_lt_one)) 0 rfl rfl 9 (by decide) (hts _ tw_383) (fun _ h9 => h9) rfl d_R_receive_46 ?_
            refine lv_iload_n hx hb d_R_receive_49 rfl (lv_at hl 2 rfl) ?_
            refine va_zald (D := G.1) (cl := ec_cl) hx hb hK (hW.one (k := 10) (i := 0) (Nat.zero_lt_one)) 0 1 rfl rfl (mm_vp hg1) d_R_receive_50 ?_
            refine mm_top (y := (σ 10 0 (Int32.toNatClampNeg a2))) rfl ?_
            obtain ⟨u10, hu10, hf⟩ := mm_bind hf
            have jp4 : ∀ (H : Heap) (locs : List Loc) (ls : Array Slot), mm_W G.1 ec_cl (er_cnt n) L (er_E G L n) σ H → va_S (mm_A (er_cnt n) L) s.heap H locs → lv_has ls 5 [] → W p l e rm_R_receive s m [.ref (L 0 0), .int a1, .int a2].toArray below meth c H locs 0 0 (MQ below (va_Qi (fun r (_ : Unit) => r = out.1) (fun _ t => mm_pre G.1 ec_cl (ec_T G) (er_cnt n) L (er_E G L n) out.2 t) (mm_A (er_cnt n) L)) [.ref (L 0 0), .int a1, .int a2].toArray s 0 0 (mm_A (er_cnt n) L)) (F0 m 61 ls [.int u10]) := by
              intro H locs ls hW hS hl
              obtain rfl := Option.some.inj hf
              exact W.iret (v := u10) hx hb hr (fun t ht hw => ⟨⟨_, (), rfl, rfl, (mm_back ht hw hW hK)⟩, hS.F ht⟩) hS.2.2 d_R_receive_61
            clear hf
            have hf := hu10
            clear hu10
            refine lv_if_eq (tgt := 59) hx hb d_R_receive_51 (by decide) (fun hc => ?_) (fun hc => ?_)
            · rw [if_pos hc] at hf
              refine lv_bipush (v := (-3 : Int32)) hx hb d_R_receive_59 (by decide) ?_
              obtain rfl := Option.some.inj hf
              exact jp4 _ _ _ hW hS (lv_sub hl [] rfl)
            · rw [if_neg hc] at hf
              refine lv_bipush (v := (-2 : Int32)) hx hb d_R_receive_54 (by decide) ?_
              refine lv_goto (tgt := 61) hx hb d_R_receive_56 (by decide) ?_
              obtain rfl := Option.some.inj hf
              exact jp4 _ _ _ hW hS (lv_sub hl [] rfl)
  · rw [if_pos hc] at hf
    refine lv_iconst (v := (-1 : Int32)) hx hb d_R_receive_9 (by decide) ?_
    obtain rfl := Option.some.inj hf
    exact W.iret (v := (-1 : Int32)) hx hb hr (fun t ht hw => ⟨⟨_, (), rfl, rfl, (mm_back ht hw hW hK)⟩, hS.F ht⟩) hS.2.2 d_R_receive_10
