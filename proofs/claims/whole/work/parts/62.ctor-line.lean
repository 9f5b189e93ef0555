theorem tw_7 : (Jvm.Cond.initialized "TwoPhaseCuts$Note") ∈ tw_tbl := tw_of 7 (by decide +kernel) (by decide +kernel)
theorem tw_124 : (Jvm.Cond.methodLink "TwoPhaseCuts$NoteLine" (1 : Nat) ({ cls := "java/lang/Object", name := "<init>", desc := "()V" } : Jvm.MethodName)) ∈ tw_tbl := tw_of 124 (by decide +kernel) (by decide +kernel)
theorem tw_125 : (Jvm.Cond.classLink "TwoPhaseCuts$NoteLine" (7 : Nat) "TwoPhaseCuts$Note") ∈ tw_tbl := tw_of 125 (by decide +kernel) (by decide +kernel)
theorem tw_127 : (Jvm.Cond.instantiable "TwoPhaseCuts$Note" (5 : Nat)) ∈ tw_tbl := tw_of 127 (by decide +kernel) (by decide +kernel)
theorem tw_129 : (Jvm.Cond.instanceMethod ({ cls := "TwoPhaseCuts$Note", name := "<init>", desc := "()V" } : Jvm.MethodName)) ∈ tw_tbl := tw_of 129 (by decide +kernel) (by decide +kernel)
theorem tw_130 : (Jvm.Cond.code ({ cls := "TwoPhaseCuts$Note", name := "<init>", desc := "()V" } : Jvm.MethodName) prog_4_method_1_code (1 : Nat) (Option.none : Option Jvm.ClassFile.FieldType)) ∈ tw_tbl := tw_of 130 (by decide +kernel) (by decide +kernel)
theorem tw_373 : (Jvm.Cond.methodLink "TwoPhaseCutsModel" (1 : Nat) ({ cls := "java/lang/Object", name := "<init>", desc := "()V" } : Jvm.MethodName)) ∈ tw_tbl := tw_of 373 (by decide +kernel) (by decide +kernel)
abbrev rm_L_init : Room := { frames := 2, cells := 81, slots := 480, locals := 40 }
set_option maxHeartbeats 4000000 in
set_option maxRecDepth 100000 in
theorem ci_L (l : Launch) (G : ec_G) (base : Nat) (f : Nat → va_E) (len o : Nat) (n : Nat) (hn2 : 2 ≤ n) (hn5 : n ≤ 5) (ho : o < len) (he : f o = .inr (4, [.null, .int 0, .int 0])) :
    Met l y_L_init (Cond.code y_L_init b_L_init 3 none :: tw_tbl) rm_L_init (va_Pc [.ref (base + o), .int (nI n)] (bp G.1 ec_cl (ec_T G) base f len))
      (va_Qv (fun f' : Nat → va_E => f' o = .inr (4, [.ref (base + (len)), .int 0, .int 0]) ∧ (∀ x, x < len → x ≠ o → f' x = f x) ∧ (∃ g, f' len = .inl (G.2 4, 4 * n * (n - 1), .inr (.inr (.inr (.inr g)))) ∧ ∀ j, j < 4 * n * (n - 1) → g j = some (base + (len + 1 + j))) ∧ ∀ j, j < 4 * n * (n - 1) → f' (len + 1 + j) = .inr (5, [.int 0, .int 0, .int 0, .int 0, .int 0])) (fun f' t => bw G.1 ec_cl base f' (len + 1 + 4 * n * (n - 1)) t.heap) (fun q => base ≤ q)) 81 480 (fun q => base ≤ q) := by
  refine Met.ofW (cc := b_L_init) (maxL := 3) (ret := none) (by decide) rfl ?_
  intro p e s m args below meth c s₁ B hml hv
  obtain ⟨rfl, hB, hK, hnA, hnB, hO⟩ := hv
  have hx := B.exec
  have hb := B.bytes
  have hr := B.returns
  have hts0 := atoms_spec (ws := Cond.code y_L_init b_L_init 3 none :: tw_tbl) B.pre
  have hts : ∀ w ∈ tw_tbl, w.before [.ref (base + o), .int (nI n)].toArray s = true := fun w h => hts0 w (List.mem_cons_of_mem _ h)
  clear hts0
  have hown : s.vm.findClass "TwoPhaseCuts$NoteLine" = some m.cls := findClass_of_methodNamed B.named
  have hlocks := B.notSynchronized
  have hin : meth.name = "<init>" := (name_of_methodNamed B.named B.method).1
  have hC : CallFix p m c b_L_init 3 s [.ref (base + o), .int (nI n)].toArray tw_tbl "TwoPhaseCuts$NoteLine" := ⟨hx, hb, hml, hown, hts⟩
  have hS : va_S (fun q => base ≤ q) s.heap s.heap [] := va_S.rf
  have hl := lv_entry ([.ref (base + o), .int (nI n)]) (n := 3) (Nat.le_of_ble_eq_true rfl)
  rw [lg_entry_eq]
  generalize (lg_sl ([.ref (base + o), .int (nI n)]) ++ List.replicate (3 - (lg_sl ([.ref (base + o), .int (nI n)])).length) Slot.unset).toArray = ls at hl ⊢
  have hl : lv_has ls 3 [(0, .ref (base + o)), (1, .int (nI n))] := hl
  have hB : bw G.1 ec_cl base f len s.heap := hB
  clear B
  have hcap := k_cap hn5
  have hcp : nI 4 * nI n * (nI n - nI 1) = nI (4 * n * (n - 1)) := by rw [pk_mul, pk_sub (by omega), pk_mul]
  generalize hcape : 4 * n * (n - 1) = cap at *
  have loop : ∀ (r k : Nat) (f1 : Nat → va_E) (g : Nat → Option Nat) (H : Heap) (locs : List Loc) (ls : Array Slot), k + r = cap → bw G.1 ec_cl base f1 (len + 1 + k) H → va_S (fun q => base ≤ q) s.heap H locs →
      f1 o = .inr (4, [.ref (base + (len)), .int 0, .int 0]) → (∀ x, x < len → x ≠ o → f1 x = f x) → f1 len = .inl (G.2 4, cap, .inr (.inr (.inr (.inr g)))) → (∀ j, j < k → g j = some (base + (len + 1 + j))) → (∀ j, j < k → f1 (len + 1 + j) = .inr (5, [.int 0, .int 0, .int 0, .int 0, .int 0])) →
      lv_has ls 3 [(0, .ref (base + o)), (1, .int (nI n)), (2, .int (nI k))] →
      W p l e (headSpec (Cond.code y_L_init b_L_init 3 none :: tw_tbl) rm_L_init).room s m [.ref (base + o), .int (nI n)].toArray below meth c H locs (1 + k) (cap + 5 * k) (MQ below (va_Qv (fun f' : Nat → va_E => f' o = .inr (4, [.ref (base + (len)), .int 0, .int 0]) ∧ (∀ x, x < len → x ≠ o → f' x = f x) ∧ (∃ g, f' len = .inl (G.2 4, cap, .inr (.inr (.inr (.inr g)))) ∧ ∀ j, j < cap → g j = some (base + (len + 1 + j))) ∧ ∀ j, j < cap → f' (len + 1 + j) = .inr (5, [.int 0, .int 0, .int 0, .int 0, .int 0])) (fun f' t => bw G.1 ec_cl base f' (len + 1 + cap) t.heap) (fun q => base ≤ q)) [.ref (base + o), .int (nI n)].toArray s 81 480 (fun q => base ≤ q)) (F0 m 20 ls []) := by
    intro r
    induction r with
    | zero =>
      intro k f1 g H locs ls hk hB hS h1 h2 h3 h4 h5 hl
      have hk : k = cap := by omega
      subst hk
      refine lv_iload_n hx hb d_L_init_20 rfl (lv_at hl 2 rfl) ?_
      refine lv_aload_n hx hb d_L_init_21 rfl (lv_at hl 0 rfl) ?_
      refine va_get (D := G.1) (ci := 4) (C := "TwoPhaseCuts$NoteLine") (T := T_L) (N := 3) (v := .ref (base + (len))) hx hb hts ui_L hown hK (hB.one (o := o) (by omega) h1) 0 rfl rfl 0 (by decide) (hts _ tw_153) (fun _ h9 => h9) rfl d_L_init_22 ?_
      refine va_alen (D := G.1) (cl := ec_cl) hx hb hK (hB.one (o := len) (by omega) h3) 0 4 rfl rfl (v := nI k) rfl d_L_init_25 ?_
      refine lv_icmp_ge (tgt := 48) hx hb d_L_init_26 (by decide) (fun hc => ?_) (fun hc => absurd ((nn_le (by omega) (by omega)).mpr (Nat.le_refl _)) hc)
      refine W.widen (k := 81) (n := 480) (by omega) (by omega) ?_
      exact W.vret hx hb hr (fun t ht hw => ⟨⟨f1, rfl, ⟨h1, h2, ⟨g, h3, h4⟩, h5⟩, by show bw G.1 ec_cl base f1 (len + 1 + k) t.heap; rw [ht]; exact hB⟩, hS.F ht⟩) hS.2.2 d_L_init_48
    | succ r ih =>
      intro k f1 g H locs ls hk hB hS h1 h2 h3 h4 h5 hl
      refine lv_iload_n hx hb d_L_init_20 rfl (lv_at hl 2 rfl) ?_
      refine lv_aload_n hx hb d_L_init_21 rfl (lv_at hl 0 rfl) ?_
      refine va_get (D := G.1) (ci := 4) (C := "TwoPhaseCuts$NoteLine") (T := T_L) (N := 3) (v := .ref (base + (len))) hx hb hts ui_L hown hK (hB.one (o := o) (by omega) h1) 0 rfl rfl 0 (by decide) (hts _ tw_153) (fun _ h9 => h9) rfl d_L_init_22 ?_
      refine va_alen (D := G.1) (cl := ec_cl) hx hb hK (hB.one (o := len) (by omega) h3) 0 4 rfl rfl (v := nI cap) rfl d_L_init_25 ?_
      refine lv_icmp_ge (tgt := 48) hx hb d_L_init_26 (by decide) (fun hc => absurd hc (by rw [nn_le (by omega) (by omega)]; omega)) (fun hc => ?_)
      refine lv_aload_n hx hb d_L_init_29 rfl (lv_at hl 0 rfl) ?_
      refine va_get (D := G.1) (ci := 4) (C := "TwoPhaseCuts$NoteLine") (T := T_L) (N := 3) (v := .ref (base + (len))) hx hb hts ui_L hown hK (hB.one (o := o) (by omega) h1) 0 rfl rfl 0 (by decide) (hts _ tw_153) (fun _ h9 => h9) rfl d_L_init_30 ?_
      refine lv_iload_n hx hb d_L_init_33 rfl (lv_at hl 2 rfl) ?_
      refine bw_new (D := G.1) (ci := 5) (fs := [.int 0, .int 0, .int 0, .int 0, .int 0]) (C := "TwoPhaseCuts$Note") (T := T_N) (N := 5) hx hb hts ui_N ty_N tyo_N hown (hts _ tw_125) (hts _ tw_127) (hts _ tw_7) hK hB hS rfl (fun j hj => by rcases (show j = 0 ∨ j = 1 ∨ j = 2 ∨ j = 3 ∨ j = 4 by omega) with rfl | rfl | rfl | rfl | rfl <;> rfl) (by show 1 + k + 1 ≤ 81; omega) (by show cap + 5 * k + 5 ≤ 480; omega) d_L_init_34 (fun H hB hS => ?_)
      obtain ⟨f2, hf2⟩ : ∃ z, z = bu f1 (len + 1 + k) (.inr (5, [.int 0, .int 0, .int 0, .int 0, .int 0])) := ⟨_, rfl⟩
      rw [← hf2] at hB
      have e2 : ∀ x, x ≠ len + 1 + k → f2 x = f1 x := fun x hx => (congrFun hf2 x).trans (bu_n _ _ hx)
      have e3 : f2 (len + 1 + k) = .inr (5, [.int 0, .int 0, .int 0, .int 0, .int 0]) := (congrFun hf2 _).trans (bu_s _ _ _)
      refine lv_dup hx hb d_L_init_37 rfl ?_
      refine bw_callv (va_runIN (As := []) (rest := [.ref (base + (len + 1 + k)), .int (nI k), .ref (base + len)]) hC (ci_N l G base f2 (len + 1 + k + 1) (len + 1 + k) (by omega) e3) ⟨va_cnB 0 hts (tw_gI tw_130) rfl rfl rfl hnB (hts _ tw_7) (by decide +kernel) ⟨Nat.le_of_ble_eq_true rfl, Nat.le_of_ble_eq_true rfl⟩, rfl, hts _ tw_129⟩ (bp_preS hK hnA hnB hO hB) rfl rfl hl.1 rfl (lv_room (Nat.le_of_ble_eq_true rfl)) d_L_init_38 ⟨(by show 1 + k + 1 + 0 ≤ 81; omega), (by show cap + 5 * k + 5 + 0 ≤ 480; omega)⟩) (fun _ h => h) hS (fun f3 H locs hq hB hS => ?_)
      obtain ⟨q0, qx⟩ := hq
      have g3 : f3 len = .inl (G.2 4, cap, .inr (.inr (.inr (.inr g)))) := by rw [qx _ (by omega) (by omega), e2 _ (by omega)]; exact h3
      refine bw_aast hx hb hK hB hS 4 5 (o1 := len) (o2 := len + 1 + k) (by omega) (by omega) g3 rfl q0 rfl (mm_vp (nn_in (show k < cap by omega) (by omega))) d_L_init_41 (fun H locs hB hS => ?_)
      rw [nn_c (by omega)] at hB
      obtain ⟨f4, hf4⟩ : ∃ z, z = bu f3 len (.inl (G.2 4, cap, .inr (.inr (.inr (.inr (va_up g k (some (base + (len + 1 + k))))))))) := ⟨_, rfl⟩
      rw [← hf4] at hB
      have e4 : ∀ x, x ≠ len → f4 x = f3 x := fun x hx => (congrFun hf4 x).trans (bu_n _ _ hx)
      refine lv_iinc (v := nI (k + 1)) (lv' := [(2, .int (nI (k + 1))), (0, .ref (base + o)), (1, .int (nI n))]) hx hb d_L_init_42 hl (k := 2) rfl (by rw [mm_inc, nI_1]) (by decide) rfl (fun ls hl => ?_)
      refine lv_goto (tgt := 20) hx hb d_L_init_45 (by decide) ?_
      have hc1 : 1 + k + 1 + 0 = 1 + (k + 1) := by omega
      have hc2 : cap + 5 * k + 5 + 0 = cap + 5 * (k + 1) := by omega
      rw [hc1, hc2]
      refine ih (k + 1) f4 (va_up g k (some (base + (len + 1 + k)))) H locs ls (by omega) ?_ hS ?_ (fun x z1 z2 => ?_) ?_ (fun j hj => ?_) (fun j hj => ?_) (lv_sub hl [1, 2, 0] rfl)
      · rw [show len + 1 + (k + 1) = len + 1 + k + 1 by omega]; exact hB
      · rw [e4 _ (by omega), qx _ (by omega) (by omega), e2 _ (by omega)]; exact h1
      · rw [e4 _ (by omega), qx _ (by omega) (by omega), e2 _ (by omega)]; exact h2 x z1 z2
      · exact (congrFun hf4 _).trans (bu_s _ _ _)
      · by_cases hjk : j = k
        · subst hjk; simp [va_up]
        · simp only [va_up, hjk, if_false]; exact h4 j (by omega)
      · by_cases hjk : j = k
        · subst hjk; rw [e4 _ (by omega)]; exact q0
        · rw [e4 _ (by omega), qx _ (by omega) (by omega), e2 _ (by omega)]; exact h5 j (by omega)
  refine lv_aload_n hx hb d_L_init_0 rfl (lv_at hl 0 rfl) ?_
  refine W.objInit hx hb hown (hts _ tw_124) (hts _ tw_15) (hts _ tw_16) rfl (by rw [hml]; exact hl.1) rfl d_L_init_1 (Nat.le_of_ble_eq_true rfl) (Nat.le_of_ble_eq_true rfl) ?_
  refine W.eq (g2 := F0 m 4 ls []) rfl ?_
  refine lv_aload_n hx hb d_L_init_4 rfl (lv_at hl 0 rfl) ?_
  refine lv_iconst (v := nI 4) hx hb d_L_init_5 (by decide) ?_
  refine lv_iload_n hx hb d_L_init_6 rfl (lv_at hl 1 rfl) ?_
  refine lv_imul hx hb d_L_init_7 ?_
  refine lv_iload_n hx hb d_L_init_8 rfl (lv_at hl 1 rfl) ?_
  refine lv_iconst (v := nI 1) hx hb d_L_init_9 (by decide) ?_
  refine lv_isub hx hb d_L_init_10 ?_
  refine lv_imul hx hb d_L_init_11 ?_
  refine mm_top hcp ?_
  refine bw_anew (D := G.1) (N' := cap) hx hb hown (hts _ tw_125) (va_AO.use hO.2.2) hK 4 rfl hB hS (nI_pos (by omega)) (nI_clamp (by omega)) (by omega) (by show 0 + 1 ≤ 81; omega) (by show 0 + cap ≤ 480; omega) d_L_init_12 (fun H hB hS => ?_)
  refine W.widen (k := 1 + 0) (n := cap + 5 * 0) (by omega) (by omega) ?_
  obtain ⟨f1, hf1⟩ : ∃ z, z = bu f len (.inl (G.2 4, cap, .inr (.inr (.inr (.inr (fun _ => none)))))) := ⟨_, rfl⟩
  rw [← hf1] at hB
  have e1 : ∀ x, x ≠ len → f1 x = f x := fun x hx => (congrFun hf1 x).trans (bu_n _ _ hx)
  have ho1 : f1 o = .inr (4, [.null, .int 0, .int 0]) := by rw [e1 _ (by omega)]; exact he
  refine bw_putF (D := G.1) (ci := 4) (C := "TwoPhaseCuts$NoteLine") (T := T_L) (N := 3) (v := .ref (base + (len))) (ty := .array (.object "TwoPhaseCuts$Note")) (o := o) hx hb hts ui_L ty_L tyo_L nmo_L hown hK hB hS (by omega) ho1 rfl 0 (by decide) (hts _ tw_153) (fun _ h9 => h9) rfl hin rfl (by decide +kernel) rfl rfl (Nat.le_of_ble_eq_true rfl) d_L_init_15 (fun H locs hB hS => ?_)
  have hB : bw G.1 ec_cl base (bu f1 o (.inr (4, [.ref (base + (len)), .int 0, .int 0]))) (len + 1) H := hB
  obtain ⟨f2, hf2⟩ : ∃ z, z = bu f1 o (.inr (4, [.ref (base + (len)), .int 0, .int 0])) := ⟨_, rfl⟩
  rw [← hf2] at hB
  have e2 : ∀ x, x ≠ o → f2 x = f1 x := fun x hx => (congrFun hf2 x).trans (bu_n _ _ hx)
  refine lv_iconst (v := nI 0) hx hb d_L_init_18 (by decide) ?_
  refine lv_istore_n (lv' := [(2, .int (nI 0)), (0, .ref (base + o)), (1, .int (nI n))]) hx hb d_L_init_19 rfl hl (by decide) rfl (fun ls hl => ?_)
  refine loop cap 0 f2 (fun _ => none) H locs ls (by omega) hB hS ((congrFun hf2 _).trans (bu_s _ _ _)) (fun x z1 z2 => by rw [e2 _ z2, e1 _ (by omega)]) ?_ (fun j hj => by omega) (fun j hj => by omega) (lv_sub hl [1, 2, 0] rfl)
  rw [e2 _ (by omega)]
  exact (congrFun hf1 _).trans (bu_s _ _ _)
