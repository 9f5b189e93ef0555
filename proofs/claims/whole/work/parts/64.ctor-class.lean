def mbk (G : ec_G) (base n : Nat) (f : Nat → va_E) (a : Nat) : Prop := f a = .inr (1, [.ref (base + (a + 1)), .ref (base + (a + 1 + 3)), .ref (base + (a + 1 + 6)), .int 0, .int 0, .int 0, .int 0, .int 0, .int 0, .ref (base + (a + 1 + 9)), .int 0, .int 0]) ∧ f (a + 1) = .inr (2, [.int 0, .ref (base + (a + 1 + 1)), .ref (base + (a + 1 + 2))]) ∧ f (a + 1 + 1) = .inl (G.2 0, n, .inl (fun _ => 0)) ∧ f (a + 1 + 2) = .inl (G.2 0, n, .inl (fun _ => 0)) ∧ f (a + 1 + 3) = .inr (2, [.int 0, .ref (base + (a + 1 + 4)), .ref (base + (a + 1 + 5))]) ∧ f (a + 1 + 4) = .inl (G.2 0, n, .inl (fun _ => 0)) ∧ f (a + 1 + 5) = .inl (G.2 0, n, .inl (fun _ => 0)) ∧ f (a + 1 + 6) = .inr (2, [.int 0, .ref (base + (a + 1 + 7)), .ref (base + (a + 1 + 8))]) ∧ f (a + 1 + 7) = .inl (G.2 0, n, .inl (fun _ => 0)) ∧ f (a + 1 + 8) = .inl (G.2 0, n, .inl (fun _ => 0)) ∧ f (a + 1 + 9) = .inl (G.2 1, n, .inl (fun _ => 0))
theorem mbk.cg {G : ec_G} {base n : Nat} {f f' : Nat → va_E} {a : Nat} (h : mbk G base n f a) (hx : ∀ x, a ≤ x → x < a + 11 → f' x = f x) : mbk G base n f' a := by
  obtain ⟨h0, h1, h2, h3, h4, h5, h6, h7, h8, h9, h10⟩ := h
  exact ⟨(hx _ (by omega) (by omega)).trans h0, (hx _ (by omega) (by omega)).trans h1, (hx _ (by omega) (by omega)).trans h2, (hx _ (by omega) (by omega)).trans h3, (hx _ (by omega) (by omega)).trans h4, (hx _ (by omega) (by omega)).trans h5, (hx _ (by omega) (by omega)).trans h6, (hx _ (by omega) (by omega)).trans h7, (hx _ (by omega) (by omega)).trans h8, (hx _ (by omega) (by omega)).trans h9, (hx _ (by omega) (by omega)).trans h10⟩
def cbk (G : ec_G) (base : Nat) (f : Nat → va_E) (a : Nat) : Prop := f a = .inr (3, [.ref (base + (a + 1)), .ref (base + (a + 1 + 1)), .int 0]) ∧ f (a + 1) = .inl (G.2 0, 6, .inl (fun _ => 0)) ∧ f (a + 1 + 1) = .inl (G.2 0, 6, .inl (fun _ => 0))
theorem cbk.cg {G : ec_G} {base : Nat} {f f' : Nat → va_E} {a : Nat} (h : cbk G base f a) (hx : ∀ x, a ≤ x → x < a + 3 → f' x = f x) : cbk G base f' a := by
  obtain ⟨h0, h1, h2⟩ := h
  exact ⟨(hx _ (by omega) (by omega)).trans h0, (hx _ (by omega) (by omega)).trans h1, (hx _ (by omega) (by omega)).trans h2⟩
/-- the members' array with k of its n blocks made; the channels'; the note line -/
def mxk (G : ec_G) (base n k : Nat) (f : Nat → va_E) (a : Nat) : Prop := (∃ g, f a = .inl (G.2 2, n, .inr (.inr (.inr (.inr g)))) ∧ ∀ j, j < k → g j = some (base + (a + 1 + 11 * j))) ∧ ∀ j, j < k → mbk G base n f (a + 1 + 11 * j)
def cxk (G : ec_G) (base q k : Nat) (f : Nat → va_E) (a : Nat) : Prop := (∃ g, f a = .inl (G.2 3, q, .inr (.inr (.inr (.inr g)))) ∧ ∀ j, j < k → g j = some (base + (a + 1 + 3 * j))) ∧ ∀ j, j < k → cbk G base f (a + 1 + 3 * j)
def lxk (G : ec_G) (base cap : Nat) (f : Nat → va_E) (a : Nat) : Prop := f a = .inr (4, [.ref (base + (a + 1)), .int 0, .int 0]) ∧ (∃ g, f (a + 1) = .inl (G.2 4, cap, .inr (.inr (.inr (.inr g)))) ∧ ∀ j, j < cap → g j = some (base + (a + 1 + 1 + j))) ∧ ∀ j, j < cap → f (a + 1 + 1 + j) = .inr (5, [.int 0, .int 0, .int 0, .int 0, .int 0])
theorem mxk.cg {G : ec_G} {base n k : Nat} {f f' : Nat → va_E} {a : Nat} (h : mxk G base n k f a) (hx : ∀ x, a ≤ x → x < a + 1 + 11 * k → f' x = f x) : mxk G base n k f' a := by
  obtain ⟨⟨g, h1, h2⟩, h3⟩ := h
  exact ⟨⟨g, (hx _ (by omega) (by omega)).trans h1, h2⟩, fun j hj => (h3 j hj).cg fun x z1 z2 => hx x (by omega) (by omega)⟩
theorem cxk.cg {G : ec_G} {base q k : Nat} {f f' : Nat → va_E} {a : Nat} (h : cxk G base q k f a) (hx : ∀ x, a ≤ x → x < a + 1 + 3 * k → f' x = f x) : cxk G base q k f' a := by
  obtain ⟨⟨g, h1, h2⟩, h3⟩ := h
  exact ⟨⟨g, (hx _ (by omega) (by omega)).trans h1, h2⟩, fun j hj => (h3 j hj).cg fun x z1 z2 => hx x (by omega) (by omega)⟩
theorem lxk.cg {G : ec_G} {base cap : Nat} {f f' : Nat → va_E} {a : Nat} (h : lxk G base cap f a) (hx : ∀ x, a ≤ x → x < a + 1 + 1 + cap → f' x = f x) : lxk G base cap f' a := by
  obtain ⟨h0, ⟨g, h1, h2⟩, h3⟩ := h
  exact ⟨(hx _ (by omega) (by omega)).trans h0, ⟨g, (hx _ (by omega) (by omega)).trans h1, h2⟩, fun j hj => (hx _ (by omega) (by omega)).trans (h3 j hj)⟩
theorem tw_14 : (Jvm.Cond.methodLink "TwoPhaseCuts" (1 : Nat) ({ cls := "java/lang/Object", name := "<init>", desc := "()V" } : Jvm.MethodName)) ∈ tw_tbl := tw_of 14 (by decide +kernel) (by decide +kernel)
theorem tw_17 : (Jvm.Cond.methodLink "TwoPhaseCuts" (9 : Nat) ({ cls := "java/lang/Math", name := "min", desc := "(II)I" } : Jvm.MethodName)) ∈ tw_tbl := tw_of 17 (by decide +kernel) (by decide +kernel)
theorem tw_18 : (Jvm.Cond.static ({ cls := "java/lang/Math", name := "min", desc := "(II)I" } : Jvm.MethodName)) ∈ tw_tbl := tw_of 18 (by decide +kernel) (by decide +kernel)
theorem tw_19 : (Jvm.Cond.code ({ cls := "java/lang/Math", name := "min", desc := "(II)I" } : Jvm.MethodName) prog_9_method_69_code (2 : Nat) (Option.some Jvm.ClassFile.FieldType.int)) ∈ tw_tbl := tw_of 19 (by decide +kernel) (by decide +kernel)
theorem tw_20 : (Jvm.Cond.methodLink "TwoPhaseCuts" (15 : Nat) ({ cls := "java/lang/Math", name := "max", desc := "(II)I" } : Jvm.MethodName)) ∈ tw_tbl := tw_of 20 (by decide +kernel) (by decide +kernel)
theorem tw_23 : (Jvm.Cond.classLink "TwoPhaseCuts" (22 : Nat) "TwoPhaseCuts$Member") ∈ tw_tbl := tw_of 23 (by decide +kernel) (by decide +kernel)
theorem tw_25 : (Jvm.Cond.instantiable "TwoPhaseCuts$Member" (12 : Nat)) ∈ tw_tbl := tw_of 25 (by decide +kernel) (by decide +kernel)
theorem tw_26 : (Jvm.Cond.methodLink "TwoPhaseCuts" (28 : Nat) ({ cls := "TwoPhaseCuts$Member", name := "<init>", desc := "(I)V" } : Jvm.MethodName)) ∈ tw_tbl := tw_of 26 (by decide +kernel) (by decide +kernel)
theorem tw_27 : (Jvm.Cond.instanceMethod ({ cls := "TwoPhaseCuts$Member", name := "<init>", desc := "(I)V" } : Jvm.MethodName)) ∈ tw_tbl := tw_of 27 (by decide +kernel) (by decide +kernel)
theorem tw_28 : (Jvm.Cond.code ({ cls := "TwoPhaseCuts$Member", name := "<init>", desc := "(I)V" } : Jvm.MethodName) prog_3_method_1_code (2 : Nat) (Option.none : Option Jvm.ClassFile.FieldType)) ∈ tw_tbl := tw_of 28 (by decide +kernel) (by decide +kernel)
theorem tw_99 : (Jvm.Cond.classLink "TwoPhaseCuts" (31 : Nat) "TwoPhaseCuts$Channel") ∈ tw_tbl := tw_of 99 (by decide +kernel) (by decide +kernel)
theorem tw_101 : (Jvm.Cond.instantiable "TwoPhaseCuts$Channel" (3 : Nat)) ∈ tw_tbl := tw_of 101 (by decide +kernel) (by decide +kernel)
theorem tw_103 : (Jvm.Cond.instanceMethod ({ cls := "TwoPhaseCuts$Channel", name := "<init>", desc := "()V" } : Jvm.MethodName)) ∈ tw_tbl := tw_of 103 (by decide +kernel) (by decide +kernel)
theorem tw_104 : (Jvm.Cond.code ({ cls := "TwoPhaseCuts$Channel", name := "<init>", desc := "()V" } : Jvm.MethodName) prog_2_method_1_code (1 : Nat) (Option.none : Option Jvm.ClassFile.FieldType)) ∈ tw_tbl := tw_of 104 (by decide +kernel) (by decide +kernel)
theorem tw_119 : (Jvm.Cond.classLink "TwoPhaseCuts" (38 : Nat) "TwoPhaseCuts$NoteLine") ∈ tw_tbl := tw_of 119 (by decide +kernel) (by decide +kernel)
theorem tw_120 : (Jvm.Cond.instantiable "TwoPhaseCuts$NoteLine" (3 : Nat)) ∈ tw_tbl := tw_of 120 (by decide +kernel) (by decide +kernel)
theorem tw_121 : (Jvm.Cond.methodLink "TwoPhaseCuts" (40 : Nat) ({ cls := "TwoPhaseCuts$NoteLine", name := "<init>", desc := "(I)V" } : Jvm.MethodName)) ∈ tw_tbl := tw_of 121 (by decide +kernel) (by decide +kernel)
theorem tw_122 : (Jvm.Cond.instanceMethod ({ cls := "TwoPhaseCuts$NoteLine", name := "<init>", desc := "(I)V" } : Jvm.MethodName)) ∈ tw_tbl := tw_of 122 (by decide +kernel) (by decide +kernel)
theorem tw_123 : (Jvm.Cond.code ({ cls := "TwoPhaseCuts$NoteLine", name := "<init>", desc := "(I)V" } : Jvm.MethodName) prog_5_method_1_code (3 : Nat) (Option.none : Option Jvm.ClassFile.FieldType)) ∈ tw_tbl := tw_of 123 (by decide +kernel) (by decide +kernel)
abbrev rm_X_init : Room := { frames := 3, cells := 216, slots := 2194, locals := 100 }
set_option maxHeartbeats 8000000 in
set_option maxRecDepth 100000 in
theorem ci_X (l : Launch) (G : ec_G) (base : Nat) (f : Nat → va_E) (len o : Nat) (a1 : Int32) (n : Nat) (hn2 : 2 ≤ n) (hn5 : n ≤ 5) (hna : (if (2 : Int32) < (if a1 < 5 then a1 else 5) then (if a1 < 5 then a1 else 5) else 2) = nI n) (ho : o < len) (he : f o = .inr (0, [.int 0, .null, .null, .null, .null, .null, .int 0])) :
    Met l y_X_init (Cond.code y_X_init b_X_init 3 none :: tw_tbl) rm_X_init (va_Pc [.ref (base + o), .int a1] (bp G.1 ec_cl (ec_T G) base f len))
      (va_Qv (fun f' : Nat → va_E => f' o = .inr (0, [.int (nI n), .ref (base + len), .ref (base + (len + 1 + 11 * n)), .ref (base + (len + 1 + 11 * n + 1 + 3 * (n * n))), .ref (base + (len + 1 + 11 * n + 1 + 3 * (n * n) + 1 + 1 + 4 * n * (n - 1))), .ref (base + ((len + 1 + 11 * n + 1 + 3 * (n * n) + 1 + 1 + 4 * n * (n - 1)) + 1)), .int 0]) ∧ mxk G base n n f' len ∧ cxk G base (n * n) (n * n) f' (len + 1 + 11 * n) ∧ lxk G base (4 * n * (n - 1)) f' (len + 1 + 11 * n + 1 + 3 * (n * n)) ∧ f' (len + 1 + 11 * n + 1 + 3 * (n * n) + 1 + 1 + 4 * n * (n - 1)) = .inl (G.2 1, 513, .inl (fun _ => 0)) ∧ f' ((len + 1 + 11 * n + 1 + 3 * (n * n) + 1 + 1 + 4 * n * (n - 1)) + 1) = .inl (G.2 0, 513, .inl (fun _ => 0))) (fun f' t => bw G.1 ec_cl base f' ((len + 1 + 11 * n + 1 + 3 * (n * n) + 1 + 1 + 4 * n * (n - 1)) + 1 + 1) t.heap) (fun q => base ≤ q)) 216 2194 (fun q => base ≤ q) := by
  refine Met.ofW (cc := b_X_init) (maxL := 3) (ret := none) (by decide) rfl ?_
  intro p e s m args below meth c s₁ B hml hv
  obtain ⟨rfl, hB, hK, hnA, hnB, hO⟩ := hv
  have hx := B.exec
  have hb := B.bytes
  have hr := B.returns
  have hts0 := atoms_spec (ws := Cond.code y_X_init b_X_init 3 none :: tw_tbl) B.pre
  have hts : ∀ w ∈ tw_tbl, w.before [.ref (base + o), .int a1].toArray s = true := fun w h => hts0 w (List.mem_cons_of_mem _ h)
  clear hts0
  have hown : s.vm.findClass "TwoPhaseCuts" = some m.cls := findClass_of_methodNamed B.named
  have hlocks := B.notSynchronized
  have hin : meth.name = "<init>" := (name_of_methodNamed B.named B.method).1
  have hC : CallFix p m c b_X_init 3 s [.ref (base + o), .int a1].toArray tw_tbl "TwoPhaseCuts" := ⟨hx, hb, hml, hown, hts⟩
  have hS : va_S (fun q => base ≤ q) s.heap s.heap [] := va_S.rf
  have hl := lv_entry ([.ref (base + o), .int a1]) (n := 3) (Nat.le_of_ble_eq_true rfl)
  rw [lg_entry_eq]
  generalize (lg_sl ([.ref (base + o), .int a1]) ++ List.replicate (3 - (lg_sl ([.ref (base + o), .int a1])).length) Slot.unset).toArray = ls at hl ⊢
  have hl : lv_has ls 3 [(0, .ref (base + o)), (1, .int a1)] := hl
  have hB : bw G.1 ec_cl base f len s.heap := hB
  clear B
  have hcap := k_cap hn5
  have hqq : n * n ≤ 25 := Nat.le_trans (Nat.mul_le_mul hn5 hn5) (by decide)
  have hqn : nI n * nI n = nI (n * n) := pk_mul n n
  generalize hcape : 4 * n * (n - 1) = cap at *
  generalize hqe : n * n = q at *
  generalize hMe : len + 1 + 11 * n = M at *
  generalize hKe : M + 1 + 3 * q = K at *
  generalize hZe : K + 1 + 1 + cap = Z at *
  have tail : ∀ (f1 : Nat → va_E) (H : Heap) (locs : List Loc) (ls : Array Slot), bw G.1 ec_cl base f1 K H → va_S (fun q => base ≤ q) s.heap H locs → f1 o = .inr (0, [.int (nI n), .ref (base + len), .ref (base + M), .null, .null, .null, .int 0]) → mxk G base n n f1 len → cxk G base q q f1 M → lv_has ls 3 [(0, .ref (base + o)), (1, .int a1)] → W p l e (headSpec (Cond.code y_X_init b_X_init 3 none :: tw_tbl) rm_X_init).room s m [.ref (base + o), .int a1].toArray below meth c H locs 132 685 (MQ below (va_Qv (fun f' : Nat → va_E => f' o = .inr (0, [.int (nI n), .ref (base + len), .ref (base + M), .ref (base + K), .ref (base + Z), .ref (base + (Z + 1)), .int 0]) ∧ mxk G base n n f' len ∧ cxk G base q q f' M ∧ lxk G base cap f' K ∧ f' Z = .inl (G.2 1, 513, .inl (fun _ => 0)) ∧ f' (Z + 1) = .inl (G.2 0, 513, .inl (fun _ => 0))) (fun f' t => bw G.1 ec_cl base f' (Z + 1 + 1) t.heap) (fun q => base ≤ q)) [.ref (base + o), .int a1].toArray s 216 2194 (fun q => base ≤ q)) (F0 m 107 ls []) := by
    intro f1 H locs ls hB hS h1 h2 h3 hl
    refine lv_aload_n hx hb d_X_init_107 rfl (lv_at hl 0 rfl) ?_
    refine bw_new (D := G.1) (ci := 4) (fs := [.null, .int 0, .int 0]) (C := "TwoPhaseCuts$NoteLine") (T := T_L) (N := 3) hx hb hts ui_L ty_L tyo_L hown (hts _ tw_119) (hts _ tw_120) (hts _ tw_6) hK hB hS rfl (fun j hj => by rcases (show j = 0 ∨ j = 1 ∨ j = 2 by omega) with rfl | rfl | rfl <;> rfl) (by show 132 + 1 ≤ 216; omega) (by show 685 + 3 ≤ 2194; omega) d_X_init_108 (fun H hB hS => ?_)
    have hB : bw G.1 ec_cl base (bu f1 K (.inr (4, [.null, .int 0, .int 0]))) (K + 1) H := hB
    obtain ⟨f2, hf2⟩ : ∃ z, z = bu f1 K (.inr (4, [.null, .int 0, .int 0])) := ⟨_, rfl⟩
    rw [← hf2] at hB
    have ef2 : ∀ x, x ≠ K → f2 x = f1 x := fun x z => (congrFun hf2 x).trans (bu_n _ _ z)
    have vf2 : f2 K = .inr (4, [.null, .int 0, .int 0]) := (congrFun hf2 _).trans (bu_s _ _ _)
    refine lv_dup hx hb d_X_init_111 rfl ?_
    refine lv_aload_n hx hb d_X_init_112 rfl (lv_at hl 0 rfl) ?_
    refine va_get (D := G.1) (ci := 0) (C := "TwoPhaseCuts") (T := T_X) (N := 7) (v := .int (nI n)) hx hb hts ui_X hown hK (hB.one (o := o) (by omega) ((ef2 _ (by omega)).trans h1)) 0 rfl rfl 0 (by decide) (hts _ tw_164) (fun _ h9 => h9) rfl d_X_init_113 ?_
    refine bw_callv (va_runI (As := [.int (nI n)]) (rest := [.ref (base + K), .ref (base + o)]) hC (ci_L l G base f2 (K + 1) K n hn2 hn5 (by omega) vf2) (cwI 1 hts (tw_gI tw_123) rfl rfl rfl (hts _ tw_6) (hts _ tw_121) (hts _ tw_122) rfl (by decide +kernel) ⟨Nat.le_of_ble_eq_true rfl, Nat.le_of_ble_eq_true rfl⟩) (bp_preS hK hnA hnB hO hB) rfl rfl hl.1 rfl (lv_room (Nat.le_of_ble_eq_true rfl)) d_X_init_116 ⟨(by show (132 + 1) + 81 ≤ 216; omega), (by show (685 + 3) + 480 ≤ 2194; omega)⟩) (fun _ h => h) hS (fun f3 H locs hq hB hS => ?_)
    rw [hcape] at hq hB
    obtain ⟨q0, qx, qr, qn⟩ := hq
    have hB : bw G.1 ec_cl base f3 Z H := by rw [← hZe]; exact hB
    have g1 : f3 o = .inr (0, [.int (nI n), .ref (base + len), .ref (base + M), .null, .null, .null, .int 0]) := by rw [qx _ (by omega) (by omega), ef2 _ (by omega)]; exact h1
    have g2 : mxk G base n n f3 len := h2.cg fun x z1 z2 => by rw [qx _ (by omega) (by omega), ef2 _ (by omega)]
    have g3 : cxk G base q q f3 M := h3.cg fun x z1 z2 => by rw [qx _ (by omega) (by omega), ef2 _ (by omega)]
    have g4 : lxk G base cap f3 K := ⟨q0, qr, qn⟩
    clear h1 h2 h3 qx qr qn q0 ef2 vf2 hf2
    refine bw_putF (D := G.1) (ci := 0) (C := "TwoPhaseCuts") (T := T_X) (N := 7) (v := .ref (base + K)) (ty := .object "TwoPhaseCuts$NoteLine") (o := o) hx hb hts ui_X ty_X tyo_X nmo_X hown hK hB hS (by omega) g1 rfl 3 (by decide) (hts _ tw_167) (fun _ h9 => h9) rfl hin rfl (by decide +kernel) rfl rfl (Nat.le_of_ble_eq_true rfl) d_X_init_119 (fun H locs hB hS => ?_)
    have hB : bw G.1 ec_cl base (bu f3 o (.inr (0, [.int (nI n), .ref (base + len), .ref (base + M), .ref (base + K), .null, .null, .int 0]))) (Z) H := hB
    obtain ⟨f4, hf4⟩ : ∃ z, z = bu f3 o (.inr (0, [.int (nI n), .ref (base + len), .ref (base + M), .ref (base + K), .null, .null, .int 0])) := ⟨_, rfl⟩
    rw [← hf4] at hB
    have ef4 : ∀ x, x ≠ o → f4 x = f3 x := fun x z => (congrFun hf4 x).trans (bu_n _ _ z)
    have vf4 : f4 o = .inr (0, [.int (nI n), .ref (base + len), .ref (base + M), .ref (base + K), .null, .null, .int 0]) := (congrFun hf4 _).trans (bu_s _ _ _)
    refine lv_aload_n hx hb d_X_init_122 rfl (lv_at hl 0 rfl) ?_
    refine lv_sipush (v := nI 513) hx hb d_X_init_123 (by decide) ?_
    refine bw_newa (D := G.1) (N' := 513) (atype := .boolean) (ty := .boolean) hx hb (hts _ tw_98) rfl rfl hK 1 rfl (fun h => h) hB hS (nI_pos (by omega)) (nI_clamp (by omega)) (by show 513 * 1 ≤ 536870912; omega) (by show (132 + 1 + 81) + 1 ≤ 216; omega) (by show (685 + 3 + 480) + 513 ≤ 2194; omega) d_X_init_126 (fun H hB hS => ?_)
    have hB : bw G.1 ec_cl base (bu f4 Z (.inl (G.2 1, 513, .inl (fun _ => 0)))) (Z + 1) H := hB
    obtain ⟨f5, hf5⟩ : ∃ z, z = bu f4 Z (.inl (G.2 1, 513, .inl (fun _ => 0))) := ⟨_, rfl⟩
    rw [← hf5] at hB
    have ef5 : ∀ x, x ≠ Z → f5 x = f4 x := fun x z => (congrFun hf5 x).trans (bu_n _ _ z)
    have vf5 : f5 Z = .inl (G.2 1, 513, .inl (fun _ => 0)) := (congrFun hf5 _).trans (bu_s _ _ _)
    refine bw_putF (D := G.1) (ci := 0) (C := "TwoPhaseCuts") (T := T_X) (N := 7) (v := .ref (base + Z)) (ty := .array .boolean) (o := o) hx hb hts ui_X ty_X tyo_X nmo_X hown hK hB hS (by omega) ((ef5 _ (by omega)).trans vf4) rfl 4 (by decide) (hts _ tw_168) (fun _ h9 => h9) rfl hin rfl (by decide +kernel) rfl rfl (Nat.le_of_ble_eq_true rfl) d_X_init_128 (fun H locs hB hS => ?_)
    have hB : bw G.1 ec_cl base (bu f5 o (.inr (0, [.int (nI n), .ref (base + len), .ref (base + M), .ref (base + K), .ref (base + Z), .null, .int 0]))) (Z + 1) H := hB
    obtain ⟨f6, hf6⟩ : ∃ z, z = bu f5 o (.inr (0, [.int (nI n), .ref (base + len), .ref (base + M), .ref (base + K), .ref (base + Z), .null, .int 0])) := ⟨_, rfl⟩
    rw [← hf6] at hB
    have ef6 : ∀ x, x ≠ o → f6 x = f5 x := fun x z => (congrFun hf6 x).trans (bu_n _ _ z)
    have vf6 : f6 o = .inr (0, [.int (nI n), .ref (base + len), .ref (base + M), .ref (base + K), .ref (base + Z), .null, .int 0]) := (congrFun hf6 _).trans (bu_s _ _ _)
    refine lv_aload_n hx hb d_X_init_131 rfl (lv_at hl 0 rfl) ?_
    refine lv_sipush (v := nI 513) hx hb d_X_init_132 (by decide) ?_
    refine bw_newa (D := G.1) (N' := 513) (atype := .int) (ty := .int) hx hb (hts _ tw_51) rfl rfl hK 0 rfl (fun h => h) hB hS (nI_pos (by omega)) (nI_clamp (by omega)) (by show 513 * 4 ≤ 536870912; omega) (by show (132 + 1 + 81 + 1) + 1 ≤ 216; omega) (by show (685 + 3 + 480 + 513) + 513 ≤ 2194; omega) d_X_init_135 (fun H hB hS => ?_)
    have hB : bw G.1 ec_cl base (bu f6 (Z + 1) (.inl (G.2 0, 513, .inl (fun _ => 0)))) (Z + 1 + 1) H := hB
    obtain ⟨f7, hf7⟩ : ∃ z, z = bu f6 (Z + 1) (.inl (G.2 0, 513, .inl (fun _ => 0))) := ⟨_, rfl⟩
    rw [← hf7] at hB
    have ef7 : ∀ x, x ≠ (Z + 1) → f7 x = f6 x := fun x z => (congrFun hf7 x).trans (bu_n _ _ z)
    have vf7 : f7 (Z + 1) = .inl (G.2 0, 513, .inl (fun _ => 0)) := (congrFun hf7 _).trans (bu_s _ _ _)
    refine bw_putF (D := G.1) (ci := 0) (C := "TwoPhaseCuts") (T := T_X) (N := 7) (v := .ref (base + (Z + 1))) (ty := .array .int) (o := o) hx hb hts ui_X ty_X tyo_X nmo_X hown hK hB hS (by omega) ((ef7 _ (by omega)).trans vf6) rfl 5 (by decide) (hts _ tw_169) (fun _ h9 => h9) rfl hin rfl (by decide +kernel) rfl rfl (Nat.le_of_ble_eq_true rfl) d_X_init_137 (fun H locs hB hS => ?_)
    have hB : bw G.1 ec_cl base (bu f7 o (.inr (0, [.int (nI n), .ref (base + len), .ref (base + M), .ref (base + K), .ref (base + Z), .ref (base + (Z + 1)), .int 0]))) (Z + 1 + 1) H := hB
    obtain ⟨f8, hf8⟩ : ∃ z, z = bu f7 o (.inr (0, [.int (nI n), .ref (base + len), .ref (base + M), .ref (base + K), .ref (base + Z), .ref (base + (Z + 1)), .int 0])) := ⟨_, rfl⟩
    rw [← hf8] at hB
    have ef8 : ∀ x, x ≠ o → f8 x = f7 x := fun x z => (congrFun hf8 x).trans (bu_n _ _ z)
    have vf8 : f8 o = .inr (0, [.int (nI n), .ref (base + len), .ref (base + M), .ref (base + K), .ref (base + Z), .ref (base + (Z + 1)), .int 0]) := (congrFun hf8 _).trans (bu_s _ _ _)
    have e8 : ∀ x, x ≠ o → x < Z → f8 x = f3 x := fun x z1 z2 => by rw [ef8 _ z1, ef7 _ (by omega), ef6 _ z1, ef5 _ (by omega), ef4 _ z1]
    exact W.vret hx hb hr (fun t ht hw => ⟨⟨f8, rfl, ⟨vf8, g2.cg fun x z1 z2 => e8 x (by omega) (by omega), g3.cg fun x z1 z2 => e8 x (by omega) (by omega), g4.cg fun x z1 z2 => e8 x (by omega) (by omega), by rw [ef8 _ (by omega), ef7 _ (by omega), ef6 _ (by omega)]; exact vf5, by rw [ef8 _ (by omega)]; exact vf7⟩, by show bw G.1 ec_cl base f8 (Z + 1 + 1) t.heap; rw [ht]; exact hB⟩, hS.F ht⟩) hS.2.2 d_X_init_140
  have loop2 : ∀ (r k : Nat) (f1 : Nat → va_E) (H : Heap) (locs : List Loc) (ls : Array Slot), k + r = q → bw G.1 ec_cl base f1 (M + 1 + 3 * k) H → va_S (fun q => base ≤ q) s.heap H locs → f1 o = .inr (0, [.int (nI n), .ref (base + len), .ref (base + M), .null, .null, .null, .int 0]) → mxk G base n n f1 len → cxk G base q k f1 M → lv_has ls 3 [(0, .ref (base + o)), (1, .int a1), (2, .int (nI k))] → W p l e (headSpec (Cond.code y_X_init b_X_init 3 none :: tw_tbl) rm_X_init).room s m [.ref (base + o), .int a1].toArray below meth c H locs (57 + 3 * k) (310 + 15 * k) (MQ below (va_Qv (fun f' : Nat → va_E => f' o = .inr (0, [.int (nI n), .ref (base + len), .ref (base + M), .ref (base + K), .ref (base + Z), .ref (base + (Z + 1)), .int 0]) ∧ mxk G base n n f' len ∧ cxk G base q q f' M ∧ lxk G base cap f' K ∧ f' Z = .inl (G.2 1, 513, .inl (fun _ => 0)) ∧ f' (Z + 1) = .inl (G.2 0, 513, .inl (fun _ => 0))) (fun f' t => bw G.1 ec_cl base f' (Z + 1 + 1) t.heap) (fun q => base ≤ q)) [.ref (base + o), .int a1].toArray s 216 2194 (fun q => base ≤ q)) (F0 m 79 ls []) := by
    intro r
    induction r with
    | zero =>
      intro k f1 H locs ls hk hB hS h1 h2 h3 hl
      obtain ⟨⟨g, h4, h5⟩, h6⟩ := h3
      have hk : k = q := by omega
      subst hk
      refine lv_iload_n hx hb d_X_init_79 rfl (lv_at hl 2 rfl) ?_
      refine lv_aload_n hx hb d_X_init_80 rfl (lv_at hl 0 rfl) ?_
      refine va_get (D := G.1) (ci := 0) (C := "TwoPhaseCuts") (T := T_X) (N := 7) (v := .ref (base + M)) hx hb hts ui_X hown hK (hB.one (o := o) (by omega) h1) 0 rfl rfl 2 (by decide) (hts _ tw_166) (fun _ h9 => h9) rfl d_X_init_81 ?_
      refine va_alen (D := G.1) (cl := ec_cl) hx hb hK (hB.one (o := M) (by omega) h4) 0 3 rfl rfl (v := nI k) rfl d_X_init_84 ?_
      refine lv_icmp_ge (tgt := 107) hx hb d_X_init_85 (by decide) (fun hc => ?_) (fun hc => absurd ((nn_le (by omega) (by omega)).mpr (Nat.le_refl _)) hc)
      refine W.widen (k := 132) (n := 685) (by omega) (by omega) ?_
      exact tail f1 H locs ls (by rw [← hKe]; exact hB) hS h1 h2 ⟨⟨g, h4, h5⟩, h6⟩ (lv_sub hl [0, 1] rfl)
    | succ r ih =>
      intro k f1 H locs ls hk hB hS h1 h2 h3 hl
      obtain ⟨⟨g, h4, h5⟩, h6⟩ := h3
      refine lv_iload_n hx hb d_X_init_79 rfl (lv_at hl 2 rfl) ?_
      refine lv_aload_n hx hb d_X_init_80 rfl (lv_at hl 0 rfl) ?_
      refine va_get (D := G.1) (ci := 0) (C := "TwoPhaseCuts") (T := T_X) (N := 7) (v := .ref (base + M)) hx hb hts ui_X hown hK (hB.one (o := o) (by omega) h1) 0 rfl rfl 2 (by decide) (hts _ tw_166) (fun _ h9 => h9) rfl d_X_init_81 ?_
      refine va_alen (D := G.1) (cl := ec_cl) hx hb hK (hB.one (o := M) (by omega) h4) 0 3 rfl rfl (v := nI q) rfl d_X_init_84 ?_
      refine lv_icmp_ge (tgt := 107) hx hb d_X_init_85 (by decide) (fun hc => absurd hc (by rw [nn_le (by omega) (by omega)]; omega)) (fun hc => ?_)
      refine lv_aload_n hx hb d_X_init_88 rfl (lv_at hl 0 rfl) ?_
      refine va_get (D := G.1) (ci := 0) (C := "TwoPhaseCuts") (T := T_X) (N := 7) (v := .ref (base + M)) hx hb hts ui_X hown hK (hB.one (o := o) (by omega) h1) 0 rfl rfl 2 (by decide) (hts _ tw_166) (fun _ h9 => h9) rfl d_X_init_89 ?_
      refine lv_iload_n hx hb d_X_init_92 rfl (lv_at hl 2 rfl) ?_
      refine bw_new (D := G.1) (ci := 3) (fs := [.null, .null, .int 0]) (C := "TwoPhaseCuts$Channel") (T := T_H) (N := 3) hx hb hts ui_H ty_H tyo_H hown (hts _ tw_99) (hts _ tw_101) (hts _ tw_5) hK hB hS rfl (fun j hj => by rcases (show j = 0 ∨ j = 1 ∨ j = 2 by omega) with rfl | rfl | rfl <;> rfl) (by show 57 + 3 * k + 1 ≤ 216; omega) (by show 310 + 15 * k + 3 ≤ 2194; omega) d_X_init_93 (fun H hB hS => ?_)
      have hB : bw G.1 ec_cl base (bu f1 (M + 1 + 3 * k) (.inr (3, [.null, .null, .int 0]))) (M + 1 + 3 * k + 1) H := hB
      obtain ⟨f2, hf2⟩ : ∃ z, z = bu f1 (M + 1 + 3 * k) (.inr (3, [.null, .null, .int 0])) := ⟨_, rfl⟩
      rw [← hf2] at hB
      have ef2 : ∀ x, x ≠ (M + 1 + 3 * k) → f2 x = f1 x := fun x z => (congrFun hf2 x).trans (bu_n _ _ z)
      have vf2 : f2 (M + 1 + 3 * k) = .inr (3, [.null, .null, .int 0]) := (congrFun hf2 _).trans (bu_s _ _ _)
      refine lv_dup hx hb d_X_init_96 rfl ?_
      refine bw_callv (va_runIN (As := []) (rest := [.ref (base + (M + 1 + 3 * k)), .int (nI k), .ref (base + M)]) hC (ci_H l G base f2 (M + 1 + 3 * k + 1) (M + 1 + 3 * k) (by omega) vf2) ⟨va_cnB 0 hts (tw_gI tw_104) rfl rfl rfl hnA (hts _ tw_5) (by decide +kernel) ⟨Nat.le_of_ble_eq_true rfl, Nat.le_of_ble_eq_true rfl⟩, rfl, hts _ tw_103⟩ (bp_preS hK hnA hnB hO hB) rfl rfl hl.1 rfl (lv_room (Nat.le_of_ble_eq_true rfl)) d_X_init_97 ⟨(by show 57 + 3 * k + 1 + 2 ≤ 216; omega), (by show 310 + 15 * k + 3 + 12 ≤ 2194; omega)⟩) (fun _ h => h) hS (fun f3 H locs hq hB hS => ?_)
      obtain ⟨q0, qx, q1, q2⟩ := hq
      have e3 : ∀ x, x < M + 1 + 3 * k → f3 x = f1 x := fun x z => by rw [qx _ (by omega) (by omega), ef2 _ (by omega)]
      refine bw_aast hx hb hK hB hS 3 3 (o1 := M) (o2 := M + 1 + 3 * k) (by omega) (by omega) ((e3 _ (by omega)).trans h4) rfl q0 rfl (mm_vp (nn_in (show k < q by omega) (by omega))) d_X_init_100 (fun H locs hB hS => ?_)
      rw [nn_c (by omega)] at hB
      have hB : bw G.1 ec_cl base (bu f3 M (.inl (G.2 3, q, .inr (.inr (.inr (.inr (va_up g k (some (base + (M + 1 + 3 * k)))))))))) (M + 1 + 3 * k + 1 + 2) H := hB
      obtain ⟨f4, hf4⟩ : ∃ z, z = bu f3 M (.inl (G.2 3, q, .inr (.inr (.inr (.inr (va_up g k (some (base + (M + 1 + 3 * k))))))))) := ⟨_, rfl⟩
      rw [← hf4] at hB
      have ef4 : ∀ x, x ≠ M → f4 x = f3 x := fun x z => (congrFun hf4 x).trans (bu_n _ _ z)
      have vf4 : f4 M = .inl (G.2 3, q, .inr (.inr (.inr (.inr (va_up g k (some (base + (M + 1 + 3 * k)))))))) := (congrFun hf4 _).trans (bu_s _ _ _)
      refine lv_iinc (v := nI (k + 1)) (lv' := [(2, .int (nI (k + 1))), (0, .ref (base + o)), (1, .int a1)]) hx hb d_X_init_101 hl (k := 2) rfl (by rw [mm_inc, nI_1]) (by decide) rfl (fun ls hl => ?_)
      refine lv_goto (tgt := 79) hx hb d_X_init_104 (by decide) ?_
      refine W.widen (k := 57 + 3 * (k + 1)) (n := 310 + 15 * (k + 1)) (by omega) (by omega) ?_
      refine ih (k + 1) f4 H locs ls (by omega) (by rw [show M + 1 + 3 * (k + 1) = M + 1 + 3 * k + 1 + 2 by omega]; exact hB) hS (by rw [ef4 _ (by omega), e3 _ (by omega)]; exact h1) (h2.cg fun x z1 z2 => by rw [ef4 _ (by omega), e3 _ (by omega)]) ⟨⟨_, vf4, fun j hj => ?_⟩, fun j hj => ?_⟩ (lv_sub hl [1, 2, 0] rfl)
      · by_cases hjk : j = k
        · subst hjk; simp [va_up]
        · simp only [va_up, hjk, if_false]; exact h5 j (by omega)
      · by_cases hjk : j = k
        · subst hjk; exact ⟨(ef4 _ (by omega)).trans q0, (ef4 _ (by omega)).trans q1, (ef4 _ (by omega)).trans q2⟩
        · exact (h6 j (by omega)).cg fun x z1 z2 => by rw [ef4 _ (by omega), e3 _ (by omega)]
  have loop1 : ∀ (r k : Nat) (f1 : Nat → va_E) (H : Heap) (locs : List Loc) (ls : Array Slot), k + r = n → bw G.1 ec_cl base f1 (len + 1 + 11 * k) H → va_S (fun q => base ≤ q) s.heap H locs → f1 o = .inr (0, [.int (nI n), .ref (base + len), .null, .null, .null, .null, .int 0]) → mxk G base n k f1 len → lv_has ls 3 [(0, .ref (base + o)), (1, .int a1), (2, .int (nI k))] → W p l e (headSpec (Cond.code y_X_init b_X_init 3 none :: tw_tbl) rm_X_init).room s m [.ref (base + o), .int a1].toArray below meth c H locs (1 + 11 * k) (5 + 56 * k) (MQ below (va_Qv (fun f' : Nat → va_E => f' o = .inr (0, [.int (nI n), .ref (base + len), .ref (base + M), .ref (base + K), .ref (base + Z), .ref (base + (Z + 1)), .int 0]) ∧ mxk G base n n f' len ∧ cxk G base q q f' M ∧ lxk G base cap f' K ∧ f' Z = .inl (G.2 1, 513, .inl (fun _ => 0)) ∧ f' (Z + 1) = .inl (G.2 0, 513, .inl (fun _ => 0))) (fun f' t => bw G.1 ec_cl base f' (Z + 1 + 1) t.heap) (fun q => base ≤ q)) [.ref (base + o), .int a1].toArray s 216 2194 (fun q => base ≤ q)) (F0 m 30 ls []) := by
    intro r
    induction r with
    | zero =>
      intro k f1 H locs ls hk hB hS h1 h3 hl
      obtain ⟨⟨g, h4, h5⟩, h6⟩ := h3
      refine lv_iload_n hx hb d_X_init_30 rfl (lv_at hl 2 rfl) ?_
      refine lv_aload_n hx hb d_X_init_31 rfl (lv_at hl 0 rfl) ?_
      refine va_get (D := G.1) (ci := 0) (C := "TwoPhaseCuts") (T := T_X) (N := 7) (v := .int (nI n)) hx hb hts ui_X hown hK (hB.one (o := o) (by omega) h1) 0 rfl rfl 0 (by decide) (hts _ tw_164) (fun _ h9 => h9) rfl d_X_init_32 ?_
      have hk : k = n := by omega
      subst hk
      refine lv_icmp_ge (tgt := 61) hx hb d_X_init_35 (by decide) (fun hc => ?_) (fun hc => absurd ((nn_le (by omega) (by omega)).mpr (Nat.le_refl _)) hc)
      refine W.widen (k := 56) (n := 285) (by omega) (by omega) ?_
      have hB : bw G.1 ec_cl base f1 M H := by rw [← hMe]; exact hB
      refine lv_aload_n hx hb d_X_init_61 rfl (lv_at hl 0 rfl) ?_
      refine lv_aload_n hx hb d_X_init_62 rfl (lv_at hl 0 rfl) ?_
      refine va_get (D := G.1) (ci := 0) (C := "TwoPhaseCuts") (T := T_X) (N := 7) (v := .int (nI k)) hx hb hts ui_X hown hK (hB.one (o := o) (by omega) h1) 0 rfl rfl 0 (by decide) (hts _ tw_164) (fun _ h9 => h9) rfl d_X_init_63 ?_
      refine lv_aload_n hx hb d_X_init_66 rfl (lv_at hl 0 rfl) ?_
      refine va_get (D := G.1) (ci := 0) (C := "TwoPhaseCuts") (T := T_X) (N := 7) (v := .int (nI k)) hx hb hts ui_X hown hK (hB.one (o := o) (by omega) h1) 0 rfl rfl 0 (by decide) (hts _ tw_164) (fun _ h9 => h9) rfl d_X_init_67 ?_
      refine lv_imul hx hb d_X_init_70 ?_
      refine mm_top hqn ?_
      refine bw_anew (D := G.1) (N' := q) hx hb hown (hts _ tw_99) (va_AO.use hO.2.1) hK 3 rfl hB hS (nI_pos (by omega)) (nI_clamp (by omega)) (by omega) (by show 56 + 1 ≤ 216; omega) (by show 285 + q ≤ 2194; omega) d_X_init_71 (fun H hB hS => ?_)
      have hB : bw G.1 ec_cl base (bu f1 M (.inl (G.2 3, q, .inr (.inr (.inr (.inr (fun _ => none))))))) (M + 1) H := hB
      obtain ⟨f2, hf2⟩ : ∃ z, z = bu f1 M (.inl (G.2 3, q, .inr (.inr (.inr (.inr (fun _ => none)))))) := ⟨_, rfl⟩
      rw [← hf2] at hB
      have ef2 : ∀ x, x ≠ M → f2 x = f1 x := fun x z => (congrFun hf2 x).trans (bu_n _ _ z)
      have vf2 : f2 M = .inl (G.2 3, q, .inr (.inr (.inr (.inr (fun _ => none))))) := (congrFun hf2 _).trans (bu_s _ _ _)
      refine bw_putF (D := G.1) (ci := 0) (C := "TwoPhaseCuts") (T := T_X) (N := 7) (v := .ref (base + M)) (ty := .array (.object "TwoPhaseCuts$Channel")) (o := o) hx hb hts ui_X ty_X tyo_X nmo_X hown hK hB hS (by omega) ((ef2 _ (by omega)).trans h1) rfl 2 (by decide) (hts _ tw_166) (fun _ h9 => h9) rfl hin rfl (by decide +kernel) rfl rfl (Nat.le_of_ble_eq_true rfl) d_X_init_74 (fun H locs hB hS => ?_)
      have hB : bw G.1 ec_cl base (bu f2 o (.inr (0, [.int (nI k), .ref (base + len), .ref (base + M), .null, .null, .null, .int 0]))) (M + 1) H := hB
      obtain ⟨f3, hf3⟩ : ∃ z, z = bu f2 o (.inr (0, [.int (nI k), .ref (base + len), .ref (base + M), .null, .null, .null, .int 0])) := ⟨_, rfl⟩
      rw [← hf3] at hB
      have ef3 : ∀ x, x ≠ o → f3 x = f2 x := fun x z => (congrFun hf3 x).trans (bu_n _ _ z)
      have vf3 : f3 o = .inr (0, [.int (nI k), .ref (base + len), .ref (base + M), .null, .null, .null, .int 0]) := (congrFun hf3 _).trans (bu_s _ _ _)
      refine lv_iconst (v := nI 0) hx hb d_X_init_77 (by decide) ?_
      refine lv_istore_n (lv' := [(2, .int (nI 0)), (0, .ref (base + o)), (1, .int a1)]) hx hb d_X_init_78 rfl hl (by decide) rfl (fun ls hl => ?_)
      refine W.widen (k := 57 + 3 * 0) (n := 310 + 15 * 0) (by omega) (by omega) ?_
      have e3 : ∀ x, x < M → x ≠ o → f3 x = f1 x := fun x z1 z2 => by rw [ef3 _ z2, ef2 _ (by omega)]
      refine loop2 q 0 f3 H locs ls (by omega) hB hS vf3 ?_ ⟨⟨_, (ef3 _ (by omega)).trans vf2, fun j hj => by omega⟩, fun j hj => by omega⟩ (lv_sub hl [1, 2, 0] rfl)
      exact mxk.cg ⟨⟨g, h4, h5⟩, h6⟩ fun x z1 z2 => e3 x (by omega) (by omega)
    | succ r ih =>
      intro k f1 H locs ls hk hB hS h1 h3 hl
      obtain ⟨⟨g, h4, h5⟩, h6⟩ := h3
      refine lv_iload_n hx hb d_X_init_30 rfl (lv_at hl 2 rfl) ?_
      refine lv_aload_n hx hb d_X_init_31 rfl (lv_at hl 0 rfl) ?_
      refine va_get (D := G.1) (ci := 0) (C := "TwoPhaseCuts") (T := T_X) (N := 7) (v := .int (nI n)) hx hb hts ui_X hown hK (hB.one (o := o) (by omega) h1) 0 rfl rfl 0 (by decide) (hts _ tw_164) (fun _ h9 => h9) rfl d_X_init_32 ?_
      refine lv_icmp_ge (tgt := 61) hx hb d_X_init_35 (by decide) (fun hc => absurd hc (by rw [nn_le (by omega) (by omega)]; omega)) (fun hc => ?_)
      refine lv_aload_n hx hb d_X_init_38 rfl (lv_at hl 0 rfl) ?_
      refine va_get (D := G.1) (ci := 0) (C := "TwoPhaseCuts") (T := T_X) (N := 7) (v := .ref (base + len)) hx hb hts ui_X hown hK (hB.one (o := o) (by omega) h1) 0 rfl rfl 1 (by decide) (hts _ tw_165) (fun _ h9 => h9) rfl d_X_init_39 ?_
      refine lv_iload_n hx hb d_X_init_42 rfl (lv_at hl 2 rfl) ?_
      refine bw_new (D := G.1) (ci := 1) (fs := [.null, .null, .null, .int 0, .int 0, .int 0, .int 0, .int 0, .int 0, .null, .int 0, .int 0]) (C := "TwoPhaseCuts$Member") (T := T_M) (N := 12) hx hb hts ui_M ty_M tyo_M hown (hts _ tw_23) (hts _ tw_25) (hts _ tw_3) hK hB hS rfl (fun j hj => by rcases (show j = 0 ∨ j = 1 ∨ j = 2 ∨ j = 3 ∨ j = 4 ∨ j = 5 ∨ j = 6 ∨ j = 7 ∨ j = 8 ∨ j = 9 ∨ j = 10 ∨ j = 11 by omega) with rfl | rfl | rfl | rfl | rfl | rfl | rfl | rfl | rfl | rfl | rfl | rfl <;> rfl) (by show 1 + 11 * k + 1 ≤ 216; omega) (by show 5 + 56 * k + 12 ≤ 2194; omega) d_X_init_43 (fun H hB hS => ?_)
      have hB : bw G.1 ec_cl base (bu f1 (len + 1 + 11 * k) (.inr (1, [.null, .null, .null, .int 0, .int 0, .int 0, .int 0, .int 0, .int 0, .null, .int 0, .int 0]))) (len + 1 + 11 * k + 1) H := hB
      obtain ⟨f2, hf2⟩ : ∃ z, z = bu f1 (len + 1 + 11 * k) (.inr (1, [.null, .null, .null, .int 0, .int 0, .int 0, .int 0, .int 0, .int 0, .null, .int 0, .int 0])) := ⟨_, rfl⟩
      rw [← hf2] at hB
      have ef2 : ∀ x, x ≠ (len + 1 + 11 * k) → f2 x = f1 x := fun x z => (congrFun hf2 x).trans (bu_n _ _ z)
      have vf2 : f2 (len + 1 + 11 * k) = .inr (1, [.null, .null, .null, .int 0, .int 0, .int 0, .int 0, .int 0, .int 0, .null, .int 0, .int 0]) := (congrFun hf2 _).trans (bu_s _ _ _)
      refine lv_dup hx hb d_X_init_46 rfl ?_
      refine lv_aload_n hx hb d_X_init_47 rfl (lv_at hl 0 rfl) ?_
      refine va_get (D := G.1) (ci := 0) (C := "TwoPhaseCuts") (T := T_X) (N := 7) (v := .int (nI n)) hx hb hts ui_X hown hK (hB.one (o := o) (by omega) ((ef2 _ (by omega)).trans h1)) 0 rfl rfl 0 (by decide) (hts _ tw_164) (fun _ h9 => h9) rfl d_X_init_48 ?_
      refine bw_callv (va_runI (As := [.int (nI n)]) (rest := [.ref (base + (len + 1 + 11 * k)), .int (nI k), .ref (base + len)]) hC (ci_M l G base f2 (len + 1 + 11 * k + 1) (len + 1 + 11 * k) n hn2 hn5 (by omega) vf2) (cwI 1 hts (tw_gI tw_28) rfl rfl rfl (hts _ tw_3) (hts _ tw_26) (hts _ tw_27) rfl (by decide +kernel) ⟨Nat.le_of_ble_eq_true rfl, Nat.le_of_ble_eq_true rfl⟩) (bp_preS hK hnA hnB hO hB) rfl rfl hl.1 rfl (lv_room (Nat.le_of_ble_eq_true rfl)) d_X_init_51 ⟨(by show 1 + 11 * k + 1 + 10 ≤ 216; omega), (by show 5 + 56 * k + 12 + 44 ≤ 2194; omega)⟩) (fun _ h => h) hS (fun f3 H locs hq hB hS => ?_)
      obtain ⟨q0, qx, qr⟩ := hq
      have e3 : ∀ x, x < len + 1 + 11 * k → f3 x = f1 x := fun x z => by rw [qx _ (by omega) (by omega), ef2 _ (by omega)]
      have hm : mbk G base n f3 (len + 1 + 11 * k) := ⟨q0, qr⟩
      refine bw_aast hx hb hK hB hS 2 1 (o1 := len) (o2 := len + 1 + 11 * k) (by omega) (by omega) ((e3 _ (by omega)).trans h4) rfl q0 rfl (mm_vp (nn_in (show k < n by omega) (by omega))) d_X_init_54 (fun H locs hB hS => ?_)
      rw [nn_c (by omega)] at hB
      have hB : bw G.1 ec_cl base (bu f3 len (.inl (G.2 2, n, .inr (.inr (.inr (.inr (va_up g k (some (base + (len + 1 + 11 * k)))))))))) (len + 1 + 11 * k + 1 + 10) H := hB
      obtain ⟨f4, hf4⟩ : ∃ z, z = bu f3 len (.inl (G.2 2, n, .inr (.inr (.inr (.inr (va_up g k (some (base + (len + 1 + 11 * k))))))))) := ⟨_, rfl⟩
      rw [← hf4] at hB
      have ef4 : ∀ x, x ≠ len → f4 x = f3 x := fun x z => (congrFun hf4 x).trans (bu_n _ _ z)
      have vf4 : f4 len = .inl (G.2 2, n, .inr (.inr (.inr (.inr (va_up g k (some (base + (len + 1 + 11 * k)))))))) := (congrFun hf4 _).trans (bu_s _ _ _)
      refine lv_iinc (v := nI (k + 1)) (lv' := [(2, .int (nI (k + 1))), (0, .ref (base + o)), (1, .int a1)]) hx hb d_X_init_55 hl (k := 2) rfl (by rw [mm_inc, nI_1]) (by decide) rfl (fun ls hl => ?_)
      refine lv_goto (tgt := 30) hx hb d_X_init_58 (by decide) ?_
      refine W.widen (k := 1 + 11 * (k + 1)) (n := 5 + 56 * (k + 1)) (by omega) (by omega) ?_
      refine ih (k + 1) f4 H locs ls (by omega) (by rw [show len + 1 + 11 * (k + 1) = len + 1 + 11 * k + 1 + 10 by omega]; exact hB) hS (by rw [ef4 _ (by omega), e3 _ (by omega)]; exact h1) ⟨⟨_, vf4, fun j hj => ?_⟩, fun j hj => ?_⟩ (lv_sub hl [1, 2, 0] rfl)
      · by_cases hjk : j = k
        · subst hjk; simp [va_up]
        · simp only [va_up, hjk, if_false]; exact h5 j (by omega)
      · by_cases hjk : j = k
        · subst hjk; exact hm.cg fun x z1 z2 => ef4 _ (by omega)
        · exact (h6 j (by omega)).cg fun x z1 z2 => by rw [ef4 _ (by omega), e3 _ (by omega)]
  refine lv_aload_n hx hb d_X_init_0 rfl (lv_at hl 0 rfl) ?_
  refine W.objInit hx hb hown (hts _ tw_14) (hts _ tw_15) (hts _ tw_16) rfl (by rw [hml]; exact hl.1) rfl d_X_init_1 (Nat.le_of_ble_eq_true rfl) (Nat.le_of_ble_eq_true rfl) ?_
  refine W.eq (g2 := F0 m 4 ls []) rfl ?_
  refine lv_aload_n hx hb d_X_init_4 rfl (lv_at hl 0 rfl) ?_
  refine lv_iconst (v := (2 : Int32)) hx hb d_X_init_5 (by decide) ?_
  refine lv_iconst (v := (5 : Int32)) hx hb d_X_init_6 (by decide) ?_
  refine lv_iload_n hx hb d_X_init_7 rfl (lv_at hl 1 rfl) ?_
  refine va_mmin hx hb (hml.trans hl.1.symm) hown (hts _ tw_17) (hts _ tw_18) (hts _ tw_2) (hts _ tw_19) (Nat.le_of_ble_eq_true rfl) (Nat.le_of_ble_eq_true rfl) (Nat.zero_le _) (Nat.zero_le _) d_X_init_8 ?_
  refine va_mmax hx hb (hml.trans hl.1.symm) hown (hts _ tw_20) (hts _ tw_21) (hts _ tw_2) (hts _ tw_22) (Nat.le_of_ble_eq_true rfl) (Nat.le_of_ble_eq_true rfl) (Nat.zero_le _) (Nat.zero_le _) d_X_init_11 ?_
  refine mm_top hna ?_
  refine bw_putF (D := G.1) (ci := 0) (C := "TwoPhaseCuts") (T := T_X) (N := 7) (v := .int (nI n)) (ty := .int) (o := o) hx hb hts ui_X ty_X tyo_X nmo_X hown hK hB hS (by omega) he rfl 0 (by decide) (hts _ tw_164) (fun _ h9 => h9) rfl hin rfl (by decide +kernel) rfl rfl (Nat.le_of_ble_eq_true rfl) d_X_init_14 (fun H locs hB hS => ?_)
  have hB : bw G.1 ec_cl base (bu f o (.inr (0, [.int (nI n), .null, .null, .null, .null, .null, .int 0]))) (len) H := hB
  obtain ⟨f1, hf1⟩ : ∃ z, z = bu f o (.inr (0, [.int (nI n), .null, .null, .null, .null, .null, .int 0])) := ⟨_, rfl⟩
  rw [← hf1] at hB
  have ef1 : ∀ x, x ≠ o → f1 x = f x := fun x z => (congrFun hf1 x).trans (bu_n _ _ z)
  have vf1 : f1 o = .inr (0, [.int (nI n), .null, .null, .null, .null, .null, .int 0]) := (congrFun hf1 _).trans (bu_s _ _ _)
  refine lv_aload_n hx hb d_X_init_17 rfl (lv_at hl 0 rfl) ?_
  refine lv_aload_n hx hb d_X_init_18 rfl (lv_at hl 0 rfl) ?_
  refine va_get (D := G.1) (ci := 0) (C := "TwoPhaseCuts") (T := T_X) (N := 7) (v := .int (nI n)) hx hb hts ui_X hown hK (hB.one (o := o) (by omega) vf1) 0 rfl rfl 0 (by decide) (hts _ tw_164) (fun _ h9 => h9) rfl d_X_init_19 ?_
  refine bw_anew (D := G.1) (N' := n) hx hb hown (hts _ tw_23) (va_AO.use hO.1) hK 2 rfl hB hS (nI_pos (by omega)) (nI_clamp (by omega)) (by omega) (by show 0 + 1 ≤ 216; omega) (by show 0 + n ≤ 2194; omega) d_X_init_22 (fun H hB hS => ?_)
  have hB : bw G.1 ec_cl base (bu f1 len (.inl (G.2 2, n, .inr (.inr (.inr (.inr (fun _ => none))))))) (len + 1) H := hB
  obtain ⟨f2, hf2⟩ : ∃ z, z = bu f1 len (.inl (G.2 2, n, .inr (.inr (.inr (.inr (fun _ => none)))))) := ⟨_, rfl⟩
  rw [← hf2] at hB
  have ef2 : ∀ x, x ≠ len → f2 x = f1 x := fun x z => (congrFun hf2 x).trans (bu_n _ _ z)
  have vf2 : f2 len = .inl (G.2 2, n, .inr (.inr (.inr (.inr (fun _ => none))))) := (congrFun hf2 _).trans (bu_s _ _ _)
  refine bw_putF (D := G.1) (ci := 0) (C := "TwoPhaseCuts") (T := T_X) (N := 7) (v := .ref (base + len)) (ty := .array (.object "TwoPhaseCuts$Member")) (o := o) hx hb hts ui_X ty_X tyo_X nmo_X hown hK hB hS (by omega) ((ef2 _ (by omega)).trans vf1) rfl 1 (by decide) (hts _ tw_165) (fun _ h9 => h9) rfl hin rfl (by decide +kernel) rfl rfl (Nat.le_of_ble_eq_true rfl) d_X_init_25 (fun H locs hB hS => ?_)
  have hB : bw G.1 ec_cl base (bu f2 o (.inr (0, [.int (nI n), .ref (base + len), .null, .null, .null, .null, .int 0]))) (len + 1) H := hB
  obtain ⟨f3, hf3⟩ : ∃ z, z = bu f2 o (.inr (0, [.int (nI n), .ref (base + len), .null, .null, .null, .null, .int 0])) := ⟨_, rfl⟩
  rw [← hf3] at hB
  have ef3 : ∀ x, x ≠ o → f3 x = f2 x := fun x z => (congrFun hf3 x).trans (bu_n _ _ z)
  have vf3 : f3 o = .inr (0, [.int (nI n), .ref (base + len), .null, .null, .null, .null, .int 0]) := (congrFun hf3 _).trans (bu_s _ _ _)
  refine lv_iconst (v := nI 0) hx hb d_X_init_28 (by decide) ?_
  refine lv_istore_n (lv' := [(2, .int (nI 0)), (0, .ref (base + o)), (1, .int a1)]) hx hb d_X_init_29 rfl hl (by decide) rfl (fun ls hl => ?_)
  refine W.widen (k := 1 + 11 * 0) (n := 5 + 56 * 0) (by omega) (by omega) ?_
  exact loop1 n 0 f3 H locs ls (by omega) hB hS vf3 ⟨⟨_, (ef3 _ (by omega)).trans vf2, fun j hj => by omega⟩, fun j hj => by omega⟩ (lv_sub hl [1, 2, 0] rfl)
