abbrev rm_R_init : Room := { frames := 1, cells := 24, slots := 13245, locals := 20 }
set_option maxHeartbeats 8000000 in
set_option maxRecDepth 100000 in
theorem ci_R (l : Launch) (G : ec_G) (base : Nat) (f : Nat → va_E) (len o : Nat) (a1 : Int32) (n : Nat) (hna : (if a1 < 2 then (2 : Int32) else if 5 < a1 then 5 else a1) = nI n) (ho : o < len) (he : f o = .inr (6, [.int 0, .null, .null, .null, .null, .null, .null, .null, .null, .null, .null, .null, .null, .null, .null, .null, .int 0, .null, .int 0, .null, .null, .null, .null, .null, .null, .null, .null])) :
    Met l y_R_init (Cond.code y_R_init b_R_init 2 none :: tw_tbl) rm_R_init (va_Pc [.ref (base + o), .int a1] (bp G.1 ec_cl (ec_T G) base f len))
      (va_Qv (fun f' : Nat → va_E => f' o = .inr (6, [.int (nI n), .ref (base + (len)), .ref (base + (len + 1)), .ref (base + (len + 2)), .ref (base + (len + 3)), .ref (base + (len + 4)), .ref (base + (len + 5)), .ref (base + (len + 6)), .ref (base + (len + 7)), .ref (base + (len + 8)), .ref (base + (len + 9)), .ref (base + (len + 10)), .ref (base + (len + 11)), .ref (base + (len + 12)), .ref (base + (len + 13)), .ref (base + (len + 14)), .int 0, .ref (base + (len + 15)), .int 0, .ref (base + (len + 16)), .ref (base + (len + 17)), .ref (base + (len + 18)), .ref (base + (len + 19)), .ref (base + (len + 20)), .ref (base + (len + 21)), .ref (base + (len + 22)), .ref (base + (len + 23))]) ∧ (∀ x, x < len → x ≠ o → f' x = f x) ∧ f' (len) = .inl (G.2 0, 5, .inl (fun _ => 0)) ∧ f' (len + 1) = .inl (G.2 0, 2560, .inl (fun _ => 0)) ∧ f' (len + 2) = .inl (G.2 0, 2560, .inl (fun _ => 0)) ∧ f' (len + 3) = .inl (G.2 0, 2560, .inl (fun _ => 0)) ∧ f' (len + 4) = .inl (G.2 0, 2560, .inl (fun _ => 0)) ∧ f' (len + 5) = .inl (G.2 0, 5, .inl (fun _ => 0)) ∧ f' (len + 6) = .inl (G.2 0, 5, .inl (fun _ => 0)) ∧ f' (len + 7) = .inl (G.2 0, 25, .inl (fun _ => 0)) ∧ f' (len + 8) = .inl (G.2 1, 5, .inl (fun _ => 0)) ∧ f' (len + 9) = .inl (G.2 0, 5, .inl (fun _ => 0)) ∧ f' (len + 10) = .inl (G.2 1, 5, .inl (fun _ => 0)) ∧ f' (len + 11) = .inl (G.2 0, 5, .inl (fun _ => 0)) ∧ f' (len + 12) = .inl (G.2 0, 5, .inl (fun _ => 0)) ∧ f' (len + 13) = .inl (G.2 0, 5, .inl (fun _ => 0)) ∧ f' (len + 14) = .inl (G.2 0, 5, .inl (fun _ => 0)) ∧ f' (len + 15) = .inl (G.2 0, 520, .inl (fun _ => 0)) ∧ f' (len + 16) = .inl (G.2 0, 400, .inl (fun _ => 0)) ∧ f' (len + 17) = .inl (G.2 0, 400, .inl (fun _ => 0)) ∧ f' (len + 18) = .inl (G.2 0, 400, .inl (fun _ => 0)) ∧ f' (len + 19) = .inl (G.2 0, 400, .inl (fun _ => 0)) ∧ f' (len + 20) = .inl (G.2 1, 400, .inl (fun _ => 0)) ∧ f' (len + 21) = .inl (G.2 0, 400, .inl (fun _ => 0)) ∧ f' (len + 22) = .inl (G.2 0, 5, .inl (fun _ => 0)) ∧ f' (len + 23) = .inl (G.2 0, 5, .inl (fun _ => 0))) (fun f' t => bw G.1 ec_cl base f' (len + 24) t.heap) (fun q => base ≤ q)) 24 13245 (fun q => base ≤ q) := by
  refine Met.ofW (cc := b_R_init) (maxL := 2) (ret := none) (by decide) rfl ?_
  intro p e s m args below meth c s₁ B hml hv
  obtain ⟨rfl, hB, hK, hnA, hnB, hO⟩ := hv
  have hx := B.exec
  have hb := B.bytes
  have hr := B.returns
  have hts0 := atoms_spec (ws := Cond.code y_R_init b_R_init 2 none :: tw_tbl) B.pre
  have hts : ∀ w ∈ tw_tbl, w.before [.ref (base + o), .int a1].toArray s = true := fun w h => hts0 w (List.mem_cons_of_mem _ h)
  clear hts0
  have hown : s.vm.findClass "TwoPhaseCutsModel" = some m.cls := findClass_of_methodNamed B.named
  have hlocks := B.notSynchronized
  have hin : meth.name = "<init>" := (name_of_methodNamed B.named B.method).1
  have hC : CallFix p m c b_R_init 2 s [.ref (base + o), .int a1].toArray tw_tbl "TwoPhaseCutsModel" := ⟨hx, hb, hml, hown, hts⟩
  have hS : va_S (fun q => base ≤ q) s.heap s.heap [] := va_S.rf
  have hl := lv_entry ([.ref (base + o), .int a1]) (n := 2) (Nat.le_of_ble_eq_true rfl)
  rw [lg_entry_eq]
  generalize (lg_sl ([.ref (base + o), .int a1]) ++ List.replicate (2 - (lg_sl ([.ref (base + o), .int a1])).length) Slot.unset).toArray = ls at hl ⊢
  have hl : lv_has ls 2 [(0, .ref (base + o)), (1, .int a1)] := hl
  have hB : bw G.1 ec_cl base f len s.heap := hB
  clear B
  have h_o_0 : f (o) = .inr (6, [.int 0, .null, .null, .null, .null, .null, .null, .null, .null, .null, .null, .null, .null, .null, .null, .null, .int 0, .null, .int 0, .null, .null, .null, .null, .null, .null, .null, .null]) := he
  have hx0 : ∀ x, x < len → x ≠ o → f x = f x := fun _ _ _ => rfl
  refine lv_aload_n hx hb d_R_init_0 rfl (lv_at hl 0 rfl) ?_
  refine W.objInit hx hb hown (hts _ tw_373) (hts _ tw_15) (hts _ tw_16) rfl (by rw [hml]; exact hl.1) rfl d_R_init_1 (Nat.le_of_ble_eq_true rfl) (Nat.le_of_ble_eq_true rfl) ?_
  refine W.eq (g2 := F0 m 4 ls []) rfl ?_
  refine lv_aload_n hx hb d_R_init_4 rfl (lv_at hl 0 rfl) ?_
  refine lv_iconst (v := nI 5) hx hb d_R_init_5 (by decide) ?_
  refine bw_newa (D := G.1) (N' := 5) (atype := .int) (ty := .int) hx hb (hts _ tw_51) rfl rfl hK 0 rfl (fun h => h) hB hS (nI_pos (by omega)) (nI_clamp (by omega)) (by show 5 * 4 ≤ 536870912; omega) (by show 0 + 1 ≤ 24; omega) (by show 0 + 5 ≤ 13245; omega) d_R_init_6 (fun H hB hS => ?_)
  have hB : bw G.1 ec_cl base (bu f (len) (.inl (G.2 0, 5, .inl (fun _ => 0)))) (len + 1) H := hB
  obtain ⟨f1, hf1⟩ : ∃ g, g = bu f (len) (.inl (G.2 0, 5, .inl (fun _ => 0))) := ⟨_, rfl⟩
  rw [← hf1] at hB
  have hB : bw G.1 ec_cl base f1 (len + 1) H := hB
  have h_o_1 : f1 (o) = .inr (6, [.int 0, .null, .null, .null, .null, .null, .null, .null, .null, .null, .null, .null, .null, .null, .null, .null, .int 0, .null, .int 0, .null, .null, .null, .null, .null, .null, .null, .null]) := by rw [hf1, bu_n _ _ (by omega)]; exact h_o_0
  have h_len_1 : f1 (len) = .inl (G.2 0, 5, .inl (fun _ => 0)) := by rw [hf1, bu_s]
  have hx1 : ∀ x, x < len → x ≠ o → f1 x = f x := fun x z1 z2 => (congrFun hf1 x).trans ((bu_n _ _ (by omega)).trans (hx0 x z1 z2))
  refine W.widen (k := 1) (n := 5) (by omega) (by omega) ?_
  refine bw_putF (D := G.1) (ci := 6) (C := "TwoPhaseCutsModel") (T := T_R) (N := 27) (v := .ref (base + (len))) (ty := .array .int) (o := o) hx hb hts ui_R ty_R tyo_R nmo_R hown hK hB hS (by omega) h_o_1 rfl 1 (by decide) (hts _ tw_375) (fun _ h9 => h9) rfl hin rfl (by decide +kernel) rfl rfl (Nat.le_of_ble_eq_true rfl) d_R_init_8 (fun H locs hB hS => ?_)
  have hB : bw G.1 ec_cl base (bu f1 (o) (.inr (6, [.int 0, .ref (base + (len)), .null, .null, .null, .null, .null, .null, .null, .null, .null, .null, .null, .null, .null, .null, .int 0, .null, .int 0, .null, .null, .null, .null, .null, .null, .null, .null]))) (len + 1) H := hB
  obtain ⟨f2, hf2⟩ : ∃ g, g = bu f1 (o) (.inr (6, [.int 0, .ref (base + (len)), .null, .null, .null, .null, .null, .null, .null, .null, .null, .null, .null, .null, .null, .null, .int 0, .null, .int 0, .null, .null, .null, .null, .null, .null, .null, .null])) := ⟨_, rfl⟩
  rw [← hf2] at hB
  have hB : bw G.1 ec_cl base f2 (len + 1) H := hB
  have h_len_2 : f2 (len) = .inl (G.2 0, 5, .inl (fun _ => 0)) := by rw [hf2, bu_n _ _ (by omega)]; exact h_len_1
  have h_o_2 : f2 (o) = .inr (6, [.int 0, .ref (base + (len)), .null, .null, .null, .null, .null, .null, .null, .null, .null, .null, .null, .null, .null, .null, .int 0, .null, .int 0, .null, .null, .null, .null, .null, .null, .null, .null]) := by rw [hf2, bu_s]
  have hx2 : ∀ x, x < len → x ≠ o → f2 x = f x := fun x z1 z2 => (congrFun hf2 x).trans ((bu_n _ _ (by omega)).trans (hx1 x z1 z2))
  refine lv_aload_n hx hb d_R_init_11 rfl (lv_at hl 0 rfl) ?_
  refine lv_sipush (v := nI 2560) hx hb d_R_init_12 (by decide) ?_
  refine bw_newa (D := G.1) (N' := 2560) (atype := .int) (ty := .int) hx hb (hts _ tw_51) rfl rfl hK 0 rfl (fun h => h) hB hS (nI_pos (by omega)) (nI_clamp (by omega)) (by show 2560 * 4 ≤ 536870912; omega) (by show 1 + 1 ≤ 24; omega) (by show 5 + 2560 ≤ 13245; omega) d_R_init_15 (fun H hB hS => ?_)
  have hB : bw G.1 ec_cl base (bu f2 (len + 1) (.inl (G.2 0, 2560, .inl (fun _ => 0)))) (len + 2) H := hB
  obtain ⟨f3, hf3⟩ : ∃ g, g = bu f2 (len + 1) (.inl (G.2 0, 2560, .inl (fun _ => 0))) := ⟨_, rfl⟩
  rw [← hf3] at hB
  have hB : bw G.1 ec_cl base f3 (len + 2) H := hB
  have h_o_3 : f3 (o) = .inr (6, [.int 0, .ref (base + (len)), .null, .null, .null, .null, .null, .null, .null, .null, .null, .null, .null, .null, .null, .null, .int 0, .null, .int 0, .null, .null, .null, .null, .null, .null, .null, .null]) := by rw [hf3, bu_n _ _ (by omega)]; exact h_o_2
  have h_len_3 : f3 (len) = .inl (G.2 0, 5, .inl (fun _ => 0)) := by rw [hf3, bu_n _ _ (by omega)]; exact h_len_2
  have h_len1_3 : f3 (len + 1) = .inl (G.2 0, 2560, .inl (fun _ => 0)) := by rw [hf3, bu_s]
  have hx3 : ∀ x, x < len → x ≠ o → f3 x = f x := fun x z1 z2 => (congrFun hf3 x).trans ((bu_n _ _ (by omega)).trans (hx2 x z1 z2))
  refine W.widen (k := 2) (n := 2565) (by omega) (by omega) ?_
  refine bw_putF (D := G.1) (ci := 6) (C := "TwoPhaseCutsModel") (T := T_R) (N := 27) (v := .ref (base + (len + 1))) (ty := .array .int) (o := o) hx hb hts ui_R ty_R tyo_R nmo_R hown hK hB hS (by omega) h_o_3 rfl 2 (by decide) (hts _ tw_376) (fun _ h9 => h9) rfl hin rfl (by decide +kernel) rfl rfl (Nat.le_of_ble_eq_true rfl) d_R_init_17 (fun H locs hB hS => ?_)
  have hB : bw G.1 ec_cl base (bu f3 (o) (.inr (6, [.int 0, .ref (base + (len)), .ref (base + (len + 1)), .null, .null, .null, .null, .null, .null, .null, .null, .null, .null, .null, .null, .null, .int 0, .null, .int 0, .null, .null, .null, .null, .null, .null, .null, .null]))) (len + 2) H := hB
  obtain ⟨f4, hf4⟩ : ∃ g, g = bu f3 (o) (.inr (6, [.int 0, .ref (base + (len)), .ref (base + (len + 1)), .null, .null, .null, .null, .null, .null, .null, .null, .null, .null, .null, .null, .null, .int 0, .null, .int 0, .null, .null, .null, .null, .null, .null, .null, .null])) := ⟨_, rfl⟩
  rw [← hf4] at hB
  have hB : bw G.1 ec_cl base f4 (len + 2) H := hB
  have h_len_4 : f4 (len) = .inl (G.2 0, 5, .inl (fun _ => 0)) := by rw [hf4, bu_n _ _ (by omega)]; exact h_len_3
  have h_len1_4 : f4 (len + 1) = .inl (G.2 0, 2560, .inl (fun _ => 0)) := by rw [hf4, bu_n _ _ (by omega)]; exact h_len1_3
  have h_o_4 : f4 (o) = .inr (6, [.int 0, .ref (base + (len)), .ref (base + (len + 1)), .null, .null, .null, .null, .null, .null, .null, .null, .null, .null, .null, .null, .null, .int 0, .null, .int 0, .null, .null, .null, .null, .null, .null, .null, .null]) := by rw [hf4, bu_s]
  have hx4 : ∀ x, x < len → x ≠ o → f4 x = f x := fun x z1 z2 => (congrFun hf4 x).trans ((bu_n _ _ (by omega)).trans (hx3 x z1 z2))
  refine lv_aload_n hx hb d_R_init_20 rfl (lv_at hl 0 rfl) ?_
  refine lv_sipush (v := nI 2560) hx hb d_R_init_21 (by decide) ?_
  refine bw_newa (D := G.1) (N' := 2560) (atype := .int) (ty := .int) hx hb (hts _ tw_51) rfl rfl hK 0 rfl (fun h => h) hB hS (nI_pos (by omega)) (nI_clamp (by omega)) (by show 2560 * 4 ≤ 536870912; omega) (by show 2 + 1 ≤ 24; omega) (by show 2565 + 2560 ≤ 13245; omega) d_R_init_24 (fun H hB hS => ?_)
  have hB : bw G.1 ec_cl base (bu f4 (len + 2) (.inl (G.2 0, 2560, .inl (fun _ => 0)))) (len + 3) H := hB
  obtain ⟨f5, hf5⟩ : ∃ g, g = bu f4 (len + 2) (.inl (G.2 0, 2560, .inl (fun _ => 0))) := ⟨_, rfl⟩
  rw [← hf5] at hB
  have hB : bw G.1 ec_cl base f5 (len + 3) H := hB
  have h_o_5 : f5 (o) = .inr (6, [.int 0, .ref (base + (len)), .ref (base + (len + 1)), .null, .null, .null, .null, .null, .null, .null, .null, .null, .null, .null, .null, .null, .int 0, .null, .int 0, .null, .null, .null, .null, .null, .null, .null, .null]) := by rw [hf5, bu_n _ _ (by omega)]; exact h_o_4
  have h_len_5 : f5 (len) = .inl (G.2 0, 5, .inl (fun _ => 0)) := by rw [hf5, bu_n _ _ (by omega)]; exact h_len_4
  have h_len1_5 : f5 (len + 1) = .inl (G.2 0, 2560, .inl (fun _ => 0)) := by rw [hf5, bu_n _ _ (by omega)]; exact h_len1_4
  have h_len2_5 : f5 (len + 2) = .inl (G.2 0, 2560, .inl (fun _ => 0)) := by rw [hf5, bu_s]
  have hx5 : ∀ x, x < len → x ≠ o → f5 x = f x := fun x z1 z2 => (congrFun hf5 x).trans ((bu_n _ _ (by omega)).trans (hx4 x z1 z2))
  refine W.widen (k := 3) (n := 5125) (by omega) (by omega) ?_
  refine bw_putF (D := G.1) (ci := 6) (C := "TwoPhaseCutsModel") (T := T_R) (N := 27) (v := .ref (base + (len + 2))) (ty := .array .int) (o := o) hx hb hts ui_R ty_R tyo_R nmo_R hown hK hB hS (by omega) h_o_5 rfl 3 (by decide) (hts _ tw_377) (fun _ h9 => h9) rfl hin rfl (by decide +kernel) rfl rfl (Nat.le_of_ble_eq_true rfl) d_R_init_26 (fun H locs hB hS => ?_)
  have hB : bw G.1 ec_cl base (bu f5 (o) (.inr (6, [.int 0, .ref (base + (len)), .ref (base + (len + 1)), .ref (base + (len + 2)), .null, .null, .null, .null, .null, .null, .null, .null, .null, .null, .null, .null, .int 0, .null, .int 0, .null, .null, .null, .null, .null, .null, .null, .null]))) (len + 3) H := hB
  obtain ⟨f6, hf6⟩ : ∃ g, g = bu f5 (o) (.inr (6, [.int 0, .ref (base + (len)), .ref (base + (len + 1)), .ref (base + (len + 2)), .null, .null, .null, .null, .null, .null, .null, .null, .null, .null, .null, .null, .int 0, .null, .int 0, .null, .null, .null, .null, .null, .null, .null, .null])) := ⟨_, rfl⟩
  rw [← hf6] at hB
  have hB : bw G.1 ec_cl base f6 (len + 3) H := hB
  have h_len_6 : f6 (len) = .inl (G.2 0, 5, .inl (fun _ => 0)) := by rw [hf6, bu_n _ _ (by omega)]; exact h_len_5
  have h_len1_6 : f6 (len + 1) = .inl (G.2 0, 2560, .inl (fun _ => 0)) := by rw [hf6, bu_n _ _ (by omega)]; exact h_len1_5
  have h_len2_6 : f6 (len + 2) = .inl (G.2 0, 2560, .inl (fun _ => 0)) := by rw [hf6, bu_n _ _ (by omega)]; exact h_len2_5
  have h_o_6 : f6 (o) = .inr (6, [.int 0, .ref (base + (len)), .ref (base + (len + 1)), .ref (base + (len + 2)), .null, .null, .null, .null, .null, .null, .null, .null, .null, .null, .null, .null, .int 0, .null, .int 0, .null, .null, .null, .null, .null, .null, .null, .null]) := by rw [hf6, bu_s]
  have hx6 : ∀ x, x < len → x ≠ o → f6 x = f x := fun x z1 z2 => (congrFun hf6 x).trans ((bu_n _ _ (by omega)).trans (hx5 x z1 z2))
  refine lv_aload_n hx hb d_R_init_29 rfl (lv_at hl 0 rfl) ?_
  refine lv_sipush (v := nI 2560) hx hb d_R_init_30 (by decide) ?_
  refine bw_newa (D := G.1) (N' := 2560) (atype := .int) (ty := .int) hx hb (hts _ tw_51) rfl rfl hK 0 rfl (fun h => h) hB hS (nI_pos (by omega)) (nI_clamp (by omega)) (by show 2560 * 4 ≤ 536870912; omega) (by show 3 + 1 ≤ 24; omega) (by show 5125 + 2560 ≤ 13245; omega) d_R_init_33 (fun H hB hS => ?_)
  have hB : bw G.1 ec_cl base (bu f6 (len + 3) (.inl (G.2 0, 2560, .inl (fun _ => 0)))) (len + 4) H := hB
  obtain ⟨f7, hf7⟩ : ∃ g, g = bu f6 (len + 3) (.inl (G.2 0, 2560, .inl (fun _ => 0))) := ⟨_, rfl⟩
  rw [← hf7] at hB
  have hB : bw G.1 ec_cl base f7 (len + 4) H := hB
  have h_o_7 : f7 (o) = .inr (6, [.int 0, .ref (base + (len)), .ref (base + (len + 1)), .ref (base + (len + 2)), .null, .null, .null, .null, .null, .null, .null, .null, .null, .null, .null, .null, .int 0, .null, .int 0, .null, .null, .null, .null, .null, .null, .null, .null]) := by rw [hf7, bu_n _ _ (by omega)]; exact h_o_6
  have h_len_7 : f7 (len) = .inl (G.2 0, 5, .inl (fun _ => 0)) := by rw [hf7, bu_n _ _ (by omega)]; exact h_len_6
  have h_len1_7 : f7 (len + 1) = .inl (G.2 0, 2560, .inl (fun _ => 0)) := by rw [hf7, bu_n _ _ (by omega)]; exact h_len1_6
  have h_len2_7 : f7 (len + 2) = .inl (G.2 0, 2560, .inl (fun _ => 0)) := by rw [hf7, bu_n _ _ (by omega)]; exact h_len2_6
  have h_len3_7 : f7 (len + 3) = .inl (G.2 0, 2560, .inl (fun _ => 0)) := by rw [hf7, bu_s]
  have hx7 : ∀ x, x < len → x ≠ o → f7 x = f x := fun x z1 z2 => (congrFun hf7 x).trans ((bu_n _ _ (by omega)).trans (hx6 x z1 z2))
  refine W.widen (k := 4) (n := 7685) (by omega) (by omega) ?_
  refine bw_putF (D := G.1) (ci := 6) (C := "TwoPhaseCutsModel") (T := T_R) (N := 27) (v := .ref (base + (len + 3))) (ty := .array .int) (o := o) hx hb hts ui_R ty_R tyo_R nmo_R hown hK hB hS (by omega) h_o_7 rfl 4 (by decide) (hts _ tw_378) (fun _ h9 => h9) rfl hin rfl (by decide +kernel) rfl rfl (Nat.le_of_ble_eq_true rfl) d_R_init_35 (fun H locs hB hS => ?_)
  have hB : bw G.1 ec_cl base (bu f7 (o) (.inr (6, [.int 0, .ref (base + (len)), .ref (base + (len + 1)), .ref (base + (len + 2)), .ref (base + (len + 3)), .null, .null, .null, .null, .null, .null, .null, .null, .null, .null, .null, .int 0, .null, .int 0, .null, .null, .null, .null, .null, .null, .null, .null]))) (len + 4) H := hB
  obtain ⟨f8, hf8⟩ : ∃ g, g = bu f7 (o) (.inr (6, [.int 0, .ref (base + (len)), .ref (base + (len + 1)), .ref (base + (len + 2)), .ref (base + (len + 3)), .null, .null, .null, .null, .null, .null, .null, .null, .null, .null, .null, .int 0, .null, .int 0, .null, .null, .null, .null, .null, .null, .null, .null])) := ⟨_, rfl⟩
  rw [← hf8] at hB
  have hB : bw G.1 ec_cl base f8 (len + 4) H := hB
  have h_len_8 : f8 (len) = .inl (G.2 0, 5, .inl (fun _ => 0)) := by rw [hf8, bu_n _ _ (by omega)]; exact h_len_7
  have h_len1_8 : f8 (len + 1) = .inl (G.2 0, 2560, .inl (fun _ => 0)) := by rw [hf8, bu_n _ _ (by omega)]; exact h_len1_7
  have h_len2_8 : f8 (len + 2) = .inl (G.2 0, 2560, .inl (fun _ => 0)) := by rw [hf8, bu_n _ _ (by omega)]; exact h_len2_7
  have h_len3_8 : f8 (len + 3) = .inl (G.2 0, 2560, .inl (fun _ => 0)) := by rw [hf8, bu_n _ _ (by omega)]; exact h_len3_7
  have h_o_8 : f8 (o) = .inr (6, [.int 0, .ref (base + (len)), .ref (base + (len + 1)), .ref (base + (len + 2)), .ref (base + (len + 3)), .null, .null, .null, .null, .null, .null, .null, .null, .null, .null, .null, .int 0, .null, .int 0, .null, .null, .null, .null, .null, .null, .null, .null]) := by rw [hf8, bu_s]
  have hx8 : ∀ x, x < len → x ≠ o → f8 x = f x := fun x z1 z2 => (congrFun hf8 x).trans ((bu_n _ _ (by omega)).trans (hx7 x z1 z2))
  refine lv_aload_n hx hb d_R_init_38 rfl (lv_at hl 0 rfl) ?_
  refine lv_sipush (v := nI 2560) hx hb d_R_init_39 (by decide) ?_
  refine bw_newa (D := G.1) (N' := 2560) (atype := .int) (ty := .int) hx hb (hts _ tw_51) rfl rfl hK 0 rfl (fun h => h) hB hS (nI_pos (by omega)) (nI_clamp (by omega)) (by show 2560 * 4 ≤ 536870912; omega) (by show 4 + 1 ≤ 24; omega) (by show 7685 + 2560 ≤ 13245; omega) d_R_init_42 (fun H hB hS => ?_)
  have hB : bw G.1 ec_cl base (bu f8 (len + 4) (.inl (G.2 0, 2560, .inl (fun _ => 0)))) (len + 5) H := hB
  obtain ⟨f9, hf9⟩ : ∃ g, g = bu f8 (len + 4) (.inl (G.2 0, 2560, .inl (fun _ => 0))) := ⟨_, rfl⟩
  rw [← hf9] at hB
  have hB : bw G.1 ec_cl base f9 (len + 5) H := hB
  have h_o_9 : f9 (o) = .inr (6, [.int 0, .ref (base + (len)), .ref (base + (len + 1)), .ref (base + (len + 2)), .ref (base + (len + 3)), .null, .null, .null, .null, .null, .null, .null, .null, .null, .null, .null, .int 0, .null, .int 0, .null, .null, .null, .null, .null, .null, .null, .null]) := by rw [hf9, bu_n _ _ (by omega)]; exact h_o_8
  have h_len_9 : f9 (len) = .inl (G.2 0, 5, .inl (fun _ => 0)) := by rw [hf9, bu_n _ _ (by omega)]; exact h_len_8
  have h_len1_9 : f9 (len + 1) = .inl (G.2 0, 2560, .inl (fun _ => 0)) := by rw [hf9, bu_n _ _ (by omega)]; exact h_len1_8
  have h_len2_9 : f9 (len + 2) = .inl (G.2 0, 2560, .inl (fun _ => 0)) := by rw [hf9, bu_n _ _ (by omega)]; exact h_len2_8
  have h_len3_9 : f9 (len + 3) = .inl (G.2 0, 2560, .inl (fun _ => 0)) := by rw [hf9, bu_n _ _ (by omega)]; exact h_len3_8
  have h_len4_9 : f9 (len + 4) = .inl (G.2 0, 2560, .inl (fun _ => 0)) := by rw [hf9, bu_s]
  have hx9 : ∀ x, x < len → x ≠ o → f9 x = f x := fun x z1 z2 => (congrFun hf9 x).trans ((bu_n _ _ (by omega)).trans (hx8 x z1 z2))
  refine W.widen (k := 5) (n := 10245) (by omega) (by omega) ?_
  refine bw_putF (D := G.1) (ci := 6) (C := "TwoPhaseCutsModel") (T := T_R) (N := 27) (v := .ref (base + (len + 4))) (ty := .array .int) (o := o) hx hb hts ui_R ty_R tyo_R nmo_R hown hK hB hS (by omega) h_o_9 rfl 5 (by decide) (hts _ tw_379) (fun _ h9 => h9) rfl hin rfl (by decide +kernel) rfl rfl (Nat.le_of_ble_eq_true rfl) d_R_init_44 (fun H locs hB hS => ?_)
  have hB : bw G.1 ec_cl base (bu f9 (o) (.inr (6, [.int 0, .ref (base + (len)), .ref (base + (len + 1)), .ref (base + (len + 2)), .ref (base + (len + 3)), .ref (base + (len + 4)), .null, .null, .null, .null, .null, .null, .null, .null, .null, .null, .int 0, .null, .int 0, .null, .null, .null, .null, .null, .null, .null, .null]))) (len + 5) H := hB
  obtain ⟨f10, hf10⟩ : ∃ g, g = bu f9 (o) (.inr (6, [.int 0, .ref (base + (len)), .ref (base + (len + 1)), .ref (base + (len + 2)), .ref (base + (len + 3)), .ref (base + (len + 4)), .null, .null, .null, .null, .null, .null, .null, .null, .null, .null, .int 0, .null, .int 0, .null, .null, .null, .null, .null, .null, .null, .null])) := ⟨_, rfl⟩
  rw [← hf10] at hB
  have hB : bw G.1 ec_cl base f10 (len + 5) H := hB
  have h_len_10 : f10 (len) = .inl (G.2 0, 5, .inl (fun _ => 0)) := by rw [hf10, bu_n _ _ (by omega)]; exact h_len_9
  have h_len1_10 : f10 (len + 1) = .inl (G.2 0, 2560, .inl (fun _ => 0)) := by rw [hf10, bu_n _ _ (by omega)]; exact h_len1_9
  have h_len2_10 : f10 (len + 2) = .inl (G.2 0, 2560, .inl (fun _ => 0)) := by rw [hf10, bu_n _ _ (by omega)]; exact h_len2_9
  have h_len3_10 : f10 (len + 3) = .inl (G.2 0, 2560, .inl (fun _ => 0)) := by rw [hf10, bu_n _ _ (by omega)]; exact h_len3_9
  have h_len4_10 : f10 (len + 4) = .inl (G.2 0, 2560, .inl (fun _ => 0)) := by rw [hf10, bu_n _ _ (by omega)]; exact h_len4_9
  have h_o_10 : f10 (o) = .inr (6, [.int 0, .ref (base + (len)), .ref (base + (len + 1)), .ref (base + (len + 2)), .ref (base + (len + 3)), .ref (base + (len + 4)), .null, .null, .null, .null, .null, .null, .null, .null, .null, .null, .int 0, .null, .int 0, .null, .null, .null, .null, .null, .null, .null, .null]) := by rw [hf10, bu_s]
  have hx10 : ∀ x, x < len → x ≠ o → f10 x = f x := fun x z1 z2 => (congrFun hf10 x).trans ((bu_n _ _ (by omega)).trans (hx9 x z1 z2))
  refine lv_aload_n hx hb d_R_init_47 rfl (lv_at hl 0 rfl) ?_
  refine lv_iconst (v := nI 5) hx hb d_R_init_48 (by decide) ?_
  refine bw_newa (D := G.1) (N' := 5) (atype := .int) (ty := .int) hx hb (hts _ tw_51) rfl rfl hK 0 rfl (fun h => h) hB hS (nI_pos (by omega)) (nI_clamp (by omega)) (by show 5 * 4 ≤ 536870912; omega) (by show 5 + 1 ≤ 24; omega) (by show 10245 + 5 ≤ 13245; omega) d_R_init_49 (fun H hB hS => ?_)
  have hB : bw G.1 ec_cl base (bu f10 (len + 5) (.inl (G.2 0, 5, .inl (fun _ => 0)))) (len + 6) H := hB
  obtain ⟨f11, hf11⟩ : ∃ g, g = bu f10 (len + 5) (.inl (G.2 0, 5, .inl (fun _ => 0))) := ⟨_, rfl⟩
  rw [← hf11] at hB
  have hB : bw G.1 ec_cl base f11 (len + 6) H := hB
  have h_o_11 : f11 (o) = .inr (6, [.int 0, .ref (base + (len)), .ref (base + (len + 1)), .ref (base + (len + 2)), .ref (base + (len + 3)), .ref (base + (len + 4)), .null, .null, .null, .null, .null, .null, .null, .null, .null, .null, .int 0, .null, .int 0, .null, .null, .null, .null, .null, .null, .null, .null]) := by rw [hf11, bu_n _ _ (by omega)]; exact h_o_10
  have h_len_11 : f11 (len) = .inl (G.2 0, 5, .inl (fun _ => 0)) := by rw [hf11, bu_n _ _ (by omega)]; exact h_len_10
  have h_len1_11 : f11 (len + 1) = .inl (G.2 0, 2560, .inl (fun _ => 0)) := by rw [hf11, bu_n _ _ (by omega)]; exact h_len1_10
  have h_len2_11 : f11 (len + 2) = .inl (G.2 0, 2560, .inl (fun _ => 0)) := by rw [hf11, bu_n _ _ (by omega)]; exact h_len2_10
  have h_len3_11 : f11 (len + 3) = .inl (G.2 0, 2560, .inl (fun _ => 0)) := by rw [hf11, bu_n _ _ (by omega)]; exact h_len3_10
  have h_len4_11 : f11 (len + 4) = .inl (G.2 0, 2560, .inl (fun _ => 0)) := by rw [hf11, bu_n _ _ (by omega)]; exact h_len4_10
  have h_len5_11 : f11 (len + 5) = .inl (G.2 0, 5, .inl (fun _ => 0)) := by rw [hf11, bu_s]
  have hx11 : ∀ x, x < len → x ≠ o → f11 x = f x := fun x z1 z2 => (congrFun hf11 x).trans ((bu_n _ _ (by omega)).trans (hx10 x z1 z2))
  refine W.widen (k := 6) (n := 10250) (by omega) (by omega) ?_
  refine bw_putF (D := G.1) (ci := 6) (C := "TwoPhaseCutsModel") (T := T_R) (N := 27) (v := .ref (base + (len + 5))) (ty := .array .int) (o := o) hx hb hts ui_R ty_R tyo_R nmo_R hown hK hB hS (by omega) h_o_11 rfl 6 (by decide) (hts _ tw_380) (fun _ h9 => h9) rfl hin rfl (by decide +kernel) rfl rfl (Nat.le_of_ble_eq_true rfl) d_R_init_51 (fun H locs hB hS => ?_)
  have hB : bw G.1 ec_cl base (bu f11 (o) (.inr (6, [.int 0, .ref (base + (len)), .ref (base + (len + 1)), .ref (base + (len + 2)), .ref (base + (len + 3)), .ref (base + (len + 4)), .ref (base + (len + 5)), .null, .null, .null, .null, .null, .null, .null, .null, .null, .int 0, .null, .int 0, .null, .null, .null, .null, .null, .null, .null, .null]))) (len + 6) H := hB
  obtain ⟨f12, hf12⟩ : ∃ g, g = bu f11 (o) (.inr (6, [.int 0, .ref (base + (len)), .ref (base + (len + 1)), .ref (base + (len + 2)), .ref (base + (len + 3)), .ref (base + (len + 4)), .ref (base + (len + 5)), .null, .null, .null, .null, .null, .null, .null, .null, .null, .int 0, .null, .int 0, .null, .null, .null, .null, .null, .null, .null, .null])) := ⟨_, rfl⟩
  rw [← hf12] at hB
  have hB : bw G.1 ec_cl base f12 (len + 6) H := hB
  have h_len_12 : f12 (len) = .inl (G.2 0, 5, .inl (fun _ => 0)) := by rw [hf12, bu_n _ _ (by omega)]; exact h_len_11
  have h_len1_12 : f12 (len + 1) = .inl (G.2 0, 2560, .inl (fun _ => 0)) := by rw [hf12, bu_n _ _ (by omega)]; exact h_len1_11
  have h_len2_12 : f12 (len + 2) = .inl (G.2 0, 2560, .inl (fun _ => 0)) := by rw [hf12, bu_n _ _ (by omega)]; exact h_len2_11
  have h_len3_12 : f12 (len + 3) = .inl (G.2 0, 2560, .inl (fun _ => 0)) := by rw [hf12, bu_n _ _ (by omega)]; exact h_len3_11
  have h_len4_12 : f12 (len + 4) = .inl (G.2 0, 2560, .inl (fun _ => 0)) := by rw [hf12, bu_n _ _ (by omega)]; exact h_len4_11
  have h_len5_12 : f12 (len + 5) = .inl (G.2 0, 5, .inl (fun _ => 0)) := by rw [hf12, bu_n _ _ (by omega)]; exact h_len5_11
  have h_o_12 : f12 (o) = .inr (6, [.int 0, .ref (base + (len)), .ref (base + (len + 1)), .ref (base + (len + 2)), .ref (base + (len + 3)), .ref (base + (len + 4)), .ref (base + (len + 5)), .null, .null, .null, .null, .null, .null, .null, .null, .null, .int 0, .null, .int 0, .null, .null, .null, .null, .null, .null, .null, .null]) := by rw [hf12, bu_s]
  have hx12 : ∀ x, x < len → x ≠ o → f12 x = f x := fun x z1 z2 => (congrFun hf12 x).trans ((bu_n _ _ (by omega)).trans (hx11 x z1 z2))
  refine lv_aload_n hx hb d_R_init_54 rfl (lv_at hl 0 rfl) ?_
  refine lv_iconst (v := nI 5) hx hb d_R_init_55 (by decide) ?_
  refine bw_newa (D := G.1) (N' := 5) (atype := .int) (ty := .int) hx hb (hts _ tw_51) rfl rfl hK 0 rfl (fun h => h) hB hS (nI_pos (by omega)) (nI_clamp (by omega)) (by show 5 * 4 ≤ 536870912; omega) (by show 6 + 1 ≤ 24; omega) (by show 10250 + 5 ≤ 13245; omega) d_R_init_56 (fun H hB hS => ?_)
  have hB : bw G.1 ec_cl base (bu f12 (len + 6) (.inl (G.2 0, 5, .inl (fun _ => 0)))) (len + 7) H := hB
  obtain ⟨f13, hf13⟩ : ∃ g, g = bu f12 (len + 6) (.inl (G.2 0, 5, .inl (fun _ => 0))) := ⟨_, rfl⟩
  rw [← hf13] at hB
  have hB : bw G.1 ec_cl base f13 (len + 7) H := hB
  have h_o_13 : f13 (o) = .inr (6, [.int 0, .ref (base + (len)), .ref (base + (len + 1)), .ref (base + (len + 2)), .ref (base + (len + 3)), .ref (base + (len + 4)), .ref (base + (len + 5)), .null, .null, .null, .null, .null, .null, .null, .null, .null, .int 0, .null, .int 0, .null, .null, .null, .null, .null, .null, .null, .null]) := by rw [hf13, bu_n _ _ (by omega)]; exact h_o_12
  have h_len_13 : f13 (len) = .inl (G.2 0, 5, .inl (fun _ => 0)) := by rw [hf13, bu_n _ _ (by omega)]; exact h_len_12
  have h_len1_13 : f13 (len + 1) = .inl (G.2 0, 2560, .inl (fun _ => 0)) := by rw [hf13, bu_n _ _ (by omega)]; exact h_len1_12
  have h_len2_13 : f13 (len + 2) = .inl (G.2 0, 2560, .inl (fun _ => 0)) := by rw [hf13, bu_n _ _ (by omega)]; exact h_len2_12
  have h_len3_13 : f13 (len + 3) = .inl (G.2 0, 2560, .inl (fun _ => 0)) := by rw [hf13, bu_n _ _ (by omega)]; exact h_len3_12
  have h_len4_13 : f13 (len + 4) = .inl (G.2 0, 2560, .inl (fun _ => 0)) := by rw [hf13, bu_n _ _ (by omega)]; exact h_len4_12
  have h_len5_13 : f13 (len + 5) = .inl (G.2 0, 5, .inl (fun _ => 0)) := by rw [hf13, bu_n _ _ (by omega)]; exact h_len5_12
  have h_len6_13 : f13 (len + 6) = .inl (G.2 0, 5, .inl (fun _ => 0)) := by rw [hf13, bu_s]
  have hx13 : ∀ x, x < len → x ≠ o → f13 x = f x := fun x z1 z2 => (congrFun hf13 x).trans ((bu_n _ _ (by omega)).trans (hx12 x z1 z2))
  refine W.widen (k := 7) (n := 10255) (by omega) (by omega) ?_
  refine bw_putF (D := G.1) (ci := 6) (C := "TwoPhaseCutsModel") (T := T_R) (N := 27) (v := .ref (base + (len + 6))) (ty := .array .int) (o := o) hx hb hts ui_R ty_R tyo_R nmo_R hown hK hB hS (by omega) h_o_13 rfl 7 (by decide) (hts _ tw_381) (fun _ h9 => h9) rfl hin rfl (by decide +kernel) rfl rfl (Nat.le_of_ble_eq_true rfl) d_R_init_58 (fun H locs hB hS => ?_)
  have hB : bw G.1 ec_cl base (bu f13 (o) (.inr (6, [.int 0, .ref (base + (len)), .ref (base + (len + 1)), .ref (base + (len + 2)), .ref (base + (len + 3)), .ref (base + (len + 4)), .ref (base + (len + 5)), .ref (base + (len + 6)), .null, .null, .null, .null, .null, .null, .null, .null, .int 0, .null, .int 0, .null, .null, .null, .null, .null, .null, .null, .null]))) (len + 7) H := hB
  obtain ⟨f14, hf14⟩ : ∃ g, g = bu f13 (o) (.inr (6, [.int 0, .ref (base + (len)), .ref (base + (len + 1)), .ref (base + (len + 2)), .ref (base + (len + 3)), .ref (base + (len + 4)), .ref (base + (len + 5)), .ref (base + (len + 6)), .null, .null, .null, .null, .null, .null, .null, .null, .int 0, .null, .int 0, .null, .null, .null, .null, .null, .null, .null, .null])) := ⟨_, rfl⟩
  rw [← hf14] at hB
  have hB : bw G.1 ec_cl base f14 (len + 7) H := hB
  have h_len_14 : f14 (len) = .inl (G.2 0, 5, .inl (fun _ => 0)) := by rw [hf14, bu_n _ _ (by omega)]; exact h_len_13
  have h_len1_14 : f14 (len + 1) = .inl (G.2 0, 2560, .inl (fun _ => 0)) := by rw [hf14, bu_n _ _ (by omega)]; exact h_len1_13
  have h_len2_14 : f14 (len + 2) = .inl (G.2 0, 2560, .inl (fun _ => 0)) := by rw [hf14, bu_n _ _ (by omega)]; exact h_len2_13
  have h_len3_14 : f14 (len + 3) = .inl (G.2 0, 2560, .inl (fun _ => 0)) := by rw [hf14, bu_n _ _ (by omega)]; exact h_len3_13
  have h_len4_14 : f14 (len + 4) = .inl (G.2 0, 2560, .inl (fun _ => 0)) := by rw [hf14, bu_n _ _ (by omega)]; exact h_len4_13
  have h_len5_14 : f14 (len + 5) = .inl (G.2 0, 5, .inl (fun _ => 0)) := by rw [hf14, bu_n _ _ (by omega)]; exact h_len5_13
  have h_len6_14 : f14 (len + 6) = .inl (G.2 0, 5, .inl (fun _ => 0)) := by rw [hf14, bu_n _ _ (by omega)]; exact h_len6_13
  have h_o_14 : f14 (o) = .inr (6, [.int 0, .ref (base + (len)), .ref (base + (len + 1)), .ref (base + (len + 2)), .ref (base + (len + 3)), .ref (base + (len + 4)), .ref (base + (len + 5)), .ref (base + (len + 6)), .null, .null, .null, .null, .null, .null, .null, .null, .int 0, .null, .int 0, .null, .null, .null, .null, .null, .null, .null, .null]) := by rw [hf14, bu_s]
  have hx14 : ∀ x, x < len → x ≠ o → f14 x = f x := fun x z1 z2 => (congrFun hf14 x).trans ((bu_n _ _ (by omega)).trans (hx13 x z1 z2))
  refine lv_aload_n hx hb d_R_init_61 rfl (lv_at hl 0 rfl) ?_
  refine lv_bipush (v := nI 25) hx hb d_R_init_62 (by decide) ?_
  refine bw_newa (D := G.1) (N' := 25) (atype := .int) (ty := .int) hx hb (hts _ tw_51) rfl rfl hK 0 rfl (fun h => h) hB hS (nI_pos (by omega)) (nI_clamp (by omega)) (by show 25 * 4 ≤ 536870912; omega) (by show 7 + 1 ≤ 24; omega) (by show 10255 + 25 ≤ 13245; omega) d_R_init_64 (fun H hB hS => ?_)
  have hB : bw G.1 ec_cl base (bu f14 (len + 7) (.inl (G.2 0, 25, .inl (fun _ => 0)))) (len + 8) H := hB
  obtain ⟨f15, hf15⟩ : ∃ g, g = bu f14 (len + 7) (.inl (G.2 0, 25, .inl (fun _ => 0))) := ⟨_, rfl⟩
  rw [← hf15] at hB
  have hB : bw G.1 ec_cl base f15 (len + 8) H := hB
  have h_o_15 : f15 (o) = .inr (6, [.int 0, .ref (base + (len)), .ref (base + (len + 1)), .ref (base + (len + 2)), .ref (base + (len + 3)), .ref (base + (len + 4)), .ref (base + (len + 5)), .ref (base + (len + 6)), .null, .null, .null, .null, .null, .null, .null, .null, .int 0, .null, .int 0, .null, .null, .null, .null, .null, .null, .null, .null]) := by rw [hf15, bu_n _ _ (by omega)]; exact h_o_14
  have h_len_15 : f15 (len) = .inl (G.2 0, 5, .inl (fun _ => 0)) := by rw [hf15, bu_n _ _ (by omega)]; exact h_len_14
  have h_len1_15 : f15 (len + 1) = .inl (G.2 0, 2560, .inl (fun _ => 0)) := by rw [hf15, bu_n _ _ (by omega)]; exact h_len1_14
  have h_len2_15 : f15 (len + 2) = .inl (G.2 0, 2560, .inl (fun _ => 0)) := by rw [hf15, bu_n _ _ (by omega)]; exact h_len2_14
  have h_len3_15 : f15 (len + 3) = .inl (G.2 0, 2560, .inl (fun _ => 0)) := by rw [hf15, bu_n _ _ (by omega)]; exact h_len3_14
  have h_len4_15 : f15 (len + 4) = .inl (G.2 0, 2560, .inl (fun _ => 0)) := by rw [hf15, bu_n _ _ (by omega)]; exact h_len4_14
  have h_len5_15 : f15 (len + 5) = .inl (G.2 0, 5, .inl (fun _ => 0)) := by rw [hf15, bu_n _ _ (by omega)]; exact h_len5_14
  have h_len6_15 : f15 (len + 6) = .inl (G.2 0, 5, .inl (fun _ => 0)) := by rw [hf15, bu_n _ _ (by omega)]; exact h_len6_14
  have h_len7_15 : f15 (len + 7) = .inl (G.2 0, 25, .inl (fun _ => 0)) := by rw [hf15, bu_s]
  have hx15 : ∀ x, x < len → x ≠ o → f15 x = f x := fun x z1 z2 => (congrFun hf15 x).trans ((bu_n _ _ (by omega)).trans (hx14 x z1 z2))
  refine W.widen (k := 8) (n := 10280) (by omega) (by omega) ?_
  refine bw_putF (D := G.1) (ci := 6) (C := "TwoPhaseCutsModel") (T := T_R) (N := 27) (v := .ref (base + (len + 7))) (ty := .array .int) (o := o) hx hb hts ui_R ty_R tyo_R nmo_R hown hK hB hS (by omega) h_o_15 rfl 8 (by decide) (hts _ tw_382) (fun _ h9 => h9) rfl hin rfl (by decide +kernel) rfl rfl (Nat.le_of_ble_eq_true rfl) d_R_init_66 (fun H locs hB hS => ?_)
  have hB : bw G.1 ec_cl base (bu f15 (o) (.inr (6, [.int 0, .ref (base + (len)), .ref (base + (len + 1)), .ref (base + (len + 2)), .ref (base + (len + 3)), .ref (base + (len + 4)), .ref (base + (len + 5)), .ref (base + (len + 6)), .ref (base + (len + 7)), .null, .null, .null, .null, .null, .null, .null, .int 0, .null, .int 0, .null, .null, .null, .null, .null, .null, .null, .null]))) (len + 8) H := hB
  obtain ⟨f16, hf16⟩ : ∃ g, g = bu f15 (o) (.inr (6, [.int 0, .ref (base + (len)), .ref (base + (len + 1)), .ref (base + (len + 2)), .ref (base + (len + 3)), .ref (base + (len + 4)), .ref (base + (len + 5)), .ref (base + (len + 6)), .ref (base + (len + 7)), .null, .null, .null, .null, .null, .null, .null, .int 0, .null, .int 0, .null, .null, .null, .null, .null, .null, .null, .null])) := ⟨_, rfl⟩
  rw [← hf16] at hB
  have hB : bw G.1 ec_cl base f16 (len + 8) H := hB
  have h_len_16 : f16 (len) = .inl (G.2 0, 5, .inl (fun _ => 0)) := by rw [hf16, bu_n _ _ (by omega)]; exact h_len_15
  have h_len1_16 : f16 (len + 1) = .inl (G.2 0, 2560, .inl (fun _ => 0)) := by rw [hf16, bu_n _ _ (by omega)]; exact h_len1_15
  have h_len2_16 : f16 (len + 2) = .inl (G.2 0, 2560, .inl (fun _ => 0)) := by rw [hf16, bu_n _ _ (by omega)]; exact h_len2_15
  have h_len3_16 : f16 (len + 3) = .inl (G.2 0, 2560, .inl (fun _ => 0)) := by rw [hf16, bu_n _ _ (by omega)]; exact h_len3_15
  have h_len4_16 : f16 (len + 4) = .inl (G.2 0, 2560, .inl (fun _ => 0)) := by rw [hf16, bu_n _ _ (by omega)]; exact h_len4_15
  have h_len5_16 : f16 (len + 5) = .inl (G.2 0, 5, .inl (fun _ => 0)) := by rw [hf16, bu_n _ _ (by omega)]; exact h_len5_15
  have h_len6_16 : f16 (len + 6) = .inl (G.2 0, 5, .inl (fun _ => 0)) := by rw [hf16, bu_n _ _ (by omega)]; exact h_len6_15
  have h_len7_16 : f16 (len + 7) = .inl (G.2 0, 25, .inl (fun _ => 0)) := by rw [hf16, bu_n _ _ (by omega)]; exact h_len7_15
  have h_o_16 : f16 (o) = .inr (6, [.int 0, .ref (base + (len)), .ref (base + (len + 1)), .ref (base + (len + 2)), .ref (base + (len + 3)), .ref (base + (len + 4)), .ref (base + (len + 5)), .ref (base + (len + 6)), .ref (base + (len + 7)), .null, .null, .null, .null, .null, .null, .null, .int 0, .null, .int 0, .null, .null, .null, .null, .null, .null, .null, .null]) := by rw [hf16, bu_s]
  have hx16 : ∀ x, x < len → x ≠ o → f16 x = f x := fun x z1 z2 => (congrFun hf16 x).trans ((bu_n _ _ (by omega)).trans (hx15 x z1 z2))
  refine lv_aload_n hx hb d_R_init_69 rfl (lv_at hl 0 rfl) ?_
  refine lv_iconst (v := nI 5) hx hb d_R_init_70 (by decide) ?_
  refine bw_newa (D := G.1) (N' := 5) (atype := .boolean) (ty := .boolean) hx hb (hts _ tw_98) rfl rfl hK 1 rfl (fun h => h) hB hS (nI_pos (by omega)) (nI_clamp (by omega)) (by show 5 * 1 ≤ 536870912; omega) (by show 8 + 1 ≤ 24; omega) (by show 10280 + 5 ≤ 13245; omega) d_R_init_71 (fun H hB hS => ?_)
  have hB : bw G.1 ec_cl base (bu f16 (len + 8) (.inl (G.2 1, 5, .inl (fun _ => 0)))) (len + 9) H := hB
  obtain ⟨f17, hf17⟩ : ∃ g, g = bu f16 (len + 8) (.inl (G.2 1, 5, .inl (fun _ => 0))) := ⟨_, rfl⟩
  rw [← hf17] at hB
  have hB : bw G.1 ec_cl base f17 (len + 9) H := hB
  have h_o_17 : f17 (o) = .inr (6, [.int 0, .ref (base + (len)), .ref (base + (len + 1)), .ref (base + (len + 2)), .ref (base + (len + 3)), .ref (base + (len + 4)), .ref (base + (len + 5)), .ref (base + (len + 6)), .ref (base + (len + 7)), .null, .null, .null, .null, .null, .null, .null, .int 0, .null, .int 0, .null, .null, .null, .null, .null, .null, .null, .null]) := by rw [hf17, bu_n _ _ (by omega)]; exact h_o_16
  have h_len_17 : f17 (len) = .inl (G.2 0, 5, .inl (fun _ => 0)) := by rw [hf17, bu_n _ _ (by omega)]; exact h_len_16
  have h_len1_17 : f17 (len + 1) = .inl (G.2 0, 2560, .inl (fun _ => 0)) := by rw [hf17, bu_n _ _ (by omega)]; exact h_len1_16
  have h_len2_17 : f17 (len + 2) = .inl (G.2 0, 2560, .inl (fun _ => 0)) := by rw [hf17, bu_n _ _ (by omega)]; exact h_len2_16
  have h_len3_17 : f17 (len + 3) = .inl (G.2 0, 2560, .inl (fun _ => 0)) := by rw [hf17, bu_n _ _ (by omega)]; exact h_len3_16
  have h_len4_17 : f17 (len + 4) = .inl (G.2 0, 2560, .inl (fun _ => 0)) := by rw [hf17, bu_n _ _ (by omega)]; exact h_len4_16
  have h_len5_17 : f17 (len + 5) = .inl (G.2 0, 5, .inl (fun _ => 0)) := by rw [hf17, bu_n _ _ (by omega)]; exact h_len5_16
  have h_len6_17 : f17 (len + 6) = .inl (G.2 0, 5, .inl (fun _ => 0)) := by rw [hf17, bu_n _ _ (by omega)]; exact h_len6_16
  have h_len7_17 : f17 (len + 7) = .inl (G.2 0, 25, .inl (fun _ => 0)) := by rw [hf17, bu_n _ _ (by omega)]; exact h_len7_16
  have h_len8_17 : f17 (len + 8) = .inl (G.2 1, 5, .inl (fun _ => 0)) := by rw [hf17, bu_s]
  have hx17 : ∀ x, x < len → x ≠ o → f17 x = f x := fun x z1 z2 => (congrFun hf17 x).trans ((bu_n _ _ (by omega)).trans (hx16 x z1 z2))
  refine W.widen (k := 9) (n := 10285) (by omega) (by omega) ?_
  refine bw_putF (D := G.1) (ci := 6) (C := "TwoPhaseCutsModel") (T := T_R) (N := 27) (v := .ref (base + (len + 8))) (ty := .array .boolean) (o := o) hx hb hts ui_R ty_R tyo_R nmo_R hown hK hB hS (by omega) h_o_17 rfl 9 (by decide) (hts _ tw_383) (fun _ h9 => h9) rfl hin rfl (by decide +kernel) rfl rfl (Nat.le_of_ble_eq_true rfl) d_R_init_73 (fun H locs hB hS => ?_)
  have hB : bw G.1 ec_cl base (bu f17 (o) (.inr (6, [.int 0, .ref (base + (len)), .ref (base + (len + 1)), .ref (base + (len + 2)), .ref (base + (len + 3)), .ref (base + (len + 4)), .ref (base + (len + 5)), .ref (base + (len + 6)), .ref (base + (len + 7)), .ref (base + (len + 8)), .null, .null, .null, .null, .null, .null, .int 0, .null, .int 0, .null, .null, .null, .null, .null, .null, .null, .null]))) (len + 9) H := hB
  obtain ⟨f18, hf18⟩ : ∃ g, g = bu f17 (o) (.inr (6, [.int 0, .ref (base + (len)), .ref (base + (len + 1)), .ref (base + (len + 2)), .ref (base + (len + 3)), .ref (base + (len + 4)), .ref (base + (len + 5)), .ref (base + (len + 6)), .ref (base + (len + 7)), .ref (base + (len + 8)), .null, .null, .null, .null, .null, .null, .int 0, .null, .int 0, .null, .null, .null, .null, .null, .null, .null, .null])) := ⟨_, rfl⟩
  rw [← hf18] at hB
  have hB : bw G.1 ec_cl base f18 (len + 9) H := hB
  have h_len_18 : f18 (len) = .inl (G.2 0, 5, .inl (fun _ => 0)) := by rw [hf18, bu_n _ _ (by omega)]; exact h_len_17
  have h_len1_18 : f18 (len + 1) = .inl (G.2 0, 2560, .inl (fun _ => 0)) := by rw [hf18, bu_n _ _ (by omega)]; exact h_len1_17
  have h_len2_18 : f18 (len + 2) = .inl (G.2 0, 2560, .inl (fun _ => 0)) := by rw [hf18, bu_n _ _ (by omega)]; exact h_len2_17
  have h_len3_18 : f18 (len + 3) = .inl (G.2 0, 2560, .inl (fun _ => 0)) := by rw [hf18, bu_n _ _ (by omega)]; exact h_len3_17
  have h_len4_18 : f18 (len + 4) = .inl (G.2 0, 2560, .inl (fun _ => 0)) := by rw [hf18, bu_n _ _ (by omega)]; exact h_len4_17
  have h_len5_18 : f18 (len + 5) = .inl (G.2 0, 5, .inl (fun _ => 0)) := by rw [hf18, bu_n _ _ (by omega)]; exact h_len5_17
  have h_len6_18 : f18 (len + 6) = .inl (G.2 0, 5, .inl (fun _ => 0)) := by rw [hf18, bu_n _ _ (by omega)]; exact h_len6_17
  have h_len7_18 : f18 (len + 7) = .inl (G.2 0, 25, .inl (fun _ => 0)) := by rw [hf18, bu_n _ _ (by omega)]; exact h_len7_17
  have h_len8_18 : f18 (len + 8) = .inl (G.2 1, 5, .inl (fun _ => 0)) := by rw [hf18, bu_n _ _ (by omega)]; exact h_len8_17
  have h_o_18 : f18 (o) = .inr (6, [.int 0, .ref (base + (len)), .ref (base + (len + 1)), .ref (base + (len + 2)), .ref (base + (len + 3)), .ref (base + (len + 4)), .ref (base + (len + 5)), .ref (base + (len + 6)), .ref (base + (len + 7)), .ref (base + (len + 8)), .null, .null, .null, .null, .null, .null, .int 0, .null, .int 0, .null, .null, .null, .null, .null, .null, .null, .null]) := by rw [hf18, bu_s]
  have hx18 : ∀ x, x < len → x ≠ o → f18 x = f x := fun x z1 z2 => (congrFun hf18 x).trans ((bu_n _ _ (by omega)).trans (hx17 x z1 z2))
  refine lv_aload_n hx hb d_R_init_76 rfl (lv_at hl 0 rfl) ?_
  refine lv_iconst (v := nI 5) hx hb d_R_init_77 (by decide) ?_
  refine bw_newa (D := G.1) (N' := 5) (atype := .int) (ty := .int) hx hb (hts _ tw_51) rfl rfl hK 0 rfl (fun h => h) hB hS (nI_pos (by omega)) (nI_clamp (by omega)) (by show 5 * 4 ≤ 536870912; omega) (by show 9 + 1 ≤ 24; omega) (by show 10285 + 5 ≤ 13245; omega) d_R_init_78 (fun H hB hS => ?_)
  have hB : bw G.1 ec_cl base (bu f18 (len + 9) (.inl (G.2 0, 5, .inl (fun _ => 0)))) (len + 10) H := hB
  obtain ⟨f19, hf19⟩ : ∃ g, g = bu f18 (len + 9) (.inl (G.2 0, 5, .inl (fun _ => 0))) := ⟨_, rfl⟩
  rw [← hf19] at hB
  have hB : bw G.1 ec_cl base f19 (len + 10) H := hB
  have h_o_19 : f19 (o) = .inr (6, [.int 0, .ref (base + (len)), .ref (base + (len + 1)), .ref (base + (len + 2)), .ref (base + (len + 3)), .ref (base + (len + 4)), .ref (base + (len + 5)), .ref (base + (len + 6)), .ref (base + (len + 7)), .ref (base + (len + 8)), .null, .null, .null, .null, .null, .null, .int 0, .null, .int 0, .null, .null, .null, .null, .null, .null, .null, .null]) := by rw [hf19, bu_n _ _ (by omega)]; exact h_o_18
  have h_len_19 : f19 (len) = .inl (G.2 0, 5, .inl (fun _ => 0)) := by rw [hf19, bu_n _ _ (by omega)]; exact h_len_18
  have h_len1_19 : f19 (len + 1) = .inl (G.2 0, 2560, .inl (fun _ => 0)) := by rw [hf19, bu_n _ _ (by omega)]; exact h_len1_18
  have h_len2_19 : f19 (len + 2) = .inl (G.2 0, 2560, .inl (fun _ => 0)) := by rw [hf19, bu_n _ _ (by omega)]; exact h_len2_18
  have h_len3_19 : f19 (len + 3) = .inl (G.2 0, 2560, .inl (fun _ => 0)) := by rw [hf19, bu_n _ _ (by omega)]; exact h_len3_18
  have h_len4_19 : f19 (len + 4) = .inl (G.2 0, 2560, .inl (fun _ => 0)) := by rw [hf19, bu_n _ _ (by omega)]; exact h_len4_18
  have h_len5_19 : f19 (len + 5) = .inl (G.2 0, 5, .inl (fun _ => 0)) := by rw [hf19, bu_n _ _ (by omega)]; exact h_len5_18
  have h_len6_19 : f19 (len + 6) = .inl (G.2 0, 5, .inl (fun _ => 0)) := by rw [hf19, bu_n _ _ (by omega)]; exact h_len6_18
  have h_len7_19 : f19 (len + 7) = .inl (G.2 0, 25, .inl (fun _ => 0)) := by rw [hf19, bu_n _ _ (by omega)]; exact h_len7_18
  have h_len8_19 : f19 (len + 8) = .inl (G.2 1, 5, .inl (fun _ => 0)) := by rw [hf19, bu_n _ _ (by omega)]; exact h_len8_18
  have h_len9_19 : f19 (len + 9) = .inl (G.2 0, 5, .inl (fun _ => 0)) := by rw [hf19, bu_s]
  have hx19 : ∀ x, x < len → x ≠ o → f19 x = f x := fun x z1 z2 => (congrFun hf19 x).trans ((bu_n _ _ (by omega)).trans (hx18 x z1 z2))
  refine W.widen (k := 10) (n := 10290) (by omega) (by omega) ?_
  refine bw_putF (D := G.1) (ci := 6) (C := "TwoPhaseCutsModel") (T := T_R) (N := 27) (v := .ref (base + (len + 9))) (ty := .array .int) (o := o) hx hb hts ui_R ty_R tyo_R nmo_R hown hK hB hS (by omega) h_o_19 rfl 10 (by decide) (hts _ tw_384) (fun _ h9 => h9) rfl hin rfl (by decide +kernel) rfl rfl (Nat.le_of_ble_eq_true rfl) d_R_init_80 (fun H locs hB hS => ?_)
  have hB : bw G.1 ec_cl base (bu f19 (o) (.inr (6, [.int 0, .ref (base + (len)), .ref (base + (len + 1)), .ref (base + (len + 2)), .ref (base + (len + 3)), .ref (base + (len + 4)), .ref (base + (len + 5)), .ref (base + (len + 6)), .ref (base + (len + 7)), .ref (base + (len + 8)), .ref (base + (len + 9)), .null, .null, .null, .null, .null, .int 0, .null, .int 0, .null, .null, .null, .null, .null, .null, .null, .null]))) (len + 10) H := hB
  obtain ⟨f20, hf20⟩ : ∃ g, g = bu f19 (o) (.inr (6, [.int 0, .ref (base + (len)), .ref (base + (len + 1)), .ref (base + (len + 2)), .ref (base + (len + 3)), .ref (base + (len + 4)), .ref (base + (len + 5)), .ref (base + (len + 6)), .ref (base + (len + 7)), .ref (base + (len + 8)), .ref (base + (len + 9)), .null, .null, .null, .null, .null, .int 0, .null, .int 0, .null, .null, .null, .null, .null, .null, .null, .null])) := ⟨_, rfl⟩
  rw [← hf20] at hB
  have hB : bw G.1 ec_cl base f20 (len + 10) H := hB
  have h_len_20 : f20 (len) = .inl (G.2 0, 5, .inl (fun _ => 0)) := by rw [hf20, bu_n _ _ (by omega)]; exact h_len_19
  have h_len1_20 : f20 (len + 1) = .inl (G.2 0, 2560, .inl (fun _ => 0)) := by rw [hf20, bu_n _ _ (by omega)]; exact h_len1_19
  have h_len2_20 : f20 (len + 2) = .inl (G.2 0, 2560, .inl (fun _ => 0)) := by rw [hf20, bu_n _ _ (by omega)]; exact h_len2_19
  have h_len3_20 : f20 (len + 3) = .inl (G.2 0, 2560, .inl (fun _ => 0)) := by rw [hf20, bu_n _ _ (by omega)]; exact h_len3_19
  have h_len4_20 : f20 (len + 4) = .inl (G.2 0, 2560, .inl (fun _ => 0)) := by rw [hf20, bu_n _ _ (by omega)]; exact h_len4_19
  have h_len5_20 : f20 (len + 5) = .inl (G.2 0, 5, .inl (fun _ => 0)) := by rw [hf20, bu_n _ _ (by omega)]; exact h_len5_19
  have h_len6_20 : f20 (len + 6) = .inl (G.2 0, 5, .inl (fun _ => 0)) := by rw [hf20, bu_n _ _ (by omega)]; exact h_len6_19
  have h_len7_20 : f20 (len + 7) = .inl (G.2 0, 25, .inl (fun _ => 0)) := by rw [hf20, bu_n _ _ (by omega)]; exact h_len7_19
  have h_len8_20 : f20 (len + 8) = .inl (G.2 1, 5, .inl (fun _ => 0)) := by rw [hf20, bu_n _ _ (by omega)]; exact h_len8_19
  have h_len9_20 : f20 (len + 9) = .inl (G.2 0, 5, .inl (fun _ => 0)) := by rw [hf20, bu_n _ _ (by omega)]; exact h_len9_19
  have h_o_20 : f20 (o) = .inr (6, [.int 0, .ref (base + (len)), .ref (base + (len + 1)), .ref (base + (len + 2)), .ref (base + (len + 3)), .ref (base + (len + 4)), .ref (base + (len + 5)), .ref (base + (len + 6)), .ref (base + (len + 7)), .ref (base + (len + 8)), .ref (base + (len + 9)), .null, .null, .null, .null, .null, .int 0, .null, .int 0, .null, .null, .null, .null, .null, .null, .null, .null]) := by rw [hf20, bu_s]
  have hx20 : ∀ x, x < len → x ≠ o → f20 x = f x := fun x z1 z2 => (congrFun hf20 x).trans ((bu_n _ _ (by omega)).trans (hx19 x z1 z2))
  refine lv_aload_n hx hb d_R_init_83 rfl (lv_at hl 0 rfl) ?_
  refine lv_iconst (v := nI 5) hx hb d_R_init_84 (by decide) ?_
  refine bw_newa (D := G.1) (N' := 5) (atype := .boolean) (ty := .boolean) hx hb (hts _ tw_98) rfl rfl hK 1 rfl (fun h => h) hB hS (nI_pos (by omega)) (nI_clamp (by omega)) (by show 5 * 1 ≤ 536870912; omega) (by show 10 + 1 ≤ 24; omega) (by show 10290 + 5 ≤ 13245; omega) d_R_init_85 (fun H hB hS => ?_)
  have hB : bw G.1 ec_cl base (bu f20 (len + 10) (.inl (G.2 1, 5, .inl (fun _ => 0)))) (len + 11) H := hB
  obtain ⟨f21, hf21⟩ : ∃ g, g = bu f20 (len + 10) (.inl (G.2 1, 5, .inl (fun _ => 0))) := ⟨_, rfl⟩
  rw [← hf21] at hB
  have hB : bw G.1 ec_cl base f21 (len + 11) H := hB
  have h_o_21 : f21 (o) = .inr (6, [.int 0, .ref (base + (len)), .ref (base + (len + 1)), .ref (base + (len + 2)), .ref (base + (len + 3)), .ref (base + (len + 4)), .ref (base + (len + 5)), .ref (base + (len + 6)), .ref (base + (len + 7)), .ref (base + (len + 8)), .ref (base + (len + 9)), .null, .null, .null, .null, .null, .int 0, .null, .int 0, .null, .null, .null, .null, .null, .null, .null, .null]) := by rw [hf21, bu_n _ _ (by omega)]; exact h_o_20
  have h_len_21 : f21 (len) = .inl (G.2 0, 5, .inl (fun _ => 0)) := by rw [hf21, bu_n _ _ (by omega)]; exact h_len_20
  have h_len1_21 : f21 (len + 1) = .inl (G.2 0, 2560, .inl (fun _ => 0)) := by rw [hf21, bu_n _ _ (by omega)]; exact h_len1_20
  have h_len2_21 : f21 (len + 2) = .inl (G.2 0, 2560, .inl (fun _ => 0)) := by rw [hf21, bu_n _ _ (by omega)]; exact h_len2_20
  have h_len3_21 : f21 (len + 3) = .inl (G.2 0, 2560, .inl (fun _ => 0)) := by rw [hf21, bu_n _ _ (by omega)]; exact h_len3_20
  have h_len4_21 : f21 (len + 4) = .inl (G.2 0, 2560, .inl (fun _ => 0)) := by rw [hf21, bu_n _ _ (by omega)]; exact h_len4_20
  have h_len5_21 : f21 (len + 5) = .inl (G.2 0, 5, .inl (fun _ => 0)) := by rw [hf21, bu_n _ _ (by omega)]; exact h_len5_20
  have h_len6_21 : f21 (len + 6) = .inl (G.2 0, 5, .inl (fun _ => 0)) := by rw [hf21, bu_n _ _ (by omega)]; exact h_len6_20
  have h_len7_21 : f21 (len + 7) = .inl (G.2 0, 25, .inl (fun _ => 0)) := by rw [hf21, bu_n _ _ (by omega)]; exact h_len7_20
  have h_len8_21 : f21 (len + 8) = .inl (G.2 1, 5, .inl (fun _ => 0)) := by rw [hf21, bu_n _ _ (by omega)]; exact h_len8_20
  have h_len9_21 : f21 (len + 9) = .inl (G.2 0, 5, .inl (fun _ => 0)) := by rw [hf21, bu_n _ _ (by omega)]; exact h_len9_20
  have h_len10_21 : f21 (len + 10) = .inl (G.2 1, 5, .inl (fun _ => 0)) := by rw [hf21, bu_s]
  have hx21 : ∀ x, x < len → x ≠ o → f21 x = f x := fun x z1 z2 => (congrFun hf21 x).trans ((bu_n _ _ (by omega)).trans (hx20 x z1 z2))
  refine W.widen (k := 11) (n := 10295) (by omega) (by omega) ?_
  refine bw_putF (D := G.1) (ci := 6) (C := "TwoPhaseCutsModel") (T := T_R) (N := 27) (v := .ref (base + (len + 10))) (ty := .array .boolean) (o := o) hx hb hts ui_R ty_R tyo_R nmo_R hown hK hB hS (by omega) h_o_21 rfl 11 (by decide) (hts _ tw_385) (fun _ h9 => h9) rfl hin rfl (by decide +kernel) rfl rfl (Nat.le_of_ble_eq_true rfl) d_R_init_87 (fun H locs hB hS => ?_)
  have hB : bw G.1 ec_cl base (bu f21 (o) (.inr (6, [.int 0, .ref (base + (len)), .ref (base + (len + 1)), .ref (base + (len + 2)), .ref (base + (len + 3)), .ref (base + (len + 4)), .ref (base + (len + 5)), .ref (base + (len + 6)), .ref (base + (len + 7)), .ref (base + (len + 8)), .ref (base + (len + 9)), .ref (base + (len + 10)), .null, .null, .null, .null, .int 0, .null, .int 0, .null, .null, .null, .null, .null, .null, .null, .null]))) (len + 11) H := hB
  obtain ⟨f22, hf22⟩ : ∃ g, g = bu f21 (o) (.inr (6, [.int 0, .ref (base + (len)), .ref (base + (len + 1)), .ref (base + (len + 2)), .ref (base + (len + 3)), .ref (base + (len + 4)), .ref (base + (len + 5)), .ref (base + (len + 6)), .ref (base + (len + 7)), .ref (base + (len + 8)), .ref (base + (len + 9)), .ref (base + (len + 10)), .null, .null, .null, .null, .int 0, .null, .int 0, .null, .null, .null, .null, .null, .null, .null, .null])) := ⟨_, rfl⟩
  rw [← hf22] at hB
  have hB : bw G.1 ec_cl base f22 (len + 11) H := hB
  have h_len_22 : f22 (len) = .inl (G.2 0, 5, .inl (fun _ => 0)) := by rw [hf22, bu_n _ _ (by omega)]; exact h_len_21
  have h_len1_22 : f22 (len + 1) = .inl (G.2 0, 2560, .inl (fun _ => 0)) := by rw [hf22, bu_n _ _ (by omega)]; exact h_len1_21
  have h_len2_22 : f22 (len + 2) = .inl (G.2 0, 2560, .inl (fun _ => 0)) := by rw [hf22, bu_n _ _ (by omega)]; exact h_len2_21
  have h_len3_22 : f22 (len + 3) = .inl (G.2 0, 2560, .inl (fun _ => 0)) := by rw [hf22, bu_n _ _ (by omega)]; exact h_len3_21
  have h_len4_22 : f22 (len + 4) = .inl (G.2 0, 2560, .inl (fun _ => 0)) := by rw [hf22, bu_n _ _ (by omega)]; exact h_len4_21
  have h_len5_22 : f22 (len + 5) = .inl (G.2 0, 5, .inl (fun _ => 0)) := by rw [hf22, bu_n _ _ (by omega)]; exact h_len5_21
  have h_len6_22 : f22 (len + 6) = .inl (G.2 0, 5, .inl (fun _ => 0)) := by rw [hf22, bu_n _ _ (by omega)]; exact h_len6_21
  have h_len7_22 : f22 (len + 7) = .inl (G.2 0, 25, .inl (fun _ => 0)) := by rw [hf22, bu_n _ _ (by omega)]; exact h_len7_21
  have h_len8_22 : f22 (len + 8) = .inl (G.2 1, 5, .inl (fun _ => 0)) := by rw [hf22, bu_n _ _ (by omega)]; exact h_len8_21
  have h_len9_22 : f22 (len + 9) = .inl (G.2 0, 5, .inl (fun _ => 0)) := by rw [hf22, bu_n _ _ (by omega)]; exact h_len9_21
  have h_len10_22 : f22 (len + 10) = .inl (G.2 1, 5, .inl (fun _ => 0)) := by rw [hf22, bu_n _ _ (by omega)]; exact h_len10_21
  have h_o_22 : f22 (o) = .inr (6, [.int 0, .ref (base + (len)), .ref (base + (len + 1)), .ref (base + (len + 2)), .ref (base + (len + 3)), .ref (base + (len + 4)), .ref (base + (len + 5)), .ref (base + (len + 6)), .ref (base + (len + 7)), .ref (base + (len + 8)), .ref (base + (len + 9)), .ref (base + (len + 10)), .null, .null, .null, .null, .int 0, .null, .int 0, .null, .null, .null, .null, .null, .null, .null, .null]) := by rw [hf22, bu_s]
  have hx22 : ∀ x, x < len → x ≠ o → f22 x = f x := fun x z1 z2 => (congrFun hf22 x).trans ((bu_n _ _ (by omega)).trans (hx21 x z1 z2))
  refine lv_aload_n hx hb d_R_init_90 rfl (lv_at hl 0 rfl) ?_
  refine lv_iconst (v := nI 5) hx hb d_R_init_91 (by decide) ?_
  refine bw_newa (D := G.1) (N' := 5) (atype := .int) (ty := .int) hx hb (hts _ tw_51) rfl rfl hK 0 rfl (fun h => h) hB hS (nI_pos (by omega)) (nI_clamp (by omega)) (by show 5 * 4 ≤ 536870912; omega) (by show 11 + 1 ≤ 24; omega) (by show 10295 + 5 ≤ 13245; omega) d_R_init_92 (fun H hB hS => ?_)
  have hB : bw G.1 ec_cl base (bu f22 (len + 11) (.inl (G.2 0, 5, .inl (fun _ => 0)))) (len + 12) H := hB
  obtain ⟨f23, hf23⟩ : ∃ g, g = bu f22 (len + 11) (.inl (G.2 0, 5, .inl (fun _ => 0))) := ⟨_, rfl⟩
  rw [← hf23] at hB
  have hB : bw G.1 ec_cl base f23 (len + 12) H := hB
  have h_o_23 : f23 (o) = .inr (6, [.int 0, .ref (base + (len)), .ref (base + (len + 1)), .ref (base + (len + 2)), .ref (base + (len + 3)), .ref (base + (len + 4)), .ref (base + (len + 5)), .ref (base + (len + 6)), .ref (base + (len + 7)), .ref (base + (len + 8)), .ref (base + (len + 9)), .ref (base + (len + 10)), .null, .null, .null, .null, .int 0, .null, .int 0, .null, .null, .null, .null, .null, .null, .null, .null]) := by rw [hf23, bu_n _ _ (by omega)]; exact h_o_22
  have h_len_23 : f23 (len) = .inl (G.2 0, 5, .inl (fun _ => 0)) := by rw [hf23, bu_n _ _ (by omega)]; exact h_len_22
  have h_len1_23 : f23 (len + 1) = .inl (G.2 0, 2560, .inl (fun _ => 0)) := by rw [hf23, bu_n _ _ (by omega)]; exact h_len1_22
  have h_len2_23 : f23 (len + 2) = .inl (G.2 0, 2560, .inl (fun _ => 0)) := by rw [hf23, bu_n _ _ (by omega)]; exact h_len2_22
  have h_len3_23 : f23 (len + 3) = .inl (G.2 0, 2560, .inl (fun _ => 0)) := by rw [hf23, bu_n _ _ (by omega)]; exact h_len3_22
  have h_len4_23 : f23 (len + 4) = .inl (G.2 0, 2560, .inl (fun _ => 0)) := by rw [hf23, bu_n _ _ (by omega)]; exact h_len4_22
  have h_len5_23 : f23 (len + 5) = .inl (G.2 0, 5, .inl (fun _ => 0)) := by rw [hf23, bu_n _ _ (by omega)]; exact h_len5_22
  have h_len6_23 : f23 (len + 6) = .inl (G.2 0, 5, .inl (fun _ => 0)) := by rw [hf23, bu_n _ _ (by omega)]; exact h_len6_22
  have h_len7_23 : f23 (len + 7) = .inl (G.2 0, 25, .inl (fun _ => 0)) := by rw [hf23, bu_n _ _ (by omega)]; exact h_len7_22
  have h_len8_23 : f23 (len + 8) = .inl (G.2 1, 5, .inl (fun _ => 0)) := by rw [hf23, bu_n _ _ (by omega)]; exact h_len8_22
  have h_len9_23 : f23 (len + 9) = .inl (G.2 0, 5, .inl (fun _ => 0)) := by rw [hf23, bu_n _ _ (by omega)]; exact h_len9_22
  have h_len10_23 : f23 (len + 10) = .inl (G.2 1, 5, .inl (fun _ => 0)) := by rw [hf23, bu_n _ _ (by omega)]; exact h_len10_22
  have h_len11_23 : f23 (len + 11) = .inl (G.2 0, 5, .inl (fun _ => 0)) := by rw [hf23, bu_s]
  have hx23 : ∀ x, x < len → x ≠ o → f23 x = f x := fun x z1 z2 => (congrFun hf23 x).trans ((bu_n _ _ (by omega)).trans (hx22 x z1 z2))
  refine W.widen (k := 12) (n := 10300) (by omega) (by omega) ?_
  refine bw_putF (D := G.1) (ci := 6) (C := "TwoPhaseCutsModel") (T := T_R) (N := 27) (v := .ref (base + (len + 11))) (ty := .array .int) (o := o) hx hb hts ui_R ty_R tyo_R nmo_R hown hK hB hS (by omega) h_o_23 rfl 12 (by decide) (hts _ tw_386) (fun _ h9 => h9) rfl hin rfl (by decide +kernel) rfl rfl (Nat.le_of_ble_eq_true rfl) d_R_init_94 (fun H locs hB hS => ?_)
  have hB : bw G.1 ec_cl base (bu f23 (o) (.inr (6, [.int 0, .ref (base + (len)), .ref (base + (len + 1)), .ref (base + (len + 2)), .ref (base + (len + 3)), .ref (base + (len + 4)), .ref (base + (len + 5)), .ref (base + (len + 6)), .ref (base + (len + 7)), .ref (base + (len + 8)), .ref (base + (len + 9)), .ref (base + (len + 10)), .ref (base + (len + 11)), .null, .null, .null, .int 0, .null, .int 0, .null, .null, .null, .null, .null, .null, .null, .null]))) (len + 12) H := hB
  obtain ⟨f24, hf24⟩ : ∃ g, g = bu f23 (o) (.inr (6, [.int 0, .ref (base + (len)), .ref (base + (len + 1)), .ref (base + (len + 2)), .ref (base + (len + 3)), .ref (base + (len + 4)), .ref (base + (len + 5)), .ref (base + (len + 6)), .ref (base + (len + 7)), .ref (base + (len + 8)), .ref (base + (len + 9)), .ref (base + (len + 10)), .ref (base + (len + 11)), .null, .null, .null, .int 0, .null, .int 0, .null, .null, .null, .null, .null, .null, .null, .null])) := ⟨_, rfl⟩
  rw [← hf24] at hB
  have hB : bw G.1 ec_cl base f24 (len + 12) H := hB
  have h_len_24 : f24 (len) = .inl (G.2 0, 5, .inl (fun _ => 0)) := by rw [hf24, bu_n _ _ (by omega)]; exact h_len_23
  have h_len1_24 : f24 (len + 1) = .inl (G.2 0, 2560, .inl (fun _ => 0)) := by rw [hf24, bu_n _ _ (by omega)]; exact h_len1_23
  have h_len2_24 : f24 (len + 2) = .inl (G.2 0, 2560, .inl (fun _ => 0)) := by rw [hf24, bu_n _ _ (by omega)]; exact h_len2_23
  have h_len3_24 : f24 (len + 3) = .inl (G.2 0, 2560, .inl (fun _ => 0)) := by rw [hf24, bu_n _ _ (by omega)]; exact h_len3_23
  have h_len4_24 : f24 (len + 4) = .inl (G.2 0, 2560, .inl (fun _ => 0)) := by rw [hf24, bu_n _ _ (by omega)]; exact h_len4_23
  have h_len5_24 : f24 (len + 5) = .inl (G.2 0, 5, .inl (fun _ => 0)) := by rw [hf24, bu_n _ _ (by omega)]; exact h_len5_23
  have h_len6_24 : f24 (len + 6) = .inl (G.2 0, 5, .inl (fun _ => 0)) := by rw [hf24, bu_n _ _ (by omega)]; exact h_len6_23
  have h_len7_24 : f24 (len + 7) = .inl (G.2 0, 25, .inl (fun _ => 0)) := by rw [hf24, bu_n _ _ (by omega)]; exact h_len7_23
  have h_len8_24 : f24 (len + 8) = .inl (G.2 1, 5, .inl (fun _ => 0)) := by rw [hf24, bu_n _ _ (by omega)]; exact h_len8_23
  have h_len9_24 : f24 (len + 9) = .inl (G.2 0, 5, .inl (fun _ => 0)) := by rw [hf24, bu_n _ _ (by omega)]; exact h_len9_23
  have h_len10_24 : f24 (len + 10) = .inl (G.2 1, 5, .inl (fun _ => 0)) := by rw [hf24, bu_n _ _ (by omega)]; exact h_len10_23
  have h_len11_24 : f24 (len + 11) = .inl (G.2 0, 5, .inl (fun _ => 0)) := by rw [hf24, bu_n _ _ (by omega)]; exact h_len11_23
  have h_o_24 : f24 (o) = .inr (6, [.int 0, .ref (base + (len)), .ref (base + (len + 1)), .ref (base + (len + 2)), .ref (base + (len + 3)), .ref (base + (len + 4)), .ref (base + (len + 5)), .ref (base + (len + 6)), .ref (base + (len + 7)), .ref (base + (len + 8)), .ref (base + (len + 9)), .ref (base + (len + 10)), .ref (base + (len + 11)), .null, .null, .null, .int 0, .null, .int 0, .null, .null, .null, .null, .null, .null, .null, .null]) := by rw [hf24, bu_s]
  have hx24 : ∀ x, x < len → x ≠ o → f24 x = f x := fun x z1 z2 => (congrFun hf24 x).trans ((bu_n _ _ (by omega)).trans (hx23 x z1 z2))
  refine lv_aload_n hx hb d_R_init_97 rfl (lv_at hl 0 rfl) ?_
  refine lv_iconst (v := nI 5) hx hb d_R_init_98 (by decide) ?_
  refine bw_newa (D := G.1) (N' := 5) (atype := .int) (ty := .int) hx hb (hts _ tw_51) rfl rfl hK 0 rfl (fun h => h) hB hS (nI_pos (by omega)) (nI_clamp (by omega)) (by show 5 * 4 ≤ 536870912; omega) (by show 12 + 1 ≤ 24; omega) (by show 10300 + 5 ≤ 13245; omega) d_R_init_99 (fun H hB hS => ?_)
  have hB : bw G.1 ec_cl base (bu f24 (len + 12) (.inl (G.2 0, 5, .inl (fun _ => 0)))) (len + 13) H := hB
  obtain ⟨f25, hf25⟩ : ∃ g, g = bu f24 (len + 12) (.inl (G.2 0, 5, .inl (fun _ => 0))) := ⟨_, rfl⟩
  rw [← hf25] at hB
  have hB : bw G.1 ec_cl base f25 (len + 13) H := hB
  have h_o_25 : f25 (o) = .inr (6, [.int 0, .ref (base + (len)), .ref (base + (len + 1)), .ref (base + (len + 2)), .ref (base + (len + 3)), .ref (base + (len + 4)), .ref (base + (len + 5)), .ref (base + (len + 6)), .ref (base + (len + 7)), .ref (base + (len + 8)), .ref (base + (len + 9)), .ref (base + (len + 10)), .ref (base + (len + 11)), .null, .null, .null, .int 0, .null, .int 0, .null, .null, .null, .null, .null, .null, .null, .null]) := by rw [hf25, bu_n _ _ (by omega)]; exact h_o_24
  have h_len_25 : f25 (len) = .inl (G.2 0, 5, .inl (fun _ => 0)) := by rw [hf25, bu_n _ _ (by omega)]; exact h_len_24
  have h_len1_25 : f25 (len + 1) = .inl (G.2 0, 2560, .inl (fun _ => 0)) := by rw [hf25, bu_n _ _ (by omega)]; exact h_len1_24
  have h_len2_25 : f25 (len + 2) = .inl (G.2 0, 2560, .inl (fun _ => 0)) := by rw [hf25, bu_n _ _ (by omega)]; exact h_len2_24
  have h_len3_25 : f25 (len + 3) = .inl (G.2 0, 2560, .inl (fun _ => 0)) := by rw [hf25, bu_n _ _ (by omega)]; exact h_len3_24
  have h_len4_25 : f25 (len + 4) = .inl (G.2 0, 2560, .inl (fun _ => 0)) := by rw [hf25, bu_n _ _ (by omega)]; exact h_len4_24
  have h_len5_25 : f25 (len + 5) = .inl (G.2 0, 5, .inl (fun _ => 0)) := by rw [hf25, bu_n _ _ (by omega)]; exact h_len5_24
  have h_len6_25 : f25 (len + 6) = .inl (G.2 0, 5, .inl (fun _ => 0)) := by rw [hf25, bu_n _ _ (by omega)]; exact h_len6_24
  have h_len7_25 : f25 (len + 7) = .inl (G.2 0, 25, .inl (fun _ => 0)) := by rw [hf25, bu_n _ _ (by omega)]; exact h_len7_24
  have h_len8_25 : f25 (len + 8) = .inl (G.2 1, 5, .inl (fun _ => 0)) := by rw [hf25, bu_n _ _ (by omega)]; exact h_len8_24
  have h_len9_25 : f25 (len + 9) = .inl (G.2 0, 5, .inl (fun _ => 0)) := by rw [hf25, bu_n _ _ (by omega)]; exact h_len9_24
  have h_len10_25 : f25 (len + 10) = .inl (G.2 1, 5, .inl (fun _ => 0)) := by rw [hf25, bu_n _ _ (by omega)]; exact h_len10_24
  have h_len11_25 : f25 (len + 11) = .inl (G.2 0, 5, .inl (fun _ => 0)) := by rw [hf25, bu_n _ _ (by omega)]; exact h_len11_24
  have h_len12_25 : f25 (len + 12) = .inl (G.2 0, 5, .inl (fun _ => 0)) := by rw [hf25, bu_s]
  have hx25 : ∀ x, x < len → x ≠ o → f25 x = f x := fun x z1 z2 => (congrFun hf25 x).trans ((bu_n _ _ (by omega)).trans (hx24 x z1 z2))
  refine W.widen (k := 13) (n := 10305) (by omega) (by omega) ?_
  refine bw_putF (D := G.1) (ci := 6) (C := "TwoPhaseCutsModel") (T := T_R) (N := 27) (v := .ref (base + (len + 12))) (ty := .array .int) (o := o) hx hb hts ui_R ty_R tyo_R nmo_R hown hK hB hS (by omega) h_o_25 rfl 13 (by decide) (hts _ tw_387) (fun _ h9 => h9) rfl hin rfl (by decide +kernel) rfl rfl (Nat.le_of_ble_eq_true rfl) d_R_init_101 (fun H locs hB hS => ?_)
  have hB : bw G.1 ec_cl base (bu f25 (o) (.inr (6, [.int 0, .ref (base + (len)), .ref (base + (len + 1)), .ref (base + (len + 2)), .ref (base + (len + 3)), .ref (base + (len + 4)), .ref (base + (len + 5)), .ref (base + (len + 6)), .ref (base + (len + 7)), .ref (base + (len + 8)), .ref (base + (len + 9)), .ref (base + (len + 10)), .ref (base + (len + 11)), .ref (base + (len + 12)), .null, .null, .int 0, .null, .int 0, .null, .null, .null, .null, .null, .null, .null, .null]))) (len + 13) H := hB
  obtain ⟨f26, hf26⟩ : ∃ g, g = bu f25 (o) (.inr (6, [.int 0, .ref (base + (len)), .ref (base + (len + 1)), .ref (base + (len + 2)), .ref (base + (len + 3)), .ref (base + (len + 4)), .ref (base + (len + 5)), .ref (base + (len + 6)), .ref (base + (len + 7)), .ref (base + (len + 8)), .ref (base + (len + 9)), .ref (base + (len + 10)), .ref (base + (len + 11)), .ref (base + (len + 12)), .null, .null, .int 0, .null, .int 0, .null, .null, .null, .null, .null, .null, .null, .null])) := ⟨_, rfl⟩
  rw [← hf26] at hB
  have hB : bw G.1 ec_cl base f26 (len + 13) H := hB
  have h_len_26 : f26 (len) = .inl (G.2 0, 5, .inl (fun _ => 0)) := by rw [hf26, bu_n _ _ (by omega)]; exact h_len_25
  have h_len1_26 : f26 (len + 1) = .inl (G.2 0, 2560, .inl (fun _ => 0)) := by rw [hf26, bu_n _ _ (by omega)]; exact h_len1_25
  have h_len2_26 : f26 (len + 2) = .inl (G.2 0, 2560, .inl (fun _ => 0)) := by rw [hf26, bu_n _ _ (by omega)]; exact h_len2_25
  have h_len3_26 : f26 (len + 3) = .inl (G.2 0, 2560, .inl (fun _ => 0)) := by rw [hf26, bu_n _ _ (by omega)]; exact h_len3_25
  have h_len4_26 : f26 (len + 4) = .inl (G.2 0, 2560, .inl (fun _ => 0)) := by rw [hf26, bu_n _ _ (by omega)]; exact h_len4_25
  have h_len5_26 : f26 (len + 5) = .inl (G.2 0, 5, .inl (fun _ => 0)) := by rw [hf26, bu_n _ _ (by omega)]; exact h_len5_25
  have h_len6_26 : f26 (len + 6) = .inl (G.2 0, 5, .inl (fun _ => 0)) := by rw [hf26, bu_n _ _ (by omega)]; exact h_len6_25
  have h_len7_26 : f26 (len + 7) = .inl (G.2 0, 25, .inl (fun _ => 0)) := by rw [hf26, bu_n _ _ (by omega)]; exact h_len7_25
  have h_len8_26 : f26 (len + 8) = .inl (G.2 1, 5, .inl (fun _ => 0)) := by rw [hf26, bu_n _ _ (by omega)]; exact h_len8_25
  have h_len9_26 : f26 (len + 9) = .inl (G.2 0, 5, .inl (fun _ => 0)) := by rw [hf26, bu_n _ _ (by omega)]; exact h_len9_25
  have h_len10_26 : f26 (len + 10) = .inl (G.2 1, 5, .inl (fun _ => 0)) := by rw [hf26, bu_n _ _ (by omega)]; exact h_len10_25
  have h_len11_26 : f26 (len + 11) = .inl (G.2 0, 5, .inl (fun _ => 0)) := by rw [hf26, bu_n _ _ (by omega)]; exact h_len11_25
  have h_len12_26 : f26 (len + 12) = .inl (G.2 0, 5, .inl (fun _ => 0)) := by rw [hf26, bu_n _ _ (by omega)]; exact h_len12_25
  have h_o_26 : f26 (o) = .inr (6, [.int 0, .ref (base + (len)), .ref (base + (len + 1)), .ref (base + (len + 2)), .ref (base + (len + 3)), .ref (base + (len + 4)), .ref (base + (len + 5)), .ref (base + (len + 6)), .ref (base + (len + 7)), .ref (base + (len + 8)), .ref (base + (len + 9)), .ref (base + (len + 10)), .ref (base + (len + 11)), .ref (base + (len + 12)), .null, .null, .int 0, .null, .int 0, .null, .null, .null, .null, .null, .null, .null, .null]) := by rw [hf26, bu_s]
  have hx26 : ∀ x, x < len → x ≠ o → f26 x = f x := fun x z1 z2 => (congrFun hf26 x).trans ((bu_n _ _ (by omega)).trans (hx25 x z1 z2))
  refine lv_aload_n hx hb d_R_init_104 rfl (lv_at hl 0 rfl) ?_
  refine lv_iconst (v := nI 5) hx hb d_R_init_105 (by decide) ?_
  refine bw_newa (D := G.1) (N' := 5) (atype := .int) (ty := .int) hx hb (hts _ tw_51) rfl rfl hK 0 rfl (fun h => h) hB hS (nI_pos (by omega)) (nI_clamp (by omega)) (by show 5 * 4 ≤ 536870912; omega) (by show 13 + 1 ≤ 24; omega) (by show 10305 + 5 ≤ 13245; omega) d_R_init_106 (fun H hB hS => ?_)
  have hB : bw G.1 ec_cl base (bu f26 (len + 13) (.inl (G.2 0, 5, .inl (fun _ => 0)))) (len + 14) H := hB
  obtain ⟨f27, hf27⟩ : ∃ g, g = bu f26 (len + 13) (.inl (G.2 0, 5, .inl (fun _ => 0))) := ⟨_, rfl⟩
  rw [← hf27] at hB
  have hB : bw G.1 ec_cl base f27 (len + 14) H := hB
  have h_o_27 : f27 (o) = .inr (6, [.int 0, .ref (base + (len)), .ref (base + (len + 1)), .ref (base + (len + 2)), .ref (base + (len + 3)), .ref (base + (len + 4)), .ref (base + (len + 5)), .ref (base + (len + 6)), .ref (base + (len + 7)), .ref (base + (len + 8)), .ref (base + (len + 9)), .ref (base + (len + 10)), .ref (base + (len + 11)), .ref (base + (len + 12)), .null, .null, .int 0, .null, .int 0, .null, .null, .null, .null, .null, .null, .null, .null]) := by rw [hf27, bu_n _ _ (by omega)]; exact h_o_26
  have h_len_27 : f27 (len) = .inl (G.2 0, 5, .inl (fun _ => 0)) := by rw [hf27, bu_n _ _ (by omega)]; exact h_len_26
  have h_len1_27 : f27 (len + 1) = .inl (G.2 0, 2560, .inl (fun _ => 0)) := by rw [hf27, bu_n _ _ (by omega)]; exact h_len1_26
  have h_len2_27 : f27 (len + 2) = .inl (G.2 0, 2560, .inl (fun _ => 0)) := by rw [hf27, bu_n _ _ (by omega)]; exact h_len2_26
  have h_len3_27 : f27 (len + 3) = .inl (G.2 0, 2560, .inl (fun _ => 0)) := by rw [hf27, bu_n _ _ (by omega)]; exact h_len3_26
  have h_len4_27 : f27 (len + 4) = .inl (G.2 0, 2560, .inl (fun _ => 0)) := by rw [hf27, bu_n _ _ (by omega)]; exact h_len4_26
  have h_len5_27 : f27 (len + 5) = .inl (G.2 0, 5, .inl (fun _ => 0)) := by rw [hf27, bu_n _ _ (by omega)]; exact h_len5_26
  have h_len6_27 : f27 (len + 6) = .inl (G.2 0, 5, .inl (fun _ => 0)) := by rw [hf27, bu_n _ _ (by omega)]; exact h_len6_26
  have h_len7_27 : f27 (len + 7) = .inl (G.2 0, 25, .inl (fun _ => 0)) := by rw [hf27, bu_n _ _ (by omega)]; exact h_len7_26
  have h_len8_27 : f27 (len + 8) = .inl (G.2 1, 5, .inl (fun _ => 0)) := by rw [hf27, bu_n _ _ (by omega)]; exact h_len8_26
  have h_len9_27 : f27 (len + 9) = .inl (G.2 0, 5, .inl (fun _ => 0)) := by rw [hf27, bu_n _ _ (by omega)]; exact h_len9_26
  have h_len10_27 : f27 (len + 10) = .inl (G.2 1, 5, .inl (fun _ => 0)) := by rw [hf27, bu_n _ _ (by omega)]; exact h_len10_26
  have h_len11_27 : f27 (len + 11) = .inl (G.2 0, 5, .inl (fun _ => 0)) := by rw [hf27, bu_n _ _ (by omega)]; exact h_len11_26
  have h_len12_27 : f27 (len + 12) = .inl (G.2 0, 5, .inl (fun _ => 0)) := by rw [hf27, bu_n _ _ (by omega)]; exact h_len12_26
  have h_len13_27 : f27 (len + 13) = .inl (G.2 0, 5, .inl (fun _ => 0)) := by rw [hf27, bu_s]
  have hx27 : ∀ x, x < len → x ≠ o → f27 x = f x := fun x z1 z2 => (congrFun hf27 x).trans ((bu_n _ _ (by omega)).trans (hx26 x z1 z2))
  refine W.widen (k := 14) (n := 10310) (by omega) (by omega) ?_
  refine bw_putF (D := G.1) (ci := 6) (C := "TwoPhaseCutsModel") (T := T_R) (N := 27) (v := .ref (base + (len + 13))) (ty := .array .int) (o := o) hx hb hts ui_R ty_R tyo_R nmo_R hown hK hB hS (by omega) h_o_27 rfl 14 (by decide) (hts _ tw_388) (fun _ h9 => h9) rfl hin rfl (by decide +kernel) rfl rfl (Nat.le_of_ble_eq_true rfl) d_R_init_108 (fun H locs hB hS => ?_)
  have hB : bw G.1 ec_cl base (bu f27 (o) (.inr (6, [.int 0, .ref (base + (len)), .ref (base + (len + 1)), .ref (base + (len + 2)), .ref (base + (len + 3)), .ref (base + (len + 4)), .ref (base + (len + 5)), .ref (base + (len + 6)), .ref (base + (len + 7)), .ref (base + (len + 8)), .ref (base + (len + 9)), .ref (base + (len + 10)), .ref (base + (len + 11)), .ref (base + (len + 12)), .ref (base + (len + 13)), .null, .int 0, .null, .int 0, .null, .null, .null, .null, .null, .null, .null, .null]))) (len + 14) H := hB
  obtain ⟨f28, hf28⟩ : ∃ g, g = bu f27 (o) (.inr (6, [.int 0, .ref (base + (len)), .ref (base + (len + 1)), .ref (base + (len + 2)), .ref (base + (len + 3)), .ref (base + (len + 4)), .ref (base + (len + 5)), .ref (base + (len + 6)), .ref (base + (len + 7)), .ref (base + (len + 8)), .ref (base + (len + 9)), .ref (base + (len + 10)), .ref (base + (len + 11)), .ref (base + (len + 12)), .ref (base + (len + 13)), .null, .int 0, .null, .int 0, .null, .null, .null, .null, .null, .null, .null, .null])) := ⟨_, rfl⟩
  rw [← hf28] at hB
  have hB : bw G.1 ec_cl base f28 (len + 14) H := hB
  have h_len_28 : f28 (len) = .inl (G.2 0, 5, .inl (fun _ => 0)) := by rw [hf28, bu_n _ _ (by omega)]; exact h_len_27
  have h_len1_28 : f28 (len + 1) = .inl (G.2 0, 2560, .inl (fun _ => 0)) := by rw [hf28, bu_n _ _ (by omega)]; exact h_len1_27
  have h_len2_28 : f28 (len + 2) = .inl (G.2 0, 2560, .inl (fun _ => 0)) := by rw [hf28, bu_n _ _ (by omega)]; exact h_len2_27
  have h_len3_28 : f28 (len + 3) = .inl (G.2 0, 2560, .inl (fun _ => 0)) := by rw [hf28, bu_n _ _ (by omega)]; exact h_len3_27
  have h_len4_28 : f28 (len + 4) = .inl (G.2 0, 2560, .inl (fun _ => 0)) := by rw [hf28, bu_n _ _ (by omega)]; exact h_len4_27
  have h_len5_28 : f28 (len + 5) = .inl (G.2 0, 5, .inl (fun _ => 0)) := by rw [hf28, bu_n _ _ (by omega)]; exact h_len5_27
  have h_len6_28 : f28 (len + 6) = .inl (G.2 0, 5, .inl (fun _ => 0)) := by rw [hf28, bu_n _ _ (by omega)]; exact h_len6_27
  have h_len7_28 : f28 (len + 7) = .inl (G.2 0, 25, .inl (fun _ => 0)) := by rw [hf28, bu_n _ _ (by omega)]; exact h_len7_27
  have h_len8_28 : f28 (len + 8) = .inl (G.2 1, 5, .inl (fun _ => 0)) := by rw [hf28, bu_n _ _ (by omega)]; exact h_len8_27
  have h_len9_28 : f28 (len + 9) = .inl (G.2 0, 5, .inl (fun _ => 0)) := by rw [hf28, bu_n _ _ (by omega)]; exact h_len9_27
  have h_len10_28 : f28 (len + 10) = .inl (G.2 1, 5, .inl (fun _ => 0)) := by rw [hf28, bu_n _ _ (by omega)]; exact h_len10_27
  have h_len11_28 : f28 (len + 11) = .inl (G.2 0, 5, .inl (fun _ => 0)) := by rw [hf28, bu_n _ _ (by omega)]; exact h_len11_27
  have h_len12_28 : f28 (len + 12) = .inl (G.2 0, 5, .inl (fun _ => 0)) := by rw [hf28, bu_n _ _ (by omega)]; exact h_len12_27
  have h_len13_28 : f28 (len + 13) = .inl (G.2 0, 5, .inl (fun _ => 0)) := by rw [hf28, bu_n _ _ (by omega)]; exact h_len13_27
  have h_o_28 : f28 (o) = .inr (6, [.int 0, .ref (base + (len)), .ref (base + (len + 1)), .ref (base + (len + 2)), .ref (base + (len + 3)), .ref (base + (len + 4)), .ref (base + (len + 5)), .ref (base + (len + 6)), .ref (base + (len + 7)), .ref (base + (len + 8)), .ref (base + (len + 9)), .ref (base + (len + 10)), .ref (base + (len + 11)), .ref (base + (len + 12)), .ref (base + (len + 13)), .null, .int 0, .null, .int 0, .null, .null, .null, .null, .null, .null, .null, .null]) := by rw [hf28, bu_s]
  have hx28 : ∀ x, x < len → x ≠ o → f28 x = f x := fun x z1 z2 => (congrFun hf28 x).trans ((bu_n _ _ (by omega)).trans (hx27 x z1 z2))
  refine lv_aload_n hx hb d_R_init_111 rfl (lv_at hl 0 rfl) ?_
  refine lv_iconst (v := nI 5) hx hb d_R_init_112 (by decide) ?_
  refine bw_newa (D := G.1) (N' := 5) (atype := .int) (ty := .int) hx hb (hts _ tw_51) rfl rfl hK 0 rfl (fun h => h) hB hS (nI_pos (by omega)) (nI_clamp (by omega)) (by show 5 * 4 ≤ 536870912; omega) (by show 14 + 1 ≤ 24; omega) (by show 10310 + 5 ≤ 13245; omega) d_R_init_113 (fun H hB hS => ?_)
  have hB : bw G.1 ec_cl base (bu f28 (len + 14) (.inl (G.2 0, 5, .inl (fun _ => 0)))) (len + 15) H := hB
  obtain ⟨f29, hf29⟩ : ∃ g, g = bu f28 (len + 14) (.inl (G.2 0, 5, .inl (fun _ => 0))) := ⟨_, rfl⟩
  rw [← hf29] at hB
  have hB : bw G.1 ec_cl base f29 (len + 15) H := hB
  have h_o_29 : f29 (o) = .inr (6, [.int 0, .ref (base + (len)), .ref (base + (len + 1)), .ref (base + (len + 2)), .ref (base + (len + 3)), .ref (base + (len + 4)), .ref (base + (len + 5)), .ref (base + (len + 6)), .ref (base + (len + 7)), .ref (base + (len + 8)), .ref (base + (len + 9)), .ref (base + (len + 10)), .ref (base + (len + 11)), .ref (base + (len + 12)), .ref (base + (len + 13)), .null, .int 0, .null, .int 0, .null, .null, .null, .null, .null, .null, .null, .null]) := by rw [hf29, bu_n _ _ (by omega)]; exact h_o_28
  have h_len_29 : f29 (len) = .inl (G.2 0, 5, .inl (fun _ => 0)) := by rw [hf29, bu_n _ _ (by omega)]; exact h_len_28
  have h_len1_29 : f29 (len + 1) = .inl (G.2 0, 2560, .inl (fun _ => 0)) := by rw [hf29, bu_n _ _ (by omega)]; exact h_len1_28
  have h_len2_29 : f29 (len + 2) = .inl (G.2 0, 2560, .inl (fun _ => 0)) := by rw [hf29, bu_n _ _ (by omega)]; exact h_len2_28
  have h_len3_29 : f29 (len + 3) = .inl (G.2 0, 2560, .inl (fun _ => 0)) := by rw [hf29, bu_n _ _ (by omega)]; exact h_len3_28
  have h_len4_29 : f29 (len + 4) = .inl (G.2 0, 2560, .inl (fun _ => 0)) := by rw [hf29, bu_n _ _ (by omega)]; exact h_len4_28
  have h_len5_29 : f29 (len + 5) = .inl (G.2 0, 5, .inl (fun _ => 0)) := by rw [hf29, bu_n _ _ (by omega)]; exact h_len5_28
  have h_len6_29 : f29 (len + 6) = .inl (G.2 0, 5, .inl (fun _ => 0)) := by rw [hf29, bu_n _ _ (by omega)]; exact h_len6_28
  have h_len7_29 : f29 (len + 7) = .inl (G.2 0, 25, .inl (fun _ => 0)) := by rw [hf29, bu_n _ _ (by omega)]; exact h_len7_28
  have h_len8_29 : f29 (len + 8) = .inl (G.2 1, 5, .inl (fun _ => 0)) := by rw [hf29, bu_n _ _ (by omega)]; exact h_len8_28
  have h_len9_29 : f29 (len + 9) = .inl (G.2 0, 5, .inl (fun _ => 0)) := by rw [hf29, bu_n _ _ (by omega)]; exact h_len9_28
  have h_len10_29 : f29 (len + 10) = .inl (G.2 1, 5, .inl (fun _ => 0)) := by rw [hf29, bu_n _ _ (by omega)]; exact h_len10_28
  have h_len11_29 : f29 (len + 11) = .inl (G.2 0, 5, .inl (fun _ => 0)) := by rw [hf29, bu_n _ _ (by omega)]; exact h_len11_28
  have h_len12_29 : f29 (len + 12) = .inl (G.2 0, 5, .inl (fun _ => 0)) := by rw [hf29, bu_n _ _ (by omega)]; exact h_len12_28
  have h_len13_29 : f29 (len + 13) = .inl (G.2 0, 5, .inl (fun _ => 0)) := by rw [hf29, bu_n _ _ (by omega)]; exact h_len13_28
  have h_len14_29 : f29 (len + 14) = .inl (G.2 0, 5, .inl (fun _ => 0)) := by rw [hf29, bu_s]
  have hx29 : ∀ x, x < len → x ≠ o → f29 x = f x := fun x z1 z2 => (congrFun hf29 x).trans ((bu_n _ _ (by omega)).trans (hx28 x z1 z2))
  refine W.widen (k := 15) (n := 10315) (by omega) (by omega) ?_
  refine bw_putF (D := G.1) (ci := 6) (C := "TwoPhaseCutsModel") (T := T_R) (N := 27) (v := .ref (base + (len + 14))) (ty := .array .int) (o := o) hx hb hts ui_R ty_R tyo_R nmo_R hown hK hB hS (by omega) h_o_29 rfl 15 (by decide) (hts _ tw_389) (fun _ h9 => h9) rfl hin rfl (by decide +kernel) rfl rfl (Nat.le_of_ble_eq_true rfl) d_R_init_115 (fun H locs hB hS => ?_)
  have hB : bw G.1 ec_cl base (bu f29 (o) (.inr (6, [.int 0, .ref (base + (len)), .ref (base + (len + 1)), .ref (base + (len + 2)), .ref (base + (len + 3)), .ref (base + (len + 4)), .ref (base + (len + 5)), .ref (base + (len + 6)), .ref (base + (len + 7)), .ref (base + (len + 8)), .ref (base + (len + 9)), .ref (base + (len + 10)), .ref (base + (len + 11)), .ref (base + (len + 12)), .ref (base + (len + 13)), .ref (base + (len + 14)), .int 0, .null, .int 0, .null, .null, .null, .null, .null, .null, .null, .null]))) (len + 15) H := hB
  obtain ⟨f30, hf30⟩ : ∃ g, g = bu f29 (o) (.inr (6, [.int 0, .ref (base + (len)), .ref (base + (len + 1)), .ref (base + (len + 2)), .ref (base + (len + 3)), .ref (base + (len + 4)), .ref (base + (len + 5)), .ref (base + (len + 6)), .ref (base + (len + 7)), .ref (base + (len + 8)), .ref (base + (len + 9)), .ref (base + (len + 10)), .ref (base + (len + 11)), .ref (base + (len + 12)), .ref (base + (len + 13)), .ref (base + (len + 14)), .int 0, .null, .int 0, .null, .null, .null, .null, .null, .null, .null, .null])) := ⟨_, rfl⟩
  rw [← hf30] at hB
  have hB : bw G.1 ec_cl base f30 (len + 15) H := hB
  have h_len_30 : f30 (len) = .inl (G.2 0, 5, .inl (fun _ => 0)) := by rw [hf30, bu_n _ _ (by omega)]; exact h_len_29
  have h_len1_30 : f30 (len + 1) = .inl (G.2 0, 2560, .inl (fun _ => 0)) := by rw [hf30, bu_n _ _ (by omega)]; exact h_len1_29
  have h_len2_30 : f30 (len + 2) = .inl (G.2 0, 2560, .inl (fun _ => 0)) := by rw [hf30, bu_n _ _ (by omega)]; exact h_len2_29
  have h_len3_30 : f30 (len + 3) = .inl (G.2 0, 2560, .inl (fun _ => 0)) := by rw [hf30, bu_n _ _ (by omega)]; exact h_len3_29
  have h_len4_30 : f30 (len + 4) = .inl (G.2 0, 2560, .inl (fun _ => 0)) := by rw [hf30, bu_n _ _ (by omega)]; exact h_len4_29
  have h_len5_30 : f30 (len + 5) = .inl (G.2 0, 5, .inl (fun _ => 0)) := by rw [hf30, bu_n _ _ (by omega)]; exact h_len5_29
  have h_len6_30 : f30 (len + 6) = .inl (G.2 0, 5, .inl (fun _ => 0)) := by rw [hf30, bu_n _ _ (by omega)]; exact h_len6_29
  have h_len7_30 : f30 (len + 7) = .inl (G.2 0, 25, .inl (fun _ => 0)) := by rw [hf30, bu_n _ _ (by omega)]; exact h_len7_29
  have h_len8_30 : f30 (len + 8) = .inl (G.2 1, 5, .inl (fun _ => 0)) := by rw [hf30, bu_n _ _ (by omega)]; exact h_len8_29
  have h_len9_30 : f30 (len + 9) = .inl (G.2 0, 5, .inl (fun _ => 0)) := by rw [hf30, bu_n _ _ (by omega)]; exact h_len9_29
  have h_len10_30 : f30 (len + 10) = .inl (G.2 1, 5, .inl (fun _ => 0)) := by rw [hf30, bu_n _ _ (by omega)]; exact h_len10_29
  have h_len11_30 : f30 (len + 11) = .inl (G.2 0, 5, .inl (fun _ => 0)) := by rw [hf30, bu_n _ _ (by omega)]; exact h_len11_29
  have h_len12_30 : f30 (len + 12) = .inl (G.2 0, 5, .inl (fun _ => 0)) := by rw [hf30, bu_n _ _ (by omega)]; exact h_len12_29
  have h_len13_30 : f30 (len + 13) = .inl (G.2 0, 5, .inl (fun _ => 0)) := by rw [hf30, bu_n _ _ (by omega)]; exact h_len13_29
  have h_len14_30 : f30 (len + 14) = .inl (G.2 0, 5, .inl (fun _ => 0)) := by rw [hf30, bu_n _ _ (by omega)]; exact h_len14_29
  have h_o_30 : f30 (o) = .inr (6, [.int 0, .ref (base + (len)), .ref (base + (len + 1)), .ref (base + (len + 2)), .ref (base + (len + 3)), .ref (base + (len + 4)), .ref (base + (len + 5)), .ref (base + (len + 6)), .ref (base + (len + 7)), .ref (base + (len + 8)), .ref (base + (len + 9)), .ref (base + (len + 10)), .ref (base + (len + 11)), .ref (base + (len + 12)), .ref (base + (len + 13)), .ref (base + (len + 14)), .int 0, .null, .int 0, .null, .null, .null, .null, .null, .null, .null, .null]) := by rw [hf30, bu_s]
  have hx30 : ∀ x, x < len → x ≠ o → f30 x = f x := fun x z1 z2 => (congrFun hf30 x).trans ((bu_n _ _ (by omega)).trans (hx29 x z1 z2))
  refine lv_aload_n hx hb d_R_init_118 rfl (lv_at hl 0 rfl) ?_
  refine lv_sipush (v := nI 520) hx hb d_R_init_119 (by decide) ?_
  refine bw_newa (D := G.1) (N' := 520) (atype := .int) (ty := .int) hx hb (hts _ tw_51) rfl rfl hK 0 rfl (fun h => h) hB hS (nI_pos (by omega)) (nI_clamp (by omega)) (by show 520 * 4 ≤ 536870912; omega) (by show 15 + 1 ≤ 24; omega) (by show 10315 + 520 ≤ 13245; omega) d_R_init_122 (fun H hB hS => ?_)
  have hB : bw G.1 ec_cl base (bu f30 (len + 15) (.inl (G.2 0, 520, .inl (fun _ => 0)))) (len + 16) H := hB
  obtain ⟨f31, hf31⟩ : ∃ g, g = bu f30 (len + 15) (.inl (G.2 0, 520, .inl (fun _ => 0))) := ⟨_, rfl⟩
  rw [← hf31] at hB
  have hB : bw G.1 ec_cl base f31 (len + 16) H := hB
  have h_o_31 : f31 (o) = .inr (6, [.int 0, .ref (base + (len)), .ref (base + (len + 1)), .ref (base + (len + 2)), .ref (base + (len + 3)), .ref (base + (len + 4)), .ref (base + (len + 5)), .ref (base + (len + 6)), .ref (base + (len + 7)), .ref (base + (len + 8)), .ref (base + (len + 9)), .ref (base + (len + 10)), .ref (base + (len + 11)), .ref (base + (len + 12)), .ref (base + (len + 13)), .ref (base + (len + 14)), .int 0, .null, .int 0, .null, .null, .null, .null, .null, .null, .null, .null]) := by rw [hf31, bu_n _ _ (by omega)]; exact h_o_30
  have h_len_31 : f31 (len) = .inl (G.2 0, 5, .inl (fun _ => 0)) := by rw [hf31, bu_n _ _ (by omega)]; exact h_len_30
  have h_len1_31 : f31 (len + 1) = .inl (G.2 0, 2560, .inl (fun _ => 0)) := by rw [hf31, bu_n _ _ (by omega)]; exact h_len1_30
  have h_len2_31 : f31 (len + 2) = .inl (G.2 0, 2560, .inl (fun _ => 0)) := by rw [hf31, bu_n _ _ (by omega)]; exact h_len2_30
  have h_len3_31 : f31 (len + 3) = .inl (G.2 0, 2560, .inl (fun _ => 0)) := by rw [hf31, bu_n _ _ (by omega)]; exact h_len3_30
  have h_len4_31 : f31 (len + 4) = .inl (G.2 0, 2560, .inl (fun _ => 0)) := by rw [hf31, bu_n _ _ (by omega)]; exact h_len4_30
  have h_len5_31 : f31 (len + 5) = .inl (G.2 0, 5, .inl (fun _ => 0)) := by rw [hf31, bu_n _ _ (by omega)]; exact h_len5_30
  have h_len6_31 : f31 (len + 6) = .inl (G.2 0, 5, .inl (fun _ => 0)) := by rw [hf31, bu_n _ _ (by omega)]; exact h_len6_30
  have h_len7_31 : f31 (len + 7) = .inl (G.2 0, 25, .inl (fun _ => 0)) := by rw [hf31, bu_n _ _ (by omega)]; exact h_len7_30
  have h_len8_31 : f31 (len + 8) = .inl (G.2 1, 5, .inl (fun _ => 0)) := by rw [hf31, bu_n _ _ (by omega)]; exact h_len8_30
  have h_len9_31 : f31 (len + 9) = .inl (G.2 0, 5, .inl (fun _ => 0)) := by rw [hf31, bu_n _ _ (by omega)]; exact h_len9_30
  have h_len10_31 : f31 (len + 10) = .inl (G.2 1, 5, .inl (fun _ => 0)) := by rw [hf31, bu_n _ _ (by omega)]; exact h_len10_30
  have h_len11_31 : f31 (len + 11) = .inl (G.2 0, 5, .inl (fun _ => 0)) := by rw [hf31, bu_n _ _ (by omega)]; exact h_len11_30
  have h_len12_31 : f31 (len + 12) = .inl (G.2 0, 5, .inl (fun _ => 0)) := by rw [hf31, bu_n _ _ (by omega)]; exact h_len12_30
  have h_len13_31 : f31 (len + 13) = .inl (G.2 0, 5, .inl (fun _ => 0)) := by rw [hf31, bu_n _ _ (by omega)]; exact h_len13_30
  have h_len14_31 : f31 (len + 14) = .inl (G.2 0, 5, .inl (fun _ => 0)) := by rw [hf31, bu_n _ _ (by omega)]; exact h_len14_30
  have h_len15_31 : f31 (len + 15) = .inl (G.2 0, 520, .inl (fun _ => 0)) := by rw [hf31, bu_s]
  have hx31 : ∀ x, x < len → x ≠ o → f31 x = f x := fun x z1 z2 => (congrFun hf31 x).trans ((bu_n _ _ (by omega)).trans (hx30 x z1 z2))
  refine W.widen (k := 16) (n := 10835) (by omega) (by omega) ?_
  refine bw_putF (D := G.1) (ci := 6) (C := "TwoPhaseCutsModel") (T := T_R) (N := 27) (v := .ref (base + (len + 15))) (ty := .array .int) (o := o) hx hb hts ui_R ty_R tyo_R nmo_R hown hK hB hS (by omega) h_o_31 rfl 17 (by decide) (hts _ tw_391) (fun _ h9 => h9) rfl hin rfl (by decide +kernel) rfl rfl (Nat.le_of_ble_eq_true rfl) d_R_init_124 (fun H locs hB hS => ?_)
  have hB : bw G.1 ec_cl base (bu f31 (o) (.inr (6, [.int 0, .ref (base + (len)), .ref (base + (len + 1)), .ref (base + (len + 2)), .ref (base + (len + 3)), .ref (base + (len + 4)), .ref (base + (len + 5)), .ref (base + (len + 6)), .ref (base + (len + 7)), .ref (base + (len + 8)), .ref (base + (len + 9)), .ref (base + (len + 10)), .ref (base + (len + 11)), .ref (base + (len + 12)), .ref (base + (len + 13)), .ref (base + (len + 14)), .int 0, .ref (base + (len + 15)), .int 0, .null, .null, .null, .null, .null, .null, .null, .null]))) (len + 16) H := hB
  obtain ⟨f32, hf32⟩ : ∃ g, g = bu f31 (o) (.inr (6, [.int 0, .ref (base + (len)), .ref (base + (len + 1)), .ref (base + (len + 2)), .ref (base + (len + 3)), .ref (base + (len + 4)), .ref (base + (len + 5)), .ref (base + (len + 6)), .ref (base + (len + 7)), .ref (base + (len + 8)), .ref (base + (len + 9)), .ref (base + (len + 10)), .ref (base + (len + 11)), .ref (base + (len + 12)), .ref (base + (len + 13)), .ref (base + (len + 14)), .int 0, .ref (base + (len + 15)), .int 0, .null, .null, .null, .null, .null, .null, .null, .null])) := ⟨_, rfl⟩
  rw [← hf32] at hB
  have hB : bw G.1 ec_cl base f32 (len + 16) H := hB
  have h_len_32 : f32 (len) = .inl (G.2 0, 5, .inl (fun _ => 0)) := by rw [hf32, bu_n _ _ (by omega)]; exact h_len_31
  have h_len1_32 : f32 (len + 1) = .inl (G.2 0, 2560, .inl (fun _ => 0)) := by rw [hf32, bu_n _ _ (by omega)]; exact h_len1_31
  have h_len2_32 : f32 (len + 2) = .inl (G.2 0, 2560, .inl (fun _ => 0)) := by rw [hf32, bu_n _ _ (by omega)]; exact h_len2_31
  have h_len3_32 : f32 (len + 3) = .inl (G.2 0, 2560, .inl (fun _ => 0)) := by rw [hf32, bu_n _ _ (by omega)]; exact h_len3_31
  have h_len4_32 : f32 (len + 4) = .inl (G.2 0, 2560, .inl (fun _ => 0)) := by rw [hf32, bu_n _ _ (by omega)]; exact h_len4_31
  have h_len5_32 : f32 (len + 5) = .inl (G.2 0, 5, .inl (fun _ => 0)) := by rw [hf32, bu_n _ _ (by omega)]; exact h_len5_31
  have h_len6_32 : f32 (len + 6) = .inl (G.2 0, 5, .inl (fun _ => 0)) := by rw [hf32, bu_n _ _ (by omega)]; exact h_len6_31
  have h_len7_32 : f32 (len + 7) = .inl (G.2 0, 25, .inl (fun _ => 0)) := by rw [hf32, bu_n _ _ (by omega)]; exact h_len7_31
  have h_len8_32 : f32 (len + 8) = .inl (G.2 1, 5, .inl (fun _ => 0)) := by rw [hf32, bu_n _ _ (by omega)]; exact h_len8_31
  have h_len9_32 : f32 (len + 9) = .inl (G.2 0, 5, .inl (fun _ => 0)) := by rw [hf32, bu_n _ _ (by omega)]; exact h_len9_31
  have h_len10_32 : f32 (len + 10) = .inl (G.2 1, 5, .inl (fun _ => 0)) := by rw [hf32, bu_n _ _ (by omega)]; exact h_len10_31
  have h_len11_32 : f32 (len + 11) = .inl (G.2 0, 5, .inl (fun _ => 0)) := by rw [hf32, bu_n _ _ (by omega)]; exact h_len11_31
  have h_len12_32 : f32 (len + 12) = .inl (G.2 0, 5, .inl (fun _ => 0)) := by rw [hf32, bu_n _ _ (by omega)]; exact h_len12_31
  have h_len13_32 : f32 (len + 13) = .inl (G.2 0, 5, .inl (fun _ => 0)) := by rw [hf32, bu_n _ _ (by omega)]; exact h_len13_31
  have h_len14_32 : f32 (len + 14) = .inl (G.2 0, 5, .inl (fun _ => 0)) := by rw [hf32, bu_n _ _ (by omega)]; exact h_len14_31
  have h_len15_32 : f32 (len + 15) = .inl (G.2 0, 520, .inl (fun _ => 0)) := by rw [hf32, bu_n _ _ (by omega)]; exact h_len15_31
  have h_o_32 : f32 (o) = .inr (6, [.int 0, .ref (base + (len)), .ref (base + (len + 1)), .ref (base + (len + 2)), .ref (base + (len + 3)), .ref (base + (len + 4)), .ref (base + (len + 5)), .ref (base + (len + 6)), .ref (base + (len + 7)), .ref (base + (len + 8)), .ref (base + (len + 9)), .ref (base + (len + 10)), .ref (base + (len + 11)), .ref (base + (len + 12)), .ref (base + (len + 13)), .ref (base + (len + 14)), .int 0, .ref (base + (len + 15)), .int 0, .null, .null, .null, .null, .null, .null, .null, .null]) := by rw [hf32, bu_s]
  have hx32 : ∀ x, x < len → x ≠ o → f32 x = f x := fun x z1 z2 => (congrFun hf32 x).trans ((bu_n _ _ (by omega)).trans (hx31 x z1 z2))
  refine lv_aload_n hx hb d_R_init_127 rfl (lv_at hl 0 rfl) ?_
  refine lv_sipush (v := nI 400) hx hb d_R_init_128 (by decide) ?_
  refine bw_newa (D := G.1) (N' := 400) (atype := .int) (ty := .int) hx hb (hts _ tw_51) rfl rfl hK 0 rfl (fun h => h) hB hS (nI_pos (by omega)) (nI_clamp (by omega)) (by show 400 * 4 ≤ 536870912; omega) (by show 16 + 1 ≤ 24; omega) (by show 10835 + 400 ≤ 13245; omega) d_R_init_131 (fun H hB hS => ?_)
  have hB : bw G.1 ec_cl base (bu f32 (len + 16) (.inl (G.2 0, 400, .inl (fun _ => 0)))) (len + 17) H := hB
  obtain ⟨f33, hf33⟩ : ∃ g, g = bu f32 (len + 16) (.inl (G.2 0, 400, .inl (fun _ => 0))) := ⟨_, rfl⟩
  rw [← hf33] at hB
  have hB : bw G.1 ec_cl base f33 (len + 17) H := hB
  have h_o_33 : f33 (o) = .inr (6, [.int 0, .ref (base + (len)), .ref (base + (len + 1)), .ref (base + (len + 2)), .ref (base + (len + 3)), .ref (base + (len + 4)), .ref (base + (len + 5)), .ref (base + (len + 6)), .ref (base + (len + 7)), .ref (base + (len + 8)), .ref (base + (len + 9)), .ref (base + (len + 10)), .ref (base + (len + 11)), .ref (base + (len + 12)), .ref (base + (len + 13)), .ref (base + (len + 14)), .int 0, .ref (base + (len + 15)), .int 0, .null, .null, .null, .null, .null, .null, .null, .null]) := by rw [hf33, bu_n _ _ (by omega)]; exact h_o_32
  have h_len_33 : f33 (len) = .inl (G.2 0, 5, .inl (fun _ => 0)) := by rw [hf33, bu_n _ _ (by omega)]; exact h_len_32
  have h_len1_33 : f33 (len + 1) = .inl (G.2 0, 2560, .inl (fun _ => 0)) := by rw [hf33, bu_n _ _ (by omega)]; exact h_len1_32
  have h_len2_33 : f33 (len + 2) = .inl (G.2 0, 2560, .inl (fun _ => 0)) := by rw [hf33, bu_n _ _ (by omega)]; exact h_len2_32
  have h_len3_33 : f33 (len + 3) = .inl (G.2 0, 2560, .inl (fun _ => 0)) := by rw [hf33, bu_n _ _ (by omega)]; exact h_len3_32
  have h_len4_33 : f33 (len + 4) = .inl (G.2 0, 2560, .inl (fun _ => 0)) := by rw [hf33, bu_n _ _ (by omega)]; exact h_len4_32
  have h_len5_33 : f33 (len + 5) = .inl (G.2 0, 5, .inl (fun _ => 0)) := by rw [hf33, bu_n _ _ (by omega)]; exact h_len5_32
  have h_len6_33 : f33 (len + 6) = .inl (G.2 0, 5, .inl (fun _ => 0)) := by rw [hf33, bu_n _ _ (by omega)]; exact h_len6_32
  have h_len7_33 : f33 (len + 7) = .inl (G.2 0, 25, .inl (fun _ => 0)) := by rw [hf33, bu_n _ _ (by omega)]; exact h_len7_32
  have h_len8_33 : f33 (len + 8) = .inl (G.2 1, 5, .inl (fun _ => 0)) := by rw [hf33, bu_n _ _ (by omega)]; exact h_len8_32
  have h_len9_33 : f33 (len + 9) = .inl (G.2 0, 5, .inl (fun _ => 0)) := by rw [hf33, bu_n _ _ (by omega)]; exact h_len9_32
  have h_len10_33 : f33 (len + 10) = .inl (G.2 1, 5, .inl (fun _ => 0)) := by rw [hf33, bu_n _ _ (by omega)]; exact h_len10_32
  have h_len11_33 : f33 (len + 11) = .inl (G.2 0, 5, .inl (fun _ => 0)) := by rw [hf33, bu_n _ _ (by omega)]; exact h_len11_32
  have h_len12_33 : f33 (len + 12) = .inl (G.2 0, 5, .inl (fun _ => 0)) := by rw [hf33, bu_n _ _ (by omega)]; exact h_len12_32
  have h_len13_33 : f33 (len + 13) = .inl (G.2 0, 5, .inl (fun _ => 0)) := by rw [hf33, bu_n _ _ (by omega)]; exact h_len13_32
  have h_len14_33 : f33 (len + 14) = .inl (G.2 0, 5, .inl (fun _ => 0)) := by rw [hf33, bu_n _ _ (by omega)]; exact h_len14_32
  have h_len15_33 : f33 (len + 15) = .inl (G.2 0, 520, .inl (fun _ => 0)) := by rw [hf33, bu_n _ _ (by omega)]; exact h_len15_32
  have h_len16_33 : f33 (len + 16) = .inl (G.2 0, 400, .inl (fun _ => 0)) := by rw [hf33, bu_s]
  have hx33 : ∀ x, x < len → x ≠ o → f33 x = f x := fun x z1 z2 => (congrFun hf33 x).trans ((bu_n _ _ (by omega)).trans (hx32 x z1 z2))
  refine W.widen (k := 17) (n := 11235) (by omega) (by omega) ?_
  refine bw_putF (D := G.1) (ci := 6) (C := "TwoPhaseCutsModel") (T := T_R) (N := 27) (v := .ref (base + (len + 16))) (ty := .array .int) (o := o) hx hb hts ui_R ty_R tyo_R nmo_R hown hK hB hS (by omega) h_o_33 rfl 19 (by decide) (hts _ tw_393) (fun _ h9 => h9) rfl hin rfl (by decide +kernel) rfl rfl (Nat.le_of_ble_eq_true rfl) d_R_init_133 (fun H locs hB hS => ?_)
  have hB : bw G.1 ec_cl base (bu f33 (o) (.inr (6, [.int 0, .ref (base + (len)), .ref (base + (len + 1)), .ref (base + (len + 2)), .ref (base + (len + 3)), .ref (base + (len + 4)), .ref (base + (len + 5)), .ref (base + (len + 6)), .ref (base + (len + 7)), .ref (base + (len + 8)), .ref (base + (len + 9)), .ref (base + (len + 10)), .ref (base + (len + 11)), .ref (base + (len + 12)), .ref (base + (len + 13)), .ref (base + (len + 14)), .int 0, .ref (base + (len + 15)), .int 0, .ref (base + (len + 16)), .null, .null, .null, .null, .null, .null, .null]))) (len + 17) H := hB
  obtain ⟨f34, hf34⟩ : ∃ g, g = bu f33 (o) (.inr (6, [.int 0, .ref (base + (len)), .ref (base + (len + 1)), .ref (base + (len + 2)), .ref (base + (len + 3)), .ref (base + (len + 4)), .ref (base + (len + 5)), .ref (base + (len + 6)), .ref (base + (len + 7)), .ref (base + (len + 8)), .ref (base + (len + 9)), .ref (base + (len + 10)), .ref (base + (len + 11)), .ref (base + (len + 12)), .ref (base + (len + 13)), .ref (base + (len + 14)), .int 0, .ref (base + (len + 15)), .int 0, .ref (base + (len + 16)), .null, .null, .null, .null, .null, .null, .null])) := ⟨_, rfl⟩
  rw [← hf34] at hB
  have hB : bw G.1 ec_cl base f34 (len + 17) H := hB
  have h_len_34 : f34 (len) = .inl (G.2 0, 5, .inl (fun _ => 0)) := by rw [hf34, bu_n _ _ (by omega)]; exact h_len_33
  have h_len1_34 : f34 (len + 1) = .inl (G.2 0, 2560, .inl (fun _ => 0)) := by rw [hf34, bu_n _ _ (by omega)]; exact h_len1_33
  have h_len2_34 : f34 (len + 2) = .inl (G.2 0, 2560, .inl (fun _ => 0)) := by rw [hf34, bu_n _ _ (by omega)]; exact h_len2_33
  have h_len3_34 : f34 (len + 3) = .inl (G.2 0, 2560, .inl (fun _ => 0)) := by rw [hf34, bu_n _ _ (by omega)]; exact h_len3_33
  have h_len4_34 : f34 (len + 4) = .inl (G.2 0, 2560, .inl (fun _ => 0)) := by rw [hf34, bu_n _ _ (by omega)]; exact h_len4_33
  have h_len5_34 : f34 (len + 5) = .inl (G.2 0, 5, .inl (fun _ => 0)) := by rw [hf34, bu_n _ _ (by omega)]; exact h_len5_33
  have h_len6_34 : f34 (len + 6) = .inl (G.2 0, 5, .inl (fun _ => 0)) := by rw [hf34, bu_n _ _ (by omega)]; exact h_len6_33
  have h_len7_34 : f34 (len + 7) = .inl (G.2 0, 25, .inl (fun _ => 0)) := by rw [hf34, bu_n _ _ (by omega)]; exact h_len7_33
  have h_len8_34 : f34 (len + 8) = .inl (G.2 1, 5, .inl (fun _ => 0)) := by rw [hf34, bu_n _ _ (by omega)]; exact h_len8_33
  have h_len9_34 : f34 (len + 9) = .inl (G.2 0, 5, .inl (fun _ => 0)) := by rw [hf34, bu_n _ _ (by omega)]; exact h_len9_33
  have h_len10_34 : f34 (len + 10) = .inl (G.2 1, 5, .inl (fun _ => 0)) := by rw [hf34, bu_n _ _ (by omega)]; exact h_len10_33
  have h_len11_34 : f34 (len + 11) = .inl (G.2 0, 5, .inl (fun _ => 0)) := by rw [hf34, bu_n _ _ (by omega)]; exact h_len11_33
  have h_len12_34 : f34 (len + 12) = .inl (G.2 0, 5, .inl (fun _ => 0)) := by rw [hf34, bu_n _ _ (by omega)]; exact h_len12_33
  have h_len13_34 : f34 (len + 13) = .inl (G.2 0, 5, .inl (fun _ => 0)) := by rw [hf34, bu_n _ _ (by omega)]; exact h_len13_33
  have h_len14_34 : f34 (len + 14) = .inl (G.2 0, 5, .inl (fun _ => 0)) := by rw [hf34, bu_n _ _ (by omega)]; exact h_len14_33
  have h_len15_34 : f34 (len + 15) = .inl (G.2 0, 520, .inl (fun _ => 0)) := by rw [hf34, bu_n _ _ (by omega)]; exact h_len15_33
  have h_len16_34 : f34 (len + 16) = .inl (G.2 0, 400, .inl (fun _ => 0)) := by rw [hf34, bu_n _ _ (by omega)]; exact h_len16_33
  have h_o_34 : f34 (o) = .inr (6, [.int 0, .ref (base + (len)), .ref (base + (len + 1)), .ref (base + (len + 2)), .ref (base + (len + 3)), .ref (base + (len + 4)), .ref (base + (len + 5)), .ref (base + (len + 6)), .ref (base + (len + 7)), .ref (base + (len + 8)), .ref (base + (len + 9)), .ref (base + (len + 10)), .ref (base + (len + 11)), .ref (base + (len + 12)), .ref (base + (len + 13)), .ref (base + (len + 14)), .int 0, .ref (base + (len + 15)), .int 0, .ref (base + (len + 16)), .null, .null, .null, .null, .null, .null, .null]) := by rw [hf34, bu_s]
  have hx34 : ∀ x, x < len → x ≠ o → f34 x = f x := fun x z1 z2 => (congrFun hf34 x).trans ((bu_n _ _ (by omega)).trans (hx33 x z1 z2))
  refine lv_aload_n hx hb d_R_init_136 rfl (lv_at hl 0 rfl) ?_
  refine lv_sipush (v := nI 400) hx hb d_R_init_137 (by decide) ?_
  refine bw_newa (D := G.1) (N' := 400) (atype := .int) (ty := .int) hx hb (hts _ tw_51) rfl rfl hK 0 rfl (fun h => h) hB hS (nI_pos (by omega)) (nI_clamp (by omega)) (by show 400 * 4 ≤ 536870912; omega) (by show 17 + 1 ≤ 24; omega) (by show 11235 + 400 ≤ 13245; omega) d_R_init_140 (fun H hB hS => ?_)
  have hB : bw G.1 ec_cl base (bu f34 (len + 17) (.inl (G.2 0, 400, .inl (fun _ => 0)))) (len + 18) H := hB
  obtain ⟨f35, hf35⟩ : ∃ g, g = bu f34 (len + 17) (.inl (G.2 0, 400, .inl (fun _ => 0))) := ⟨_, rfl⟩
  rw [← hf35] at hB
  have hB : bw G.1 ec_cl base f35 (len + 18) H := hB
  have h_o_35 : f35 (o) = .inr (6, [.int 0, .ref (base + (len)), .ref (base + (len + 1)), .ref (base + (len + 2)), .ref (base + (len + 3)), .ref (base + (len + 4)), .ref (base + (len + 5)), .ref (base + (len + 6)), .ref (base + (len + 7)), .ref (base + (len + 8)), .ref (base + (len + 9)), .ref (base + (len + 10)), .ref (base + (len + 11)), .ref (base + (len + 12)), .ref (base + (len + 13)), .ref (base + (len + 14)), .int 0, .ref (base + (len + 15)), .int 0, .ref (base + (len + 16)), .null, .null, .null, .null, .null, .null, .null]) := by rw [hf35, bu_n _ _ (by omega)]; exact h_o_34
  have h_len_35 : f35 (len) = .inl (G.2 0, 5, .inl (fun _ => 0)) := by rw [hf35, bu_n _ _ (by omega)]; exact h_len_34
  have h_len1_35 : f35 (len + 1) = .inl (G.2 0, 2560, .inl (fun _ => 0)) := by rw [hf35, bu_n _ _ (by omega)]; exact h_len1_34
  have h_len2_35 : f35 (len + 2) = .inl (G.2 0, 2560, .inl (fun _ => 0)) := by rw [hf35, bu_n _ _ (by omega)]; exact h_len2_34
  have h_len3_35 : f35 (len + 3) = .inl (G.2 0, 2560, .inl (fun _ => 0)) := by rw [hf35, bu_n _ _ (by omega)]; exact h_len3_34
  have h_len4_35 : f35 (len + 4) = .inl (G.2 0, 2560, .inl (fun _ => 0)) := by rw [hf35, bu_n _ _ (by omega)]; exact h_len4_34
  have h_len5_35 : f35 (len + 5) = .inl (G.2 0, 5, .inl (fun _ => 0)) := by rw [hf35, bu_n _ _ (by omega)]; exact h_len5_34
  have h_len6_35 : f35 (len + 6) = .inl (G.2 0, 5, .inl (fun _ => 0)) := by rw [hf35, bu_n _ _ (by omega)]; exact h_len6_34
  have h_len7_35 : f35 (len + 7) = .inl (G.2 0, 25, .inl (fun _ => 0)) := by rw [hf35, bu_n _ _ (by omega)]; exact h_len7_34
  have h_len8_35 : f35 (len + 8) = .inl (G.2 1, 5, .inl (fun _ => 0)) := by rw [hf35, bu_n _ _ (by omega)]; exact h_len8_34
  have h_len9_35 : f35 (len + 9) = .inl (G.2 0, 5, .inl (fun _ => 0)) := by rw [hf35, bu_n _ _ (by omega)]; exact h_len9_34
  have h_len10_35 : f35 (len + 10) = .inl (G.2 1, 5, .inl (fun _ => 0)) := by rw [hf35, bu_n _ _ (by omega)]; exact h_len10_34
  have h_len11_35 : f35 (len + 11) = .inl (G.2 0, 5, .inl (fun _ => 0)) := by rw [hf35, bu_n _ _ (by omega)]; exact h_len11_34
  have h_len12_35 : f35 (len + 12) = .inl (G.2 0, 5, .inl (fun _ => 0)) := by rw [hf35, bu_n _ _ (by omega)]; exact h_len12_34
  have h_len13_35 : f35 (len + 13) = .inl (G.2 0, 5, .inl (fun _ => 0)) := by rw [hf35, bu_n _ _ (by omega)]; exact h_len13_34
  have h_len14_35 : f35 (len + 14) = .inl (G.2 0, 5, .inl (fun _ => 0)) := by rw [hf35, bu_n _ _ (by omega)]; exact h_len14_34
  have h_len15_35 : f35 (len + 15) = .inl (G.2 0, 520, .inl (fun _ => 0)) := by rw [hf35, bu_n _ _ (by omega)]; exact h_len15_34
  have h_len16_35 : f35 (len + 16) = .inl (G.2 0, 400, .inl (fun _ => 0)) := by rw [hf35, bu_n _ _ (by omega)]; exact h_len16_34
  have h_len17_35 : f35 (len + 17) = .inl (G.2 0, 400, .inl (fun _ => 0)) := by rw [hf35, bu_s]
  have hx35 : ∀ x, x < len → x ≠ o → f35 x = f x := fun x z1 z2 => (congrFun hf35 x).trans ((bu_n _ _ (by omega)).trans (hx34 x z1 z2))
  refine W.widen (k := 18) (n := 11635) (by omega) (by omega) ?_
  refine bw_putF (D := G.1) (ci := 6) (C := "TwoPhaseCutsModel") (T := T_R) (N := 27) (v := .ref (base + (len + 17))) (ty := .array .int) (o := o) hx hb hts ui_R ty_R tyo_R nmo_R hown hK hB hS (by omega) h_o_35 rfl 20 (by decide) (hts _ tw_394) (fun _ h9 => h9) rfl hin rfl (by decide +kernel) rfl rfl (Nat.le_of_ble_eq_true rfl) d_R_init_142 (fun H locs hB hS => ?_)
  have hB : bw G.1 ec_cl base (bu f35 (o) (.inr (6, [.int 0, .ref (base + (len)), .ref (base + (len + 1)), .ref (base + (len + 2)), .ref (base + (len + 3)), .ref (base + (len + 4)), .ref (base + (len + 5)), .ref (base + (len + 6)), .ref (base + (len + 7)), .ref (base + (len + 8)), .ref (base + (len + 9)), .ref (base + (len + 10)), .ref (base + (len + 11)), .ref (base + (len + 12)), .ref (base + (len + 13)), .ref (base + (len + 14)), .int 0, .ref (base + (len + 15)), .int 0, .ref (base + (len + 16)), .ref (base + (len + 17)), .null, .null, .null, .null, .null, .null]))) (len + 18) H := hB
  obtain ⟨f36, hf36⟩ : ∃ g, g = bu f35 (o) (.inr (6, [.int 0, .ref (base + (len)), .ref (base + (len + 1)), .ref (base + (len + 2)), .ref (base + (len + 3)), .ref (base + (len + 4)), .ref (base + (len + 5)), .ref (base + (len + 6)), .ref (base + (len + 7)), .ref (base + (len + 8)), .ref (base + (len + 9)), .ref (base + (len + 10)), .ref (base + (len + 11)), .ref (base + (len + 12)), .ref (base + (len + 13)), .ref (base + (len + 14)), .int 0, .ref (base + (len + 15)), .int 0, .ref (base + (len + 16)), .ref (base + (len + 17)), .null, .null, .null, .null, .null, .null])) := ⟨_, rfl⟩
  rw [← hf36] at hB
  have hB : bw G.1 ec_cl base f36 (len + 18) H := hB
  have h_len_36 : f36 (len) = .inl (G.2 0, 5, .inl (fun _ => 0)) := by rw [hf36, bu_n _ _ (by omega)]; exact h_len_35
  have h_len1_36 : f36 (len + 1) = .inl (G.2 0, 2560, .inl (fun _ => 0)) := by rw [hf36, bu_n _ _ (by omega)]; exact h_len1_35
  have h_len2_36 : f36 (len + 2) = .inl (G.2 0, 2560, .inl (fun _ => 0)) := by rw [hf36, bu_n _ _ (by omega)]; exact h_len2_35
  have h_len3_36 : f36 (len + 3) = .inl (G.2 0, 2560, .inl (fun _ => 0)) := by rw [hf36, bu_n _ _ (by omega)]; exact h_len3_35
  have h_len4_36 : f36 (len + 4) = .inl (G.2 0, 2560, .inl (fun _ => 0)) := by rw [hf36, bu_n _ _ (by omega)]; exact h_len4_35
  have h_len5_36 : f36 (len + 5) = .inl (G.2 0, 5, .inl (fun _ => 0)) := by rw [hf36, bu_n _ _ (by omega)]; exact h_len5_35
  have h_len6_36 : f36 (len + 6) = .inl (G.2 0, 5, .inl (fun _ => 0)) := by rw [hf36, bu_n _ _ (by omega)]; exact h_len6_35
  have h_len7_36 : f36 (len + 7) = .inl (G.2 0, 25, .inl (fun _ => 0)) := by rw [hf36, bu_n _ _ (by omega)]; exact h_len7_35
  have h_len8_36 : f36 (len + 8) = .inl (G.2 1, 5, .inl (fun _ => 0)) := by rw [hf36, bu_n _ _ (by omega)]; exact h_len8_35
  have h_len9_36 : f36 (len + 9) = .inl (G.2 0, 5, .inl (fun _ => 0)) := by rw [hf36, bu_n _ _ (by omega)]; exact h_len9_35
  have h_len10_36 : f36 (len + 10) = .inl (G.2 1, 5, .inl (fun _ => 0)) := by rw [hf36, bu_n _ _ (by omega)]; exact h_len10_35
  have h_len11_36 : f36 (len + 11) = .inl (G.2 0, 5, .inl (fun _ => 0)) := by rw [hf36, bu_n _ _ (by omega)]; exact h_len11_35
  have h_len12_36 : f36 (len + 12) = .inl (G.2 0, 5, .inl (fun _ => 0)) := by rw [hf36, bu_n _ _ (by omega)]; exact h_len12_35
  have h_len13_36 : f36 (len + 13) = .inl (G.2 0, 5, .inl (fun _ => 0)) := by rw [hf36, bu_n _ _ (by omega)]; exact h_len13_35
  have h_len14_36 : f36 (len + 14) = .inl (G.2 0, 5, .inl (fun _ => 0)) := by rw [hf36, bu_n _ _ (by omega)]; exact h_len14_35
  have h_len15_36 : f36 (len + 15) = .inl (G.2 0, 520, .inl (fun _ => 0)) := by rw [hf36, bu_n _ _ (by omega)]; exact h_len15_35
  have h_len16_36 : f36 (len + 16) = .inl (G.2 0, 400, .inl (fun _ => 0)) := by rw [hf36, bu_n _ _ (by omega)]; exact h_len16_35
  have h_len17_36 : f36 (len + 17) = .inl (G.2 0, 400, .inl (fun _ => 0)) := by rw [hf36, bu_n _ _ (by omega)]; exact h_len17_35
  have h_o_36 : f36 (o) = .inr (6, [.int 0, .ref (base + (len)), .ref (base + (len + 1)), .ref (base + (len + 2)), .ref (base + (len + 3)), .ref (base + (len + 4)), .ref (base + (len + 5)), .ref (base + (len + 6)), .ref (base + (len + 7)), .ref (base + (len + 8)), .ref (base + (len + 9)), .ref (base + (len + 10)), .ref (base + (len + 11)), .ref (base + (len + 12)), .ref (base + (len + 13)), .ref (base + (len + 14)), .int 0, .ref (base + (len + 15)), .int 0, .ref (base + (len + 16)), .ref (base + (len + 17)), .null, .null, .null, .null, .null, .null]) := by rw [hf36, bu_s]
  have hx36 : ∀ x, x < len → x ≠ o → f36 x = f x := fun x z1 z2 => (congrFun hf36 x).trans ((bu_n _ _ (by omega)).trans (hx35 x z1 z2))
  refine lv_aload_n hx hb d_R_init_145 rfl (lv_at hl 0 rfl) ?_
  refine lv_sipush (v := nI 400) hx hb d_R_init_146 (by decide) ?_
  refine bw_newa (D := G.1) (N' := 400) (atype := .int) (ty := .int) hx hb (hts _ tw_51) rfl rfl hK 0 rfl (fun h => h) hB hS (nI_pos (by omega)) (nI_clamp (by omega)) (by show 400 * 4 ≤ 536870912; omega) (by show 18 + 1 ≤ 24; omega) (by show 11635 + 400 ≤ 13245; omega) d_R_init_149 (fun H hB hS => ?_)
  have hB : bw G.1 ec_cl base (bu f36 (len + 18) (.inl (G.2 0, 400, .inl (fun _ => 0)))) (len + 19) H := hB
  obtain ⟨f37, hf37⟩ : ∃ g, g = bu f36 (len + 18) (.inl (G.2 0, 400, .inl (fun _ => 0))) := ⟨_, rfl⟩
  rw [← hf37] at hB
  have hB : bw G.1 ec_cl base f37 (len + 19) H := hB
  have h_o_37 : f37 (o) = .inr (6, [.int 0, .ref (base + (len)), .ref (base + (len + 1)), .ref (base + (len + 2)), .ref (base + (len + 3)), .ref (base + (len + 4)), .ref (base + (len + 5)), .ref (base + (len + 6)), .ref (base + (len + 7)), .ref (base + (len + 8)), .ref (base + (len + 9)), .ref (base + (len + 10)), .ref (base + (len + 11)), .ref (base + (len + 12)), .ref (base + (len + 13)), .ref (base + (len + 14)), .int 0, .ref (base + (len + 15)), .int 0, .ref (base + (len + 16)), .ref (base + (len + 17)), .null, .null, .null, .null, .null, .null]) := by rw [hf37, bu_n _ _ (by omega)]; exact h_o_36
  have h_len_37 : f37 (len) = .inl (G.2 0, 5, .inl (fun _ => 0)) := by rw [hf37, bu_n _ _ (by omega)]; exact h_len_36
  have h_len1_37 : f37 (len + 1) = .inl (G.2 0, 2560, .inl (fun _ => 0)) := by rw [hf37, bu_n _ _ (by omega)]; exact h_len1_36
  have h_len2_37 : f37 (len + 2) = .inl (G.2 0, 2560, .inl (fun _ => 0)) := by rw [hf37, bu_n _ _ (by omega)]; exact h_len2_36
  have h_len3_37 : f37 (len + 3) = .inl (G.2 0, 2560, .inl (fun _ => 0)) := by rw [hf37, bu_n _ _ (by omega)]; exact h_len3_36
  have h_len4_37 : f37 (len + 4) = .inl (G.2 0, 2560, .inl (fun _ => 0)) := by rw [hf37, bu_n _ _ (by omega)]; exact h_len4_36
  have h_len5_37 : f37 (len + 5) = .inl (G.2 0, 5, .inl (fun _ => 0)) := by rw [hf37, bu_n _ _ (by omega)]; exact h_len5_36
  have h_len6_37 : f37 (len + 6) = .inl (G.2 0, 5, .inl (fun _ => 0)) := by rw [hf37, bu_n _ _ (by omega)]; exact h_len6_36
  have h_len7_37 : f37 (len + 7) = .inl (G.2 0, 25, .inl (fun _ => 0)) := by rw [hf37, bu_n _ _ (by omega)]; exact h_len7_36
  have h_len8_37 : f37 (len + 8) = .inl (G.2 1, 5, .inl (fun _ => 0)) := by rw [hf37, bu_n _ _ (by omega)]; exact h_len8_36
  have h_len9_37 : f37 (len + 9) = .inl (G.2 0, 5, .inl (fun _ => 0)) := by rw [hf37, bu_n _ _ (by omega)]; exact h_len9_36
  have h_len10_37 : f37 (len + 10) = .inl (G.2 1, 5, .inl (fun _ => 0)) := by rw [hf37, bu_n _ _ (by omega)]; exact h_len10_36
  have h_len11_37 : f37 (len + 11) = .inl (G.2 0, 5, .inl (fun _ => 0)) := by rw [hf37, bu_n _ _ (by omega)]; exact h_len11_36
  have h_len12_37 : f37 (len + 12) = .inl (G.2 0, 5, .inl (fun _ => 0)) := by rw [hf37, bu_n _ _ (by omega)]; exact h_len12_36
  have h_len13_37 : f37 (len + 13) = .inl (G.2 0, 5, .inl (fun _ => 0)) := by rw [hf37, bu_n _ _ (by omega)]; exact h_len13_36
  have h_len14_37 : f37 (len + 14) = .inl (G.2 0, 5, .inl (fun _ => 0)) := by rw [hf37, bu_n _ _ (by omega)]; exact h_len14_36
  have h_len15_37 : f37 (len + 15) = .inl (G.2 0, 520, .inl (fun _ => 0)) := by rw [hf37, bu_n _ _ (by omega)]; exact h_len15_36
  have h_len16_37 : f37 (len + 16) = .inl (G.2 0, 400, .inl (fun _ => 0)) := by rw [hf37, bu_n _ _ (by omega)]; exact h_len16_36
  have h_len17_37 : f37 (len + 17) = .inl (G.2 0, 400, .inl (fun _ => 0)) := by rw [hf37, bu_n _ _ (by omega)]; exact h_len17_36
  have h_len18_37 : f37 (len + 18) = .inl (G.2 0, 400, .inl (fun _ => 0)) := by rw [hf37, bu_s]
  have hx37 : ∀ x, x < len → x ≠ o → f37 x = f x := fun x z1 z2 => (congrFun hf37 x).trans ((bu_n _ _ (by omega)).trans (hx36 x z1 z2))
  refine W.widen (k := 19) (n := 12035) (by omega) (by omega) ?_
  refine bw_putF (D := G.1) (ci := 6) (C := "TwoPhaseCutsModel") (T := T_R) (N := 27) (v := .ref (base + (len + 18))) (ty := .array .int) (o := o) hx hb hts ui_R ty_R tyo_R nmo_R hown hK hB hS (by omega) h_o_37 rfl 21 (by decide) (hts _ tw_395) (fun _ h9 => h9) rfl hin rfl (by decide +kernel) rfl rfl (Nat.le_of_ble_eq_true rfl) d_R_init_151 (fun H locs hB hS => ?_)
  have hB : bw G.1 ec_cl base (bu f37 (o) (.inr (6, [.int 0, .ref (base + (len)), .ref (base + (len + 1)), .ref (base + (len + 2)), .ref (base + (len + 3)), .ref (base + (len + 4)), .ref (base + (len + 5)), .ref (base + (len + 6)), .ref (base + (len + 7)), .ref (base + (len + 8)), .ref (base + (len + 9)), .ref (base + (len + 10)), .ref (base + (len + 11)), .ref (base + (len + 12)), .ref (base + (len + 13)), .ref (base + (len + 14)), .int 0, .ref (base + (len + 15)), .int 0, .ref (base + (len + 16)), .ref (base + (len + 17)), .ref (base + (len + 18)), .null, .null, .null, .null, .null]))) (len + 19) H := hB
  obtain ⟨f38, hf38⟩ : ∃ g, g = bu f37 (o) (.inr (6, [.int 0, .ref (base + (len)), .ref (base + (len + 1)), .ref (base + (len + 2)), .ref (base + (len + 3)), .ref (base + (len + 4)), .ref (base + (len + 5)), .ref (base + (len + 6)), .ref (base + (len + 7)), .ref (base + (len + 8)), .ref (base + (len + 9)), .ref (base + (len + 10)), .ref (base + (len + 11)), .ref (base + (len + 12)), .ref (base + (len + 13)), .ref (base + (len + 14)), .int 0, .ref (base + (len + 15)), .int 0, .ref (base + (len + 16)), .ref (base + (len + 17)), .ref (base + (len + 18)), .null, .null, .null, .null, .null])) := ⟨_, rfl⟩
  rw [← hf38] at hB
  have hB : bw G.1 ec_cl base f38 (len + 19) H := hB
  have h_len_38 : f38 (len) = .inl (G.2 0, 5, .inl (fun _ => 0)) := by rw [hf38, bu_n _ _ (by omega)]; exact h_len_37
  have h_len1_38 : f38 (len + 1) = .inl (G.2 0, 2560, .inl (fun _ => 0)) := by rw [hf38, bu_n _ _ (by omega)]; exact h_len1_37
  have h_len2_38 : f38 (len + 2) = .inl (G.2 0, 2560, .inl (fun _ => 0)) := by rw [hf38, bu_n _ _ (by omega)]; exact h_len2_37
  have h_len3_38 : f38 (len + 3) = .inl (G.2 0, 2560, .inl (fun _ => 0)) := by rw [hf38, bu_n _ _ (by omega)]; exact h_len3_37
  have h_len4_38 : f38 (len + 4) = .inl (G.2 0, 2560, .inl (fun _ => 0)) := by rw [hf38, bu_n _ _ (by omega)]; exact h_len4_37
  have h_len5_38 : f38 (len + 5) = .inl (G.2 0, 5, .inl (fun _ => 0)) := by rw [hf38, bu_n _ _ (by omega)]; exact h_len5_37
  have h_len6_38 : f38 (len + 6) = .inl (G.2 0, 5, .inl (fun _ => 0)) := by rw [hf38, bu_n _ _ (by omega)]; exact h_len6_37
  have h_len7_38 : f38 (len + 7) = .inl (G.2 0, 25, .inl (fun _ => 0)) := by rw [hf38, bu_n _ _ (by omega)]; exact h_len7_37
  have h_len8_38 : f38 (len + 8) = .inl (G.2 1, 5, .inl (fun _ => 0)) := by rw [hf38, bu_n _ _ (by omega)]; exact h_len8_37
  have h_len9_38 : f38 (len + 9) = .inl (G.2 0, 5, .inl (fun _ => 0)) := by rw [hf38, bu_n _ _ (by omega)]; exact h_len9_37
  have h_len10_38 : f38 (len + 10) = .inl (G.2 1, 5, .inl (fun _ => 0)) := by rw [hf38, bu_n _ _ (by omega)]; exact h_len10_37
  have h_len11_38 : f38 (len + 11) = .inl (G.2 0, 5, .inl (fun _ => 0)) := by rw [hf38, bu_n _ _ (by omega)]; exact h_len11_37
  have h_len12_38 : f38 (len + 12) = .inl (G.2 0, 5, .inl (fun _ => 0)) := by rw [hf38, bu_n _ _ (by omega)]; exact h_len12_37
  have h_len13_38 : f38 (len + 13) = .inl (G.2 0, 5, .inl (fun _ => 0)) := by rw [hf38, bu_n _ _ (by omega)]; exact h_len13_37
  have h_len14_38 : f38 (len + 14) = .inl (G.2 0, 5, .inl (fun _ => 0)) := by rw [hf38, bu_n _ _ (by omega)]; exact h_len14_37
  have h_len15_38 : f38 (len + 15) = .inl (G.2 0, 520, .inl (fun _ => 0)) := by rw [hf38, bu_n _ _ (by omega)]; exact h_len15_37
  have h_len16_38 : f38 (len + 16) = .inl (G.2 0, 400, .inl (fun _ => 0)) := by rw [hf38, bu_n _ _ (by omega)]; exact h_len16_37
  have h_len17_38 : f38 (len + 17) = .inl (G.2 0, 400, .inl (fun _ => 0)) := by rw [hf38, bu_n _ _ (by omega)]; exact h_len17_37
  have h_len18_38 : f38 (len + 18) = .inl (G.2 0, 400, .inl (fun _ => 0)) := by rw [hf38, bu_n _ _ (by omega)]; exact h_len18_37
  have h_o_38 : f38 (o) = .inr (6, [.int 0, .ref (base + (len)), .ref (base + (len + 1)), .ref (base + (len + 2)), .ref (base + (len + 3)), .ref (base + (len + 4)), .ref (base + (len + 5)), .ref (base + (len + 6)), .ref (base + (len + 7)), .ref (base + (len + 8)), .ref (base + (len + 9)), .ref (base + (len + 10)), .ref (base + (len + 11)), .ref (base + (len + 12)), .ref (base + (len + 13)), .ref (base + (len + 14)), .int 0, .ref (base + (len + 15)), .int 0, .ref (base + (len + 16)), .ref (base + (len + 17)), .ref (base + (len + 18)), .null, .null, .null, .null, .null]) := by rw [hf38, bu_s]
  have hx38 : ∀ x, x < len → x ≠ o → f38 x = f x := fun x z1 z2 => (congrFun hf38 x).trans ((bu_n _ _ (by omega)).trans (hx37 x z1 z2))
  refine lv_aload_n hx hb d_R_init_154 rfl (lv_at hl 0 rfl) ?_
  refine lv_sipush (v := nI 400) hx hb d_R_init_155 (by decide) ?_
  refine bw_newa (D := G.1) (N' := 400) (atype := .int) (ty := .int) hx hb (hts _ tw_51) rfl rfl hK 0 rfl (fun h => h) hB hS (nI_pos (by omega)) (nI_clamp (by omega)) (by show 400 * 4 ≤ 536870912; omega) (by show 19 + 1 ≤ 24; omega) (by show 12035 + 400 ≤ 13245; omega) d_R_init_158 (fun H hB hS => ?_)
  have hB : bw G.1 ec_cl base (bu f38 (len + 19) (.inl (G.2 0, 400, .inl (fun _ => 0)))) (len + 20) H := hB
  obtain ⟨f39, hf39⟩ : ∃ g, g = bu f38 (len + 19) (.inl (G.2 0, 400, .inl (fun _ => 0))) := ⟨_, rfl⟩
  rw [← hf39] at hB
  have hB : bw G.1 ec_cl base f39 (len + 20) H := hB
  have h_o_39 : f39 (o) = .inr (6, [.int 0, .ref (base + (len)), .ref (base + (len + 1)), .ref (base + (len + 2)), .ref (base + (len + 3)), .ref (base + (len + 4)), .ref (base + (len + 5)), .ref (base + (len + 6)), .ref (base + (len + 7)), .ref (base + (len + 8)), .ref (base + (len + 9)), .ref (base + (len + 10)), .ref (base + (len + 11)), .ref (base + (len + 12)), .ref (base + (len + 13)), .ref (base + (len + 14)), .int 0, .ref (base + (len + 15)), .int 0, .ref (base + (len + 16)), .ref (base + (len + 17)), .ref (base + (len + 18)), .null, .null, .null, .null, .null]) := by rw [hf39, bu_n _ _ (by omega)]; exact h_o_38
  have h_len_39 : f39 (len) = .inl (G.2 0, 5, .inl (fun _ => 0)) := by rw [hf39, bu_n _ _ (by omega)]; exact h_len_38
  have h_len1_39 : f39 (len + 1) = .inl (G.2 0, 2560, .inl (fun _ => 0)) := by rw [hf39, bu_n _ _ (by omega)]; exact h_len1_38
  have h_len2_39 : f39 (len + 2) = .inl (G.2 0, 2560, .inl (fun _ => 0)) := by rw [hf39, bu_n _ _ (by omega)]; exact h_len2_38
  have h_len3_39 : f39 (len + 3) = .inl (G.2 0, 2560, .inl (fun _ => 0)) := by rw [hf39, bu_n _ _ (by omega)]; exact h_len3_38
  have h_len4_39 : f39 (len + 4) = .inl (G.2 0, 2560, .inl (fun _ => 0)) := by rw [hf39, bu_n _ _ (by omega)]; exact h_len4_38
  have h_len5_39 : f39 (len + 5) = .inl (G.2 0, 5, .inl (fun _ => 0)) := by rw [hf39, bu_n _ _ (by omega)]; exact h_len5_38
  have h_len6_39 : f39 (len + 6) = .inl (G.2 0, 5, .inl (fun _ => 0)) := by rw [hf39, bu_n _ _ (by omega)]; exact h_len6_38
  have h_len7_39 : f39 (len + 7) = .inl (G.2 0, 25, .inl (fun _ => 0)) := by rw [hf39, bu_n _ _ (by omega)]; exact h_len7_38
  have h_len8_39 : f39 (len + 8) = .inl (G.2 1, 5, .inl (fun _ => 0)) := by rw [hf39, bu_n _ _ (by omega)]; exact h_len8_38
  have h_len9_39 : f39 (len + 9) = .inl (G.2 0, 5, .inl (fun _ => 0)) := by rw [hf39, bu_n _ _ (by omega)]; exact h_len9_38
  have h_len10_39 : f39 (len + 10) = .inl (G.2 1, 5, .inl (fun _ => 0)) := by rw [hf39, bu_n _ _ (by omega)]; exact h_len10_38
  have h_len11_39 : f39 (len + 11) = .inl (G.2 0, 5, .inl (fun _ => 0)) := by rw [hf39, bu_n _ _ (by omega)]; exact h_len11_38
  have h_len12_39 : f39 (len + 12) = .inl (G.2 0, 5, .inl (fun _ => 0)) := by rw [hf39, bu_n _ _ (by omega)]; exact h_len12_38
  have h_len13_39 : f39 (len + 13) = .inl (G.2 0, 5, .inl (fun _ => 0)) := by rw [hf39, bu_n _ _ (by omega)]; exact h_len13_38
  have h_len14_39 : f39 (len + 14) = .inl (G.2 0, 5, .inl (fun _ => 0)) := by rw [hf39, bu_n _ _ (by omega)]; exact h_len14_38
  have h_len15_39 : f39 (len + 15) = .inl (G.2 0, 520, .inl (fun _ => 0)) := by rw [hf39, bu_n _ _ (by omega)]; exact h_len15_38
  have h_len16_39 : f39 (len + 16) = .inl (G.2 0, 400, .inl (fun _ => 0)) := by rw [hf39, bu_n _ _ (by omega)]; exact h_len16_38
  have h_len17_39 : f39 (len + 17) = .inl (G.2 0, 400, .inl (fun _ => 0)) := by rw [hf39, bu_n _ _ (by omega)]; exact h_len17_38
  have h_len18_39 : f39 (len + 18) = .inl (G.2 0, 400, .inl (fun _ => 0)) := by rw [hf39, bu_n _ _ (by omega)]; exact h_len18_38
  have h_len19_39 : f39 (len + 19) = .inl (G.2 0, 400, .inl (fun _ => 0)) := by rw [hf39, bu_s]
  have hx39 : ∀ x, x < len → x ≠ o → f39 x = f x := fun x z1 z2 => (congrFun hf39 x).trans ((bu_n _ _ (by omega)).trans (hx38 x z1 z2))
  refine W.widen (k := 20) (n := 12435) (by omega) (by omega) ?_
  refine bw_putF (D := G.1) (ci := 6) (C := "TwoPhaseCutsModel") (T := T_R) (N := 27) (v := .ref (base + (len + 19))) (ty := .array .int) (o := o) hx hb hts ui_R ty_R tyo_R nmo_R hown hK hB hS (by omega) h_o_39 rfl 22 (by decide) (hts _ tw_396) (fun _ h9 => h9) rfl hin rfl (by decide +kernel) rfl rfl (Nat.le_of_ble_eq_true rfl) d_R_init_160 (fun H locs hB hS => ?_)
  have hB : bw G.1 ec_cl base (bu f39 (o) (.inr (6, [.int 0, .ref (base + (len)), .ref (base + (len + 1)), .ref (base + (len + 2)), .ref (base + (len + 3)), .ref (base + (len + 4)), .ref (base + (len + 5)), .ref (base + (len + 6)), .ref (base + (len + 7)), .ref (base + (len + 8)), .ref (base + (len + 9)), .ref (base + (len + 10)), .ref (base + (len + 11)), .ref (base + (len + 12)), .ref (base + (len + 13)), .ref (base + (len + 14)), .int 0, .ref (base + (len + 15)), .int 0, .ref (base + (len + 16)), .ref (base + (len + 17)), .ref (base + (len + 18)), .ref (base + (len + 19)), .null, .null, .null, .null]))) (len + 20) H := hB
  obtain ⟨f40, hf40⟩ : ∃ g, g = bu f39 (o) (.inr (6, [.int 0, .ref (base + (len)), .ref (base + (len + 1)), .ref (base + (len + 2)), .ref (base + (len + 3)), .ref (base + (len + 4)), .ref (base + (len + 5)), .ref (base + (len + 6)), .ref (base + (len + 7)), .ref (base + (len + 8)), .ref (base + (len + 9)), .ref (base + (len + 10)), .ref (base + (len + 11)), .ref (base + (len + 12)), .ref (base + (len + 13)), .ref (base + (len + 14)), .int 0, .ref (base + (len + 15)), .int 0, .ref (base + (len + 16)), .ref (base + (len + 17)), .ref (base + (len + 18)), .ref (base + (len + 19)), .null, .null, .null, .null])) := ⟨_, rfl⟩
  rw [← hf40] at hB
  have hB : bw G.1 ec_cl base f40 (len + 20) H := hB
  have h_len_40 : f40 (len) = .inl (G.2 0, 5, .inl (fun _ => 0)) := by rw [hf40, bu_n _ _ (by omega)]; exact h_len_39
  have h_len1_40 : f40 (len + 1) = .inl (G.2 0, 2560, .inl (fun _ => 0)) := by rw [hf40, bu_n _ _ (by omega)]; exact h_len1_39
  have h_len2_40 : f40 (len + 2) = .inl (G.2 0, 2560, .inl (fun _ => 0)) := by rw [hf40, bu_n _ _ (by omega)]; exact h_len2_39
  have h_len3_40 : f40 (len + 3) = .inl (G.2 0, 2560, .inl (fun _ => 0)) := by rw [hf40, bu_n _ _ (by omega)]; exact h_len3_39
  have h_len4_40 : f40 (len + 4) = .inl (G.2 0, 2560, .inl (fun _ => 0)) := by rw [hf40, bu_n _ _ (by omega)]; exact h_len4_39
  have h_len5_40 : f40 (len + 5) = .inl (G.2 0, 5, .inl (fun _ => 0)) := by rw [hf40, bu_n _ _ (by omega)]; exact h_len5_39
  have h_len6_40 : f40 (len + 6) = .inl (G.2 0, 5, .inl (fun _ => 0)) := by rw [hf40, bu_n _ _ (by omega)]; exact h_len6_39
  have h_len7_40 : f40 (len + 7) = .inl (G.2 0, 25, .inl (fun _ => 0)) := by rw [hf40, bu_n _ _ (by omega)]; exact h_len7_39
  have h_len8_40 : f40 (len + 8) = .inl (G.2 1, 5, .inl (fun _ => 0)) := by rw [hf40, bu_n _ _ (by omega)]; exact h_len8_39
  have h_len9_40 : f40 (len + 9) = .inl (G.2 0, 5, .inl (fun _ => 0)) := by rw [hf40, bu_n _ _ (by omega)]; exact h_len9_39
  have h_len10_40 : f40 (len + 10) = .inl (G.2 1, 5, .inl (fun _ => 0)) := by rw [hf40, bu_n _ _ (by omega)]; exact h_len10_39
  have h_len11_40 : f40 (len + 11) = .inl (G.2 0, 5, .inl (fun _ => 0)) := by rw [hf40, bu_n _ _ (by omega)]; exact h_len11_39
  have h_len12_40 : f40 (len + 12) = .inl (G.2 0, 5, .inl (fun _ => 0)) := by rw [hf40, bu_n _ _ (by omega)]; exact h_len12_39
  have h_len13_40 : f40 (len + 13) = .inl (G.2 0, 5, .inl (fun _ => 0)) := by rw [hf40, bu_n _ _ (by omega)]; exact h_len13_39
  have h_len14_40 : f40 (len + 14) = .inl (G.2 0, 5, .inl (fun _ => 0)) := by rw [hf40, bu_n _ _ (by omega)]; exact h_len14_39
  have h_len15_40 : f40 (len + 15) = .inl (G.2 0, 520, .inl (fun _ => 0)) := by rw [hf40, bu_n _ _ (by omega)]; exact h_len15_39
  have h_len16_40 : f40 (len + 16) = .inl (G.2 0, 400, .inl (fun _ => 0)) := by rw [hf40, bu_n _ _ (by omega)]; exact h_len16_39
  have h_len17_40 : f40 (len + 17) = .inl (G.2 0, 400, .inl (fun _ => 0)) := by rw [hf40, bu_n _ _ (by omega)]; exact h_len17_39
  have h_len18_40 : f40 (len + 18) = .inl (G.2 0, 400, .inl (fun _ => 0)) := by rw [hf40, bu_n _ _ (by omega)]; exact h_len18_39
  have h_len19_40 : f40 (len + 19) = .inl (G.2 0, 400, .inl (fun _ => 0)) := by rw [hf40, bu_n _ _ (by omega)]; exact h_len19_39
  have h_o_40 : f40 (o) = .inr (6, [.int 0, .ref (base + (len)), .ref (base + (len + 1)), .ref (base + (len + 2)), .ref (base + (len + 3)), .ref (base + (len + 4)), .ref (base + (len + 5)), .ref (base + (len + 6)), .ref (base + (len + 7)), .ref (base + (len + 8)), .ref (base + (len + 9)), .ref (base + (len + 10)), .ref (base + (len + 11)), .ref (base + (len + 12)), .ref (base + (len + 13)), .ref (base + (len + 14)), .int 0, .ref (base + (len + 15)), .int 0, .ref (base + (len + 16)), .ref (base + (len + 17)), .ref (base + (len + 18)), .ref (base + (len + 19)), .null, .null, .null, .null]) := by rw [hf40, bu_s]
  have hx40 : ∀ x, x < len → x ≠ o → f40 x = f x := fun x z1 z2 => (congrFun hf40 x).trans ((bu_n _ _ (by omega)).trans (hx39 x z1 z2))
  refine lv_aload_n hx hb d_R_init_163 rfl (lv_at hl 0 rfl) ?_
  refine lv_sipush (v := nI 400) hx hb d_R_init_164 (by decide) ?_
  refine bw_newa (D := G.1) (N' := 400) (atype := .boolean) (ty := .boolean) hx hb (hts _ tw_98) rfl rfl hK 1 rfl (fun h => h) hB hS (nI_pos (by omega)) (nI_clamp (by omega)) (by show 400 * 1 ≤ 536870912; omega) (by show 20 + 1 ≤ 24; omega) (by show 12435 + 400 ≤ 13245; omega) d_R_init_167 (fun H hB hS => ?_)
  have hB : bw G.1 ec_cl base (bu f40 (len + 20) (.inl (G.2 1, 400, .inl (fun _ => 0)))) (len + 21) H := hB
  obtain ⟨f41, hf41⟩ : ∃ g, g = bu f40 (len + 20) (.inl (G.2 1, 400, .inl (fun _ => 0))) := ⟨_, rfl⟩
  rw [← hf41] at hB
  have hB : bw G.1 ec_cl base f41 (len + 21) H := hB
  have h_o_41 : f41 (o) = .inr (6, [.int 0, .ref (base + (len)), .ref (base + (len + 1)), .ref (base + (len + 2)), .ref (base + (len + 3)), .ref (base + (len + 4)), .ref (base + (len + 5)), .ref (base + (len + 6)), .ref (base + (len + 7)), .ref (base + (len + 8)), .ref (base + (len + 9)), .ref (base + (len + 10)), .ref (base + (len + 11)), .ref (base + (len + 12)), .ref (base + (len + 13)), .ref (base + (len + 14)), .int 0, .ref (base + (len + 15)), .int 0, .ref (base + (len + 16)), .ref (base + (len + 17)), .ref (base + (len + 18)), .ref (base + (len + 19)), .null, .null, .null, .null]) := by rw [hf41, bu_n _ _ (by omega)]; exact h_o_40
  have h_len_41 : f41 (len) = .inl (G.2 0, 5, .inl (fun _ => 0)) := by rw [hf41, bu_n _ _ (by omega)]; exact h_len_40
  have h_len1_41 : f41 (len + 1) = .inl (G.2 0, 2560, .inl (fun _ => 0)) := by rw [hf41, bu_n _ _ (by omega)]; exact h_len1_40
  have h_len2_41 : f41 (len + 2) = .inl (G.2 0, 2560, .inl (fun _ => 0)) := by rw [hf41, bu_n _ _ (by omega)]; exact h_len2_40
  have h_len3_41 : f41 (len + 3) = .inl (G.2 0, 2560, .inl (fun _ => 0)) := by rw [hf41, bu_n _ _ (by omega)]; exact h_len3_40
  have h_len4_41 : f41 (len + 4) = .inl (G.2 0, 2560, .inl (fun _ => 0)) := by rw [hf41, bu_n _ _ (by omega)]; exact h_len4_40
  have h_len5_41 : f41 (len + 5) = .inl (G.2 0, 5, .inl (fun _ => 0)) := by rw [hf41, bu_n _ _ (by omega)]; exact h_len5_40
  have h_len6_41 : f41 (len + 6) = .inl (G.2 0, 5, .inl (fun _ => 0)) := by rw [hf41, bu_n _ _ (by omega)]; exact h_len6_40
  have h_len7_41 : f41 (len + 7) = .inl (G.2 0, 25, .inl (fun _ => 0)) := by rw [hf41, bu_n _ _ (by omega)]; exact h_len7_40
  have h_len8_41 : f41 (len + 8) = .inl (G.2 1, 5, .inl (fun _ => 0)) := by rw [hf41, bu_n _ _ (by omega)]; exact h_len8_40
  have h_len9_41 : f41 (len + 9) = .inl (G.2 0, 5, .inl (fun _ => 0)) := by rw [hf41, bu_n _ _ (by omega)]; exact h_len9_40
  have h_len10_41 : f41 (len + 10) = .inl (G.2 1, 5, .inl (fun _ => 0)) := by rw [hf41, bu_n _ _ (by omega)]; exact h_len10_40
  have h_len11_41 : f41 (len + 11) = .inl (G.2 0, 5, .inl (fun _ => 0)) := by rw [hf41, bu_n _ _ (by omega)]; exact h_len11_40
  have h_len12_41 : f41 (len + 12) = .inl (G.2 0, 5, .inl (fun _ => 0)) := by rw [hf41, bu_n _ _ (by omega)]; exact h_len12_40
  have h_len13_41 : f41 (len + 13) = .inl (G.2 0, 5, .inl (fun _ => 0)) := by rw [hf41, bu_n _ _ (by omega)]; exact h_len13_40
  have h_len14_41 : f41 (len + 14) = .inl (G.2 0, 5, .inl (fun _ => 0)) := by rw [hf41, bu_n _ _ (by omega)]; exact h_len14_40
  have h_len15_41 : f41 (len + 15) = .inl (G.2 0, 520, .inl (fun _ => 0)) := by rw [hf41, bu_n _ _ (by omega)]; exact h_len15_40
  have h_len16_41 : f41 (len + 16) = .inl (G.2 0, 400, .inl (fun _ => 0)) := by rw [hf41, bu_n _ _ (by omega)]; exact h_len16_40
  have h_len17_41 : f41 (len + 17) = .inl (G.2 0, 400, .inl (fun _ => 0)) := by rw [hf41, bu_n _ _ (by omega)]; exact h_len17_40
  have h_len18_41 : f41 (len + 18) = .inl (G.2 0, 400, .inl (fun _ => 0)) := by rw [hf41, bu_n _ _ (by omega)]; exact h_len18_40
  have h_len19_41 : f41 (len + 19) = .inl (G.2 0, 400, .inl (fun _ => 0)) := by rw [hf41, bu_n _ _ (by omega)]; exact h_len19_40
  have h_len20_41 : f41 (len + 20) = .inl (G.2 1, 400, .inl (fun _ => 0)) := by rw [hf41, bu_s]
  have hx41 : ∀ x, x < len → x ≠ o → f41 x = f x := fun x z1 z2 => (congrFun hf41 x).trans ((bu_n _ _ (by omega)).trans (hx40 x z1 z2))
  refine W.widen (k := 21) (n := 12835) (by omega) (by omega) ?_
  refine bw_putF (D := G.1) (ci := 6) (C := "TwoPhaseCutsModel") (T := T_R) (N := 27) (v := .ref (base + (len + 20))) (ty := .array .boolean) (o := o) hx hb hts ui_R ty_R tyo_R nmo_R hown hK hB hS (by omega) h_o_41 rfl 23 (by decide) (hts _ tw_397) (fun _ h9 => h9) rfl hin rfl (by decide +kernel) rfl rfl (Nat.le_of_ble_eq_true rfl) d_R_init_169 (fun H locs hB hS => ?_)
  have hB : bw G.1 ec_cl base (bu f41 (o) (.inr (6, [.int 0, .ref (base + (len)), .ref (base + (len + 1)), .ref (base + (len + 2)), .ref (base + (len + 3)), .ref (base + (len + 4)), .ref (base + (len + 5)), .ref (base + (len + 6)), .ref (base + (len + 7)), .ref (base + (len + 8)), .ref (base + (len + 9)), .ref (base + (len + 10)), .ref (base + (len + 11)), .ref (base + (len + 12)), .ref (base + (len + 13)), .ref (base + (len + 14)), .int 0, .ref (base + (len + 15)), .int 0, .ref (base + (len + 16)), .ref (base + (len + 17)), .ref (base + (len + 18)), .ref (base + (len + 19)), .ref (base + (len + 20)), .null, .null, .null]))) (len + 21) H := hB
  obtain ⟨f42, hf42⟩ : ∃ g, g = bu f41 (o) (.inr (6, [.int 0, .ref (base + (len)), .ref (base + (len + 1)), .ref (base + (len + 2)), .ref (base + (len + 3)), .ref (base + (len + 4)), .ref (base + (len + 5)), .ref (base + (len + 6)), .ref (base + (len + 7)), .ref (base + (len + 8)), .ref (base + (len + 9)), .ref (base + (len + 10)), .ref (base + (len + 11)), .ref (base + (len + 12)), .ref (base + (len + 13)), .ref (base + (len + 14)), .int 0, .ref (base + (len + 15)), .int 0, .ref (base + (len + 16)), .ref (base + (len + 17)), .ref (base + (len + 18)), .ref (base + (len + 19)), .ref (base + (len + 20)), .null, .null, .null])) := ⟨_, rfl⟩
  rw [← hf42] at hB
  have hB : bw G.1 ec_cl base f42 (len + 21) H := hB
  have h_len_42 : f42 (len) = .inl (G.2 0, 5, .inl (fun _ => 0)) := by rw [hf42, bu_n _ _ (by omega)]; exact h_len_41
  have h_len1_42 : f42 (len + 1) = .inl (G.2 0, 2560, .inl (fun _ => 0)) := by rw [hf42, bu_n _ _ (by omega)]; exact h_len1_41
  have h_len2_42 : f42 (len + 2) = .inl (G.2 0, 2560, .inl (fun _ => 0)) := by rw [hf42, bu_n _ _ (by omega)]; exact h_len2_41
  have h_len3_42 : f42 (len + 3) = .inl (G.2 0, 2560, .inl (fun _ => 0)) := by rw [hf42, bu_n _ _ (by omega)]; exact h_len3_41
  have h_len4_42 : f42 (len + 4) = .inl (G.2 0, 2560, .inl (fun _ => 0)) := by rw [hf42, bu_n _ _ (by omega)]; exact h_len4_41
  have h_len5_42 : f42 (len + 5) = .inl (G.2 0, 5, .inl (fun _ => 0)) := by rw [hf42, bu_n _ _ (by omega)]; exact h_len5_41
  have h_len6_42 : f42 (len + 6) = .inl (G.2 0, 5, .inl (fun _ => 0)) := by rw [hf42, bu_n _ _ (by omega)]; exact h_len6_41
  have h_len7_42 : f42 (len + 7) = .inl (G.2 0, 25, .inl (fun _ => 0)) := by rw [hf42, bu_n _ _ (by omega)]; exact h_len7_41
  have h_len8_42 : f42 (len + 8) = .inl (G.2 1, 5, .inl (fun _ => 0)) := by rw [hf42, bu_n _ _ (by omega)]; exact h_len8_41
  have h_len9_42 : f42 (len + 9) = .inl (G.2 0, 5, .inl (fun _ => 0)) := by rw [hf42, bu_n _ _ (by omega)]; exact h_len9_41
  have h_len10_42 : f42 (len + 10) = .inl (G.2 1, 5, .inl (fun _ => 0)) := by rw [hf42, bu_n _ _ (by omega)]; exact h_len10_41
  have h_len11_42 : f42 (len + 11) = .inl (G.2 0, 5, .inl (fun _ => 0)) := by rw [hf42, bu_n _ _ (by omega)]; exact h_len11_41
  have h_len12_42 : f42 (len + 12) = .inl (G.2 0, 5, .inl (fun _ => 0)) := by rw [hf42, bu_n _ _ (by omega)]; exact h_len12_41
  have h_len13_42 : f42 (len + 13) = .inl (G.2 0, 5, .inl (fun _ => 0)) := by rw [hf42, bu_n _ _ (by omega)]; exact h_len13_41
  have h_len14_42 : f42 (len + 14) = .inl (G.2 0, 5, .inl (fun _ => 0)) := by rw [hf42, bu_n _ _ (by omega)]; exact h_len14_41
  have h_len15_42 : f42 (len + 15) = .inl (G.2 0, 520, .inl (fun _ => 0)) := by rw [hf42, bu_n _ _ (by omega)]; exact h_len15_41
  have h_len16_42 : f42 (len + 16) = .inl (G.2 0, 400, .inl (fun _ => 0)) := by rw [hf42, bu_n _ _ (by omega)]; exact h_len16_41
  have h_len17_42 : f42 (len + 17) = .inl (G.2 0, 400, .inl (fun _ => 0)) := by rw [hf42, bu_n _ _ (by omega)]; exact h_len17_41
  have h_len18_42 : f42 (len + 18) = .inl (G.2 0, 400, .inl (fun _ => 0)) := by rw [hf42, bu_n _ _ (by omega)]; exact h_len18_41
  have h_len19_42 : f42 (len + 19) = .inl (G.2 0, 400, .inl (fun _ => 0)) := by rw [hf42, bu_n _ _ (by omega)]; exact h_len19_41
  have h_len20_42 : f42 (len + 20) = .inl (G.2 1, 400, .inl (fun _ => 0)) := by rw [hf42, bu_n _ _ (by omega)]; exact h_len20_41
  have h_o_42 : f42 (o) = .inr (6, [.int 0, .ref (base + (len)), .ref (base + (len + 1)), .ref (base + (len + 2)), .ref (base + (len + 3)), .ref (base + (len + 4)), .ref (base + (len + 5)), .ref (base + (len + 6)), .ref (base + (len + 7)), .ref (base + (len + 8)), .ref (base + (len + 9)), .ref (base + (len + 10)), .ref (base + (len + 11)), .ref (base + (len + 12)), .ref (base + (len + 13)), .ref (base + (len + 14)), .int 0, .ref (base + (len + 15)), .int 0, .ref (base + (len + 16)), .ref (base + (len + 17)), .ref (base + (len + 18)), .ref (base + (len + 19)), .ref (base + (len + 20)), .null, .null, .null]) := by rw [hf42, bu_s]
  have hx42 : ∀ x, x < len → x ≠ o → f42 x = f x := fun x z1 z2 => (congrFun hf42 x).trans ((bu_n _ _ (by omega)).trans (hx41 x z1 z2))
  refine lv_aload_n hx hb d_R_init_172 rfl (lv_at hl 0 rfl) ?_
  refine lv_sipush (v := nI 400) hx hb d_R_init_173 (by decide) ?_
  refine bw_newa (D := G.1) (N' := 400) (atype := .int) (ty := .int) hx hb (hts _ tw_51) rfl rfl hK 0 rfl (fun h => h) hB hS (nI_pos (by omega)) (nI_clamp (by omega)) (by show 400 * 4 ≤ 536870912; omega) (by show 21 + 1 ≤ 24; omega) (by show 12835 + 400 ≤ 13245; omega) d_R_init_176 (fun H hB hS => ?_)
  have hB : bw G.1 ec_cl base (bu f42 (len + 21) (.inl (G.2 0, 400, .inl (fun _ => 0)))) (len + 22) H := hB
  obtain ⟨f43, hf43⟩ : ∃ g, g = bu f42 (len + 21) (.inl (G.2 0, 400, .inl (fun _ => 0))) := ⟨_, rfl⟩
  rw [← hf43] at hB
  have hB : bw G.1 ec_cl base f43 (len + 22) H := hB
  have h_o_43 : f43 (o) = .inr (6, [.int 0, .ref (base + (len)), .ref (base + (len + 1)), .ref (base + (len + 2)), .ref (base + (len + 3)), .ref (base + (len + 4)), .ref (base + (len + 5)), .ref (base + (len + 6)), .ref (base + (len + 7)), .ref (base + (len + 8)), .ref (base + (len + 9)), .ref (base + (len + 10)), .ref (base + (len + 11)), .ref (base + (len + 12)), .ref (base + (len + 13)), .ref (base + (len + 14)), .int 0, .ref (base + (len + 15)), .int 0, .ref (base + (len + 16)), .ref (base + (len + 17)), .ref (base + (len + 18)), .ref (base + (len + 19)), .ref (base + (len + 20)), .null, .null, .null]) := by rw [hf43, bu_n _ _ (by omega)]; exact h_o_42
  have h_len_43 : f43 (len) = .inl (G.2 0, 5, .inl (fun _ => 0)) := by rw [hf43, bu_n _ _ (by omega)]; exact h_len_42
  have h_len1_43 : f43 (len + 1) = .inl (G.2 0, 2560, .inl (fun _ => 0)) := by rw [hf43, bu_n _ _ (by omega)]; exact h_len1_42
  have h_len2_43 : f43 (len + 2) = .inl (G.2 0, 2560, .inl (fun _ => 0)) := by rw [hf43, bu_n _ _ (by omega)]; exact h_len2_42
  have h_len3_43 : f43 (len + 3) = .inl (G.2 0, 2560, .inl (fun _ => 0)) := by rw [hf43, bu_n _ _ (by omega)]; exact h_len3_42
  have h_len4_43 : f43 (len + 4) = .inl (G.2 0, 2560, .inl (fun _ => 0)) := by rw [hf43, bu_n _ _ (by omega)]; exact h_len4_42
  have h_len5_43 : f43 (len + 5) = .inl (G.2 0, 5, .inl (fun _ => 0)) := by rw [hf43, bu_n _ _ (by omega)]; exact h_len5_42
  have h_len6_43 : f43 (len + 6) = .inl (G.2 0, 5, .inl (fun _ => 0)) := by rw [hf43, bu_n _ _ (by omega)]; exact h_len6_42
  have h_len7_43 : f43 (len + 7) = .inl (G.2 0, 25, .inl (fun _ => 0)) := by rw [hf43, bu_n _ _ (by omega)]; exact h_len7_42
  have h_len8_43 : f43 (len + 8) = .inl (G.2 1, 5, .inl (fun _ => 0)) := by rw [hf43, bu_n _ _ (by omega)]; exact h_len8_42
  have h_len9_43 : f43 (len + 9) = .inl (G.2 0, 5, .inl (fun _ => 0)) := by rw [hf43, bu_n _ _ (by omega)]; exact h_len9_42
  have h_len10_43 : f43 (len + 10) = .inl (G.2 1, 5, .inl (fun _ => 0)) := by rw [hf43, bu_n _ _ (by omega)]; exact h_len10_42
  have h_len11_43 : f43 (len + 11) = .inl (G.2 0, 5, .inl (fun _ => 0)) := by rw [hf43, bu_n _ _ (by omega)]; exact h_len11_42
  have h_len12_43 : f43 (len + 12) = .inl (G.2 0, 5, .inl (fun _ => 0)) := by rw [hf43, bu_n _ _ (by omega)]; exact h_len12_42
  have h_len13_43 : f43 (len + 13) = .inl (G.2 0, 5, .inl (fun _ => 0)) := by rw [hf43, bu_n _ _ (by omega)]; exact h_len13_42
  have h_len14_43 : f43 (len + 14) = .inl (G.2 0, 5, .inl (fun _ => 0)) := by rw [hf43, bu_n _ _ (by omega)]; exact h_len14_42
  have h_len15_43 : f43 (len + 15) = .inl (G.2 0, 520, .inl (fun _ => 0)) := by rw [hf43, bu_n _ _ (by omega)]; exact h_len15_42
  have h_len16_43 : f43 (len + 16) = .inl (G.2 0, 400, .inl (fun _ => 0)) := by rw [hf43, bu_n _ _ (by omega)]; exact h_len16_42
  have h_len17_43 : f43 (len + 17) = .inl (G.2 0, 400, .inl (fun _ => 0)) := by rw [hf43, bu_n _ _ (by omega)]; exact h_len17_42
  have h_len18_43 : f43 (len + 18) = .inl (G.2 0, 400, .inl (fun _ => 0)) := by rw [hf43, bu_n _ _ (by omega)]; exact h_len18_42
  have h_len19_43 : f43 (len + 19) = .inl (G.2 0, 400, .inl (fun _ => 0)) := by rw [hf43, bu_n _ _ (by omega)]; exact h_len19_42
  have h_len20_43 : f43 (len + 20) = .inl (G.2 1, 400, .inl (fun _ => 0)) := by rw [hf43, bu_n _ _ (by omega)]; exact h_len20_42
  have h_len21_43 : f43 (len + 21) = .inl (G.2 0, 400, .inl (fun _ => 0)) := by rw [hf43, bu_s]
  have hx43 : ∀ x, x < len → x ≠ o → f43 x = f x := fun x z1 z2 => (congrFun hf43 x).trans ((bu_n _ _ (by omega)).trans (hx42 x z1 z2))
  refine W.widen (k := 22) (n := 13235) (by omega) (by omega) ?_
  refine bw_putF (D := G.1) (ci := 6) (C := "TwoPhaseCutsModel") (T := T_R) (N := 27) (v := .ref (base + (len + 21))) (ty := .array .int) (o := o) hx hb hts ui_R ty_R tyo_R nmo_R hown hK hB hS (by omega) h_o_43 rfl 24 (by decide) (hts _ tw_398) (fun _ h9 => h9) rfl hin rfl (by decide +kernel) rfl rfl (Nat.le_of_ble_eq_true rfl) d_R_init_178 (fun H locs hB hS => ?_)
  have hB : bw G.1 ec_cl base (bu f43 (o) (.inr (6, [.int 0, .ref (base + (len)), .ref (base + (len + 1)), .ref (base + (len + 2)), .ref (base + (len + 3)), .ref (base + (len + 4)), .ref (base + (len + 5)), .ref (base + (len + 6)), .ref (base + (len + 7)), .ref (base + (len + 8)), .ref (base + (len + 9)), .ref (base + (len + 10)), .ref (base + (len + 11)), .ref (base + (len + 12)), .ref (base + (len + 13)), .ref (base + (len + 14)), .int 0, .ref (base + (len + 15)), .int 0, .ref (base + (len + 16)), .ref (base + (len + 17)), .ref (base + (len + 18)), .ref (base + (len + 19)), .ref (base + (len + 20)), .ref (base + (len + 21)), .null, .null]))) (len + 22) H := hB
  obtain ⟨f44, hf44⟩ : ∃ g, g = bu f43 (o) (.inr (6, [.int 0, .ref (base + (len)), .ref (base + (len + 1)), .ref (base + (len + 2)), .ref (base + (len + 3)), .ref (base + (len + 4)), .ref (base + (len + 5)), .ref (base + (len + 6)), .ref (base + (len + 7)), .ref (base + (len + 8)), .ref (base + (len + 9)), .ref (base + (len + 10)), .ref (base + (len + 11)), .ref (base + (len + 12)), .ref (base + (len + 13)), .ref (base + (len + 14)), .int 0, .ref (base + (len + 15)), .int 0, .ref (base + (len + 16)), .ref (base + (len + 17)), .ref (base + (len + 18)), .ref (base + (len + 19)), .ref (base + (len + 20)), .ref (base + (len + 21)), .null, .null])) := ⟨_, rfl⟩
  rw [← hf44] at hB
  have hB : bw G.1 ec_cl base f44 (len + 22) H := hB
  have h_len_44 : f44 (len) = .inl (G.2 0, 5, .inl (fun _ => 0)) := by rw [hf44, bu_n _ _ (by omega)]; exact h_len_43
  have h_len1_44 : f44 (len + 1) = .inl (G.2 0, 2560, .inl (fun _ => 0)) := by rw [hf44, bu_n _ _ (by omega)]; exact h_len1_43
  have h_len2_44 : f44 (len + 2) = .inl (G.2 0, 2560, .inl (fun _ => 0)) := by rw [hf44, bu_n _ _ (by omega)]; exact h_len2_43
  have h_len3_44 : f44 (len + 3) = .inl (G.2 0, 2560, .inl (fun _ => 0)) := by rw [hf44, bu_n _ _ (by omega)]; exact h_len3_43
  have h_len4_44 : f44 (len + 4) = .inl (G.2 0, 2560, .inl (fun _ => 0)) := by rw [hf44, bu_n _ _ (by omega)]; exact h_len4_43
  have h_len5_44 : f44 (len + 5) = .inl (G.2 0, 5, .inl (fun _ => 0)) := by rw [hf44, bu_n _ _ (by omega)]; exact h_len5_43
  have h_len6_44 : f44 (len + 6) = .inl (G.2 0, 5, .inl (fun _ => 0)) := by rw [hf44, bu_n _ _ (by omega)]; exact h_len6_43
  have h_len7_44 : f44 (len + 7) = .inl (G.2 0, 25, .inl (fun _ => 0)) := by rw [hf44, bu_n _ _ (by omega)]; exact h_len7_43
  have h_len8_44 : f44 (len + 8) = .inl (G.2 1, 5, .inl (fun _ => 0)) := by rw [hf44, bu_n _ _ (by omega)]; exact h_len8_43
  have h_len9_44 : f44 (len + 9) = .inl (G.2 0, 5, .inl (fun _ => 0)) := by rw [hf44, bu_n _ _ (by omega)]; exact h_len9_43
  have h_len10_44 : f44 (len + 10) = .inl (G.2 1, 5, .inl (fun _ => 0)) := by rw [hf44, bu_n _ _ (by omega)]; exact h_len10_43
  have h_len11_44 : f44 (len + 11) = .inl (G.2 0, 5, .inl (fun _ => 0)) := by rw [hf44, bu_n _ _ (by omega)]; exact h_len11_43
  have h_len12_44 : f44 (len + 12) = .inl (G.2 0, 5, .inl (fun _ => 0)) := by rw [hf44, bu_n _ _ (by omega)]; exact h_len12_43
  have h_len13_44 : f44 (len + 13) = .inl (G.2 0, 5, .inl (fun _ => 0)) := by rw [hf44, bu_n _ _ (by omega)]; exact h_len13_43
  have h_len14_44 : f44 (len + 14) = .inl (G.2 0, 5, .inl (fun _ => 0)) := by rw [hf44, bu_n _ _ (by omega)]; exact h_len14_43
  have h_len15_44 : f44 (len + 15) = .inl (G.2 0, 520, .inl (fun _ => 0)) := by rw [hf44, bu_n _ _ (by omega)]; exact h_len15_43
  have h_len16_44 : f44 (len + 16) = .inl (G.2 0, 400, .inl (fun _ => 0)) := by rw [hf44, bu_n _ _ (by omega)]; exact h_len16_43
  have h_len17_44 : f44 (len + 17) = .inl (G.2 0, 400, .inl (fun _ => 0)) := by rw [hf44, bu_n _ _ (by omega)]; exact h_len17_43
  have h_len18_44 : f44 (len + 18) = .inl (G.2 0, 400, .inl (fun _ => 0)) := by rw [hf44, bu_n _ _ (by omega)]; exact h_len18_43
  have h_len19_44 : f44 (len + 19) = .inl (G.2 0, 400, .inl (fun _ => 0)) := by rw [hf44, bu_n _ _ (by omega)]; exact h_len19_43
  have h_len20_44 : f44 (len + 20) = .inl (G.2 1, 400, .inl (fun _ => 0)) := by rw [hf44, bu_n _ _ (by omega)]; exact h_len20_43
  have h_len21_44 : f44 (len + 21) = .inl (G.2 0, 400, .inl (fun _ => 0)) := by rw [hf44, bu_n _ _ (by omega)]; exact h_len21_43
  have h_o_44 : f44 (o) = .inr (6, [.int 0, .ref (base + (len)), .ref (base + (len + 1)), .ref (base + (len + 2)), .ref (base + (len + 3)), .ref (base + (len + 4)), .ref (base + (len + 5)), .ref (base + (len + 6)), .ref (base + (len + 7)), .ref (base + (len + 8)), .ref (base + (len + 9)), .ref (base + (len + 10)), .ref (base + (len + 11)), .ref (base + (len + 12)), .ref (base + (len + 13)), .ref (base + (len + 14)), .int 0, .ref (base + (len + 15)), .int 0, .ref (base + (len + 16)), .ref (base + (len + 17)), .ref (base + (len + 18)), .ref (base + (len + 19)), .ref (base + (len + 20)), .ref (base + (len + 21)), .null, .null]) := by rw [hf44, bu_s]
  have hx44 : ∀ x, x < len → x ≠ o → f44 x = f x := fun x z1 z2 => (congrFun hf44 x).trans ((bu_n _ _ (by omega)).trans (hx43 x z1 z2))
  refine lv_aload_n hx hb d_R_init_181 rfl (lv_at hl 0 rfl) ?_
  refine lv_iconst (v := nI 5) hx hb d_R_init_182 (by decide) ?_
  refine bw_newa (D := G.1) (N' := 5) (atype := .int) (ty := .int) hx hb (hts _ tw_51) rfl rfl hK 0 rfl (fun h => h) hB hS (nI_pos (by omega)) (nI_clamp (by omega)) (by show 5 * 4 ≤ 536870912; omega) (by show 22 + 1 ≤ 24; omega) (by show 13235 + 5 ≤ 13245; omega) d_R_init_183 (fun H hB hS => ?_)
  have hB : bw G.1 ec_cl base (bu f44 (len + 22) (.inl (G.2 0, 5, .inl (fun _ => 0)))) (len + 23) H := hB
  obtain ⟨f45, hf45⟩ : ∃ g, g = bu f44 (len + 22) (.inl (G.2 0, 5, .inl (fun _ => 0))) := ⟨_, rfl⟩
  rw [← hf45] at hB
  have hB : bw G.1 ec_cl base f45 (len + 23) H := hB
  have h_o_45 : f45 (o) = .inr (6, [.int 0, .ref (base + (len)), .ref (base + (len + 1)), .ref (base + (len + 2)), .ref (base + (len + 3)), .ref (base + (len + 4)), .ref (base + (len + 5)), .ref (base + (len + 6)), .ref (base + (len + 7)), .ref (base + (len + 8)), .ref (base + (len + 9)), .ref (base + (len + 10)), .ref (base + (len + 11)), .ref (base + (len + 12)), .ref (base + (len + 13)), .ref (base + (len + 14)), .int 0, .ref (base + (len + 15)), .int 0, .ref (base + (len + 16)), .ref (base + (len + 17)), .ref (base + (len + 18)), .ref (base + (len + 19)), .ref (base + (len + 20)), .ref (base + (len + 21)), .null, .null]) := by rw [hf45, bu_n _ _ (by omega)]; exact h_o_44
  have h_len_45 : f45 (len) = .inl (G.2 0, 5, .inl (fun _ => 0)) := by rw [hf45, bu_n _ _ (by omega)]; exact h_len_44
  have h_len1_45 : f45 (len + 1) = .inl (G.2 0, 2560, .inl (fun _ => 0)) := by rw [hf45, bu_n _ _ (by omega)]; exact h_len1_44
  have h_len2_45 : f45 (len + 2) = .inl (G.2 0, 2560, .inl (fun _ => 0)) := by rw [hf45, bu_n _ _ (by omega)]; exact h_len2_44
  have h_len3_45 : f45 (len + 3) = .inl (G.2 0, 2560, .inl (fun _ => 0)) := by rw [hf45, bu_n _ _ (by omega)]; exact h_len3_44
  have h_len4_45 : f45 (len + 4) = .inl (G.2 0, 2560, .inl (fun _ => 0)) := by rw [hf45, bu_n _ _ (by omega)]; exact h_len4_44
  have h_len5_45 : f45 (len + 5) = .inl (G.2 0, 5, .inl (fun _ => 0)) := by rw [hf45, bu_n _ _ (by omega)]; exact h_len5_44
  have h_len6_45 : f45 (len + 6) = .inl (G.2 0, 5, .inl (fun _ => 0)) := by rw [hf45, bu_n _ _ (by omega)]; exact h_len6_44
  have h_len7_45 : f45 (len + 7) = .inl (G.2 0, 25, .inl (fun _ => 0)) := by rw [hf45, bu_n _ _ (by omega)]; exact h_len7_44
  have h_len8_45 : f45 (len + 8) = .inl (G.2 1, 5, .inl (fun _ => 0)) := by rw [hf45, bu_n _ _ (by omega)]; exact h_len8_44
  have h_len9_45 : f45 (len + 9) = .inl (G.2 0, 5, .inl (fun _ => 0)) := by rw [hf45, bu_n _ _ (by omega)]; exact h_len9_44
  have h_len10_45 : f45 (len + 10) = .inl (G.2 1, 5, .inl (fun _ => 0)) := by rw [hf45, bu_n _ _ (by omega)]; exact h_len10_44
  have h_len11_45 : f45 (len + 11) = .inl (G.2 0, 5, .inl (fun _ => 0)) := by rw [hf45, bu_n _ _ (by omega)]; exact h_len11_44
  have h_len12_45 : f45 (len + 12) = .inl (G.2 0, 5, .inl (fun _ => 0)) := by rw [hf45, bu_n _ _ (by omega)]; exact h_len12_44
  have h_len13_45 : f45 (len + 13) = .inl (G.2 0, 5, .inl (fun _ => 0)) := by rw [hf45, bu_n _ _ (by omega)]; exact h_len13_44
  have h_len14_45 : f45 (len + 14) = .inl (G.2 0, 5, .inl (fun _ => 0)) := by rw [hf45, bu_n _ _ (by omega)]; exact h_len14_44
  have h_len15_45 : f45 (len + 15) = .inl (G.2 0, 520, .inl (fun _ => 0)) := by rw [hf45, bu_n _ _ (by omega)]; exact h_len15_44
  have h_len16_45 : f45 (len + 16) = .inl (G.2 0, 400, .inl (fun _ => 0)) := by rw [hf45, bu_n _ _ (by omega)]; exact h_len16_44
  have h_len17_45 : f45 (len + 17) = .inl (G.2 0, 400, .inl (fun _ => 0)) := by rw [hf45, bu_n _ _ (by omega)]; exact h_len17_44
  have h_len18_45 : f45 (len + 18) = .inl (G.2 0, 400, .inl (fun _ => 0)) := by rw [hf45, bu_n _ _ (by omega)]; exact h_len18_44
  have h_len19_45 : f45 (len + 19) = .inl (G.2 0, 400, .inl (fun _ => 0)) := by rw [hf45, bu_n _ _ (by omega)]; exact h_len19_44
  have h_len20_45 : f45 (len + 20) = .inl (G.2 1, 400, .inl (fun _ => 0)) := by rw [hf45, bu_n _ _ (by omega)]; exact h_len20_44
  have h_len21_45 : f45 (len + 21) = .inl (G.2 0, 400, .inl (fun _ => 0)) := by rw [hf45, bu_n _ _ (by omega)]; exact h_len21_44
  have h_len22_45 : f45 (len + 22) = .inl (G.2 0, 5, .inl (fun _ => 0)) := by rw [hf45, bu_s]
  have hx45 : ∀ x, x < len → x ≠ o → f45 x = f x := fun x z1 z2 => (congrFun hf45 x).trans ((bu_n _ _ (by omega)).trans (hx44 x z1 z2))
  refine W.widen (k := 23) (n := 13240) (by omega) (by omega) ?_
  refine bw_putF (D := G.1) (ci := 6) (C := "TwoPhaseCutsModel") (T := T_R) (N := 27) (v := .ref (base + (len + 22))) (ty := .array .int) (o := o) hx hb hts ui_R ty_R tyo_R nmo_R hown hK hB hS (by omega) h_o_45 rfl 25 (by decide) (hts _ tw_399) (fun _ h9 => h9) rfl hin rfl (by decide +kernel) rfl rfl (Nat.le_of_ble_eq_true rfl) d_R_init_185 (fun H locs hB hS => ?_)
  have hB : bw G.1 ec_cl base (bu f45 (o) (.inr (6, [.int 0, .ref (base + (len)), .ref (base + (len + 1)), .ref (base + (len + 2)), .ref (base + (len + 3)), .ref (base + (len + 4)), .ref (base + (len + 5)), .ref (base + (len + 6)), .ref (base + (len + 7)), .ref (base + (len + 8)), .ref (base + (len + 9)), .ref (base + (len + 10)), .ref (base + (len + 11)), .ref (base + (len + 12)), .ref (base + (len + 13)), .ref (base + (len + 14)), .int 0, .ref (base + (len + 15)), .int 0, .ref (base + (len + 16)), .ref (base + (len + 17)), .ref (base + (len + 18)), .ref (base + (len + 19)), .ref (base + (len + 20)), .ref (base + (len + 21)), .ref (base + (len + 22)), .null]))) (len + 23) H := hB
  obtain ⟨f46, hf46⟩ : ∃ g, g = bu f45 (o) (.inr (6, [.int 0, .ref (base + (len)), .ref (base + (len + 1)), .ref (base + (len + 2)), .ref (base + (len + 3)), .ref (base + (len + 4)), .ref (base + (len + 5)), .ref (base + (len + 6)), .ref (base + (len + 7)), .ref (base + (len + 8)), .ref (base + (len + 9)), .ref (base + (len + 10)), .ref (base + (len + 11)), .ref (base + (len + 12)), .ref (base + (len + 13)), .ref (base + (len + 14)), .int 0, .ref (base + (len + 15)), .int 0, .ref (base + (len + 16)), .ref (base + (len + 17)), .ref (base + (len + 18)), .ref (base + (len + 19)), .ref (base + (len + 20)), .ref (base + (len + 21)), .ref (base + (len + 22)), .null])) := ⟨_, rfl⟩
  rw [← hf46] at hB
  have hB : bw G.1 ec_cl base f46 (len + 23) H := hB
  have h_len_46 : f46 (len) = .inl (G.2 0, 5, .inl (fun _ => 0)) := by rw [hf46, bu_n _ _ (by omega)]; exact h_len_45
  have h_len1_46 : f46 (len + 1) = .inl (G.2 0, 2560, .inl (fun _ => 0)) := by rw [hf46, bu_n _ _ (by omega)]; exact h_len1_45
  have h_len2_46 : f46 (len + 2) = .inl (G.2 0, 2560, .inl (fun _ => 0)) := by rw [hf46, bu_n _ _ (by omega)]; exact h_len2_45
  have h_len3_46 : f46 (len + 3) = .inl (G.2 0, 2560, .inl (fun _ => 0)) := by rw [hf46, bu_n _ _ (by omega)]; exact h_len3_45
  have h_len4_46 : f46 (len + 4) = .inl (G.2 0, 2560, .inl (fun _ => 0)) := by rw [hf46, bu_n _ _ (by omega)]; exact h_len4_45
  have h_len5_46 : f46 (len + 5) = .inl (G.2 0, 5, .inl (fun _ => 0)) := by rw [hf46, bu_n _ _ (by omega)]; exact h_len5_45
  have h_len6_46 : f46 (len + 6) = .inl (G.2 0, 5, .inl (fun _ => 0)) := by rw [hf46, bu_n _ _ (by omega)]; exact h_len6_45
  have h_len7_46 : f46 (len + 7) = .inl (G.2 0, 25, .inl (fun _ => 0)) := by rw [hf46, bu_n _ _ (by omega)]; exact h_len7_45
  have h_len8_46 : f46 (len + 8) = .inl (G.2 1, 5, .inl (fun _ => 0)) := by rw [hf46, bu_n _ _ (by omega)]; exact h_len8_45
  have h_len9_46 : f46 (len + 9) = .inl (G.2 0, 5, .inl (fun _ => 0)) := by rw [hf46, bu_n _ _ (by omega)]; exact h_len9_45
  have h_len10_46 : f46 (len + 10) = .inl (G.2 1, 5, .inl (fun _ => 0)) := by rw [hf46, bu_n _ _ (by omega)]; exact h_len10_45
  have h_len11_46 : f46 (len + 11) = .inl (G.2 0, 5, .inl (fun _ => 0)) := by rw [hf46, bu_n _ _ (by omega)]; exact h_len11_45
  have h_len12_46 : f46 (len + 12) = .inl (G.2 0, 5, .inl (fun _ => 0)) := by rw [hf46, bu_n _ _ (by omega)]; exact h_len12_45
  have h_len13_46 : f46 (len + 13) = .inl (G.2 0, 5, .inl (fun _ => 0)) := by rw [hf46, bu_n _ _ (by omega)]; exact h_len13_45
  have h_len14_46 : f46 (len + 14) = .inl (G.2 0, 5, .inl (fun _ => 0)) := by rw [hf46, bu_n _ _ (by omega)]; exact h_len14_45
  have h_len15_46 : f46 (len + 15) = .inl (G.2 0, 520, .inl (fun _ => 0)) := by rw [hf46, bu_n _ _ (by omega)]; exact h_len15_45
  have h_len16_46 : f46 (len + 16) = .inl (G.2 0, 400, .inl (fun _ => 0)) := by rw [hf46, bu_n _ _ (by omega)]; exact h_len16_45
  have h_len17_46 : f46 (len + 17) = .inl (G.2 0, 400, .inl (fun _ => 0)) := by rw [hf46, bu_n _ _ (by omega)]; exact h_len17_45
  have h_len18_46 : f46 (len + 18) = .inl (G.2 0, 400, .inl (fun _ => 0)) := by rw [hf46, bu_n _ _ (by omega)]; exact h_len18_45
  have h_len19_46 : f46 (len + 19) = .inl (G.2 0, 400, .inl (fun _ => 0)) := by rw [hf46, bu_n _ _ (by omega)]; exact h_len19_45
  have h_len20_46 : f46 (len + 20) = .inl (G.2 1, 400, .inl (fun _ => 0)) := by rw [hf46, bu_n _ _ (by omega)]; exact h_len20_45
  have h_len21_46 : f46 (len + 21) = .inl (G.2 0, 400, .inl (fun _ => 0)) := by rw [hf46, bu_n _ _ (by omega)]; exact h_len21_45
  have h_len22_46 : f46 (len + 22) = .inl (G.2 0, 5, .inl (fun _ => 0)) := by rw [hf46, bu_n _ _ (by omega)]; exact h_len22_45
  have h_o_46 : f46 (o) = .inr (6, [.int 0, .ref (base + (len)), .ref (base + (len + 1)), .ref (base + (len + 2)), .ref (base + (len + 3)), .ref (base + (len + 4)), .ref (base + (len + 5)), .ref (base + (len + 6)), .ref (base + (len + 7)), .ref (base + (len + 8)), .ref (base + (len + 9)), .ref (base + (len + 10)), .ref (base + (len + 11)), .ref (base + (len + 12)), .ref (base + (len + 13)), .ref (base + (len + 14)), .int 0, .ref (base + (len + 15)), .int 0, .ref (base + (len + 16)), .ref (base + (len + 17)), .ref (base + (len + 18)), .ref (base + (len + 19)), .ref (base + (len + 20)), .ref (base + (len + 21)), .ref (base + (len + 22)), .null]) := by rw [hf46, bu_s]
  have hx46 : ∀ x, x < len → x ≠ o → f46 x = f x := fun x z1 z2 => (congrFun hf46 x).trans ((bu_n _ _ (by omega)).trans (hx45 x z1 z2))
  refine lv_aload_n hx hb d_R_init_188 rfl (lv_at hl 0 rfl) ?_
  refine lv_iconst (v := nI 5) hx hb d_R_init_189 (by decide) ?_
  refine bw_newa (D := G.1) (N' := 5) (atype := .int) (ty := .int) hx hb (hts _ tw_51) rfl rfl hK 0 rfl (fun h => h) hB hS (nI_pos (by omega)) (nI_clamp (by omega)) (by show 5 * 4 ≤ 536870912; omega) (by show 23 + 1 ≤ 24; omega) (by show 13240 + 5 ≤ 13245; omega) d_R_init_190 (fun H hB hS => ?_)
  have hB : bw G.1 ec_cl base (bu f46 (len + 23) (.inl (G.2 0, 5, .inl (fun _ => 0)))) (len + 24) H := hB
  obtain ⟨f47, hf47⟩ : ∃ g, g = bu f46 (len + 23) (.inl (G.2 0, 5, .inl (fun _ => 0))) := ⟨_, rfl⟩
  rw [← hf47] at hB
  have hB : bw G.1 ec_cl base f47 (len + 24) H := hB
  have h_o_47 : f47 (o) = .inr (6, [.int 0, .ref (base + (len)), .ref (base + (len + 1)), .ref (base + (len + 2)), .ref (base + (len + 3)), .ref (base + (len + 4)), .ref (base + (len + 5)), .ref (base + (len + 6)), .ref (base + (len + 7)), .ref (base + (len + 8)), .ref (base + (len + 9)), .ref (base + (len + 10)), .ref (base + (len + 11)), .ref (base + (len + 12)), .ref (base + (len + 13)), .ref (base + (len + 14)), .int 0, .ref (base + (len + 15)), .int 0, .ref (base + (len + 16)), .ref (base + (len + 17)), .ref (base + (len + 18)), .ref (base + (len + 19)), .ref (base + (len + 20)), .ref (base + (len + 21)), .ref (base + (len + 22)), .null]) := by rw [hf47, bu_n _ _ (by omega)]; exact h_o_46
  have h_len_47 : f47 (len) = .inl (G.2 0, 5, .inl (fun _ => 0)) := by rw [hf47, bu_n _ _ (by omega)]; exact h_len_46
  have h_len1_47 : f47 (len + 1) = .inl (G.2 0, 2560, .inl (fun _ => 0)) := by rw [hf47, bu_n _ _ (by omega)]; exact h_len1_46
  have h_len2_47 : f47 (len + 2) = .inl (G.2 0, 2560, .inl (fun _ => 0)) := by rw [hf47, bu_n _ _ (by omega)]; exact h_len2_46
  have h_len3_47 : f47 (len + 3) = .inl (G.2 0, 2560, .inl (fun _ => 0)) := by rw [hf47, bu_n _ _ (by omega)]; exact h_len3_46
  have h_len4_47 : f47 (len + 4) = .inl (G.2 0, 2560, .inl (fun _ => 0)) := by rw [hf47, bu_n _ _ (by omega)]; exact h_len4_46
  have h_len5_47 : f47 (len + 5) = .inl (G.2 0, 5, .inl (fun _ => 0)) := by rw [hf47, bu_n _ _ (by omega)]; exact h_len5_46
  have h_len6_47 : f47 (len + 6) = .inl (G.2 0, 5, .inl (fun _ => 0)) := by rw [hf47, bu_n _ _ (by omega)]; exact h_len6_46
  have h_len7_47 : f47 (len + 7) = .inl (G.2 0, 25, .inl (fun _ => 0)) := by rw [hf47, bu_n _ _ (by omega)]; exact h_len7_46
  have h_len8_47 : f47 (len + 8) = .inl (G.2 1, 5, .inl (fun _ => 0)) := by rw [hf47, bu_n _ _ (by omega)]; exact h_len8_46
  have h_len9_47 : f47 (len + 9) = .inl (G.2 0, 5, .inl (fun _ => 0)) := by rw [hf47, bu_n _ _ (by omega)]; exact h_len9_46
  have h_len10_47 : f47 (len + 10) = .inl (G.2 1, 5, .inl (fun _ => 0)) := by rw [hf47, bu_n _ _ (by omega)]; exact h_len10_46
  have h_len11_47 : f47 (len + 11) = .inl (G.2 0, 5, .inl (fun _ => 0)) := by rw [hf47, bu_n _ _ (by omega)]; exact h_len11_46
  have h_len12_47 : f47 (len + 12) = .inl (G.2 0, 5, .inl (fun _ => 0)) := by rw [hf47, bu_n _ _ (by omega)]; exact h_len12_46
  have h_len13_47 : f47 (len + 13) = .inl (G.2 0, 5, .inl (fun _ => 0)) := by rw [hf47, bu_n _ _ (by omega)]; exact h_len13_46
  have h_len14_47 : f47 (len + 14) = .inl (G.2 0, 5, .inl (fun _ => 0)) := by rw [hf47, bu_n _ _ (by omega)]; exact h_len14_46
  have h_len15_47 : f47 (len + 15) = .inl (G.2 0, 520, .inl (fun _ => 0)) := by rw [hf47, bu_n _ _ (by omega)]; exact h_len15_46
  have h_len16_47 : f47 (len + 16) = .inl (G.2 0, 400, .inl (fun _ => 0)) := by rw [hf47, bu_n _ _ (by omega)]; exact h_len16_46
  have h_len17_47 : f47 (len + 17) = .inl (G.2 0, 400, .inl (fun _ => 0)) := by rw [hf47, bu_n _ _ (by omega)]; exact h_len17_46
  have h_len18_47 : f47 (len + 18) = .inl (G.2 0, 400, .inl (fun _ => 0)) := by rw [hf47, bu_n _ _ (by omega)]; exact h_len18_46
  have h_len19_47 : f47 (len + 19) = .inl (G.2 0, 400, .inl (fun _ => 0)) := by rw [hf47, bu_n _ _ (by omega)]; exact h_len19_46
  have h_len20_47 : f47 (len + 20) = .inl (G.2 1, 400, .inl (fun _ => 0)) := by rw [hf47, bu_n _ _ (by omega)]; exact h_len20_46
  have h_len21_47 : f47 (len + 21) = .inl (G.2 0, 400, .inl (fun _ => 0)) := by rw [hf47, bu_n _ _ (by omega)]; exact h_len21_46
  have h_len22_47 : f47 (len + 22) = .inl (G.2 0, 5, .inl (fun _ => 0)) := by rw [hf47, bu_n _ _ (by omega)]; exact h_len22_46
  have h_len23_47 : f47 (len + 23) = .inl (G.2 0, 5, .inl (fun _ => 0)) := by rw [hf47, bu_s]
  have hx47 : ∀ x, x < len → x ≠ o → f47 x = f x := fun x z1 z2 => (congrFun hf47 x).trans ((bu_n _ _ (by omega)).trans (hx46 x z1 z2))
  refine W.widen (k := 24) (n := 13245) (by omega) (by omega) ?_
  refine bw_putF (D := G.1) (ci := 6) (C := "TwoPhaseCutsModel") (T := T_R) (N := 27) (v := .ref (base + (len + 23))) (ty := .array .int) (o := o) hx hb hts ui_R ty_R tyo_R nmo_R hown hK hB hS (by omega) h_o_47 rfl 26 (by decide) (hts _ tw_400) (fun _ h9 => h9) rfl hin rfl (by decide +kernel) rfl rfl (Nat.le_of_ble_eq_true rfl) d_R_init_192 (fun H locs hB hS => ?_)
  have hB : bw G.1 ec_cl base (bu f47 (o) (.inr (6, [.int 0, .ref (base + (len)), .ref (base + (len + 1)), .ref (base + (len + 2)), .ref (base + (len + 3)), .ref (base + (len + 4)), .ref (base + (len + 5)), .ref (base + (len + 6)), .ref (base + (len + 7)), .ref (base + (len + 8)), .ref (base + (len + 9)), .ref (base + (len + 10)), .ref (base + (len + 11)), .ref (base + (len + 12)), .ref (base + (len + 13)), .ref (base + (len + 14)), .int 0, .ref (base + (len + 15)), .int 0, .ref (base + (len + 16)), .ref (base + (len + 17)), .ref (base + (len + 18)), .ref (base + (len + 19)), .ref (base + (len + 20)), .ref (base + (len + 21)), .ref (base + (len + 22)), .ref (base + (len + 23))]))) (len + 24) H := hB
  obtain ⟨f48, hf48⟩ : ∃ g, g = bu f47 (o) (.inr (6, [.int 0, .ref (base + (len)), .ref (base + (len + 1)), .ref (base + (len + 2)), .ref (base + (len + 3)), .ref (base + (len + 4)), .ref (base + (len + 5)), .ref (base + (len + 6)), .ref (base + (len + 7)), .ref (base + (len + 8)), .ref (base + (len + 9)), .ref (base + (len + 10)), .ref (base + (len + 11)), .ref (base + (len + 12)), .ref (base + (len + 13)), .ref (base + (len + 14)), .int 0, .ref (base + (len + 15)), .int 0, .ref (base + (len + 16)), .ref (base + (len + 17)), .ref (base + (len + 18)), .ref (base + (len + 19)), .ref (base + (len + 20)), .ref (base + (len + 21)), .ref (base + (len + 22)), .ref (base + (len + 23))])) := ⟨_, rfl⟩
  rw [← hf48] at hB
  have hB : bw G.1 ec_cl base f48 (len + 24) H := hB
  have h_len_48 : f48 (len) = .inl (G.2 0, 5, .inl (fun _ => 0)) := by rw [hf48, bu_n _ _ (by omega)]; exact h_len_47
  have h_len1_48 : f48 (len + 1) = .inl (G.2 0, 2560, .inl (fun _ => 0)) := by rw [hf48, bu_n _ _ (by omega)]; exact h_len1_47
  have h_len2_48 : f48 (len + 2) = .inl (G.2 0, 2560, .inl (fun _ => 0)) := by rw [hf48, bu_n _ _ (by omega)]; exact h_len2_47
  have h_len3_48 : f48 (len + 3) = .inl (G.2 0, 2560, .inl (fun _ => 0)) := by rw [hf48, bu_n _ _ (by omega)]; exact h_len3_47
  have h_len4_48 : f48 (len + 4) = .inl (G.2 0, 2560, .inl (fun _ => 0)) := by rw [hf48, bu_n _ _ (by omega)]; exact h_len4_47
  have h_len5_48 : f48 (len + 5) = .inl (G.2 0, 5, .inl (fun _ => 0)) := by rw [hf48, bu_n _ _ (by omega)]; exact h_len5_47
  have h_len6_48 : f48 (len + 6) = .inl (G.2 0, 5, .inl (fun _ => 0)) := by rw [hf48, bu_n _ _ (by omega)]; exact h_len6_47
  have h_len7_48 : f48 (len + 7) = .inl (G.2 0, 25, .inl (fun _ => 0)) := by rw [hf48, bu_n _ _ (by omega)]; exact h_len7_47
  have h_len8_48 : f48 (len + 8) = .inl (G.2 1, 5, .inl (fun _ => 0)) := by rw [hf48, bu_n _ _ (by omega)]; exact h_len8_47
  have h_len9_48 : f48 (len + 9) = .inl (G.2 0, 5, .inl (fun _ => 0)) := by rw [hf48, bu_n _ _ (by omega)]; exact h_len9_47
  have h_len10_48 : f48 (len + 10) = .inl (G.2 1, 5, .inl (fun _ => 0)) := by rw [hf48, bu_n _ _ (by omega)]; exact h_len10_47
  have h_len11_48 : f48 (len + 11) = .inl (G.2 0, 5, .inl (fun _ => 0)) := by rw [hf48, bu_n _ _ (by omega)]; exact h_len11_47
  have h_len12_48 : f48 (len + 12) = .inl (G.2 0, 5, .inl (fun _ => 0)) := by rw [hf48, bu_n _ _ (by omega)]; exact h_len12_47
  have h_len13_48 : f48 (len + 13) = .inl (G.2 0, 5, .inl (fun _ => 0)) := by rw [hf48, bu_n _ _ (by omega)]; exact h_len13_47
  have h_len14_48 : f48 (len + 14) = .inl (G.2 0, 5, .inl (fun _ => 0)) := by rw [hf48, bu_n _ _ (by omega)]; exact h_len14_47
  have h_len15_48 : f48 (len + 15) = .inl (G.2 0, 520, .inl (fun _ => 0)) := by rw [hf48, bu_n _ _ (by omega)]; exact h_len15_47
  have h_len16_48 : f48 (len + 16) = .inl (G.2 0, 400, .inl (fun _ => 0)) := by rw [hf48, bu_n _ _ (by omega)]; exact h_len16_47
  have h_len17_48 : f48 (len + 17) = .inl (G.2 0, 400, .inl (fun _ => 0)) := by rw [hf48, bu_n _ _ (by omega)]; exact h_len17_47
  have h_len18_48 : f48 (len + 18) = .inl (G.2 0, 400, .inl (fun _ => 0)) := by rw [hf48, bu_n _ _ (by omega)]; exact h_len18_47
  have h_len19_48 : f48 (len + 19) = .inl (G.2 0, 400, .inl (fun _ => 0)) := by rw [hf48, bu_n _ _ (by omega)]; exact h_len19_47
  have h_len20_48 : f48 (len + 20) = .inl (G.2 1, 400, .inl (fun _ => 0)) := by rw [hf48, bu_n _ _ (by omega)]; exact h_len20_47
  have h_len21_48 : f48 (len + 21) = .inl (G.2 0, 400, .inl (fun _ => 0)) := by rw [hf48, bu_n _ _ (by omega)]; exact h_len21_47
  have h_len22_48 : f48 (len + 22) = .inl (G.2 0, 5, .inl (fun _ => 0)) := by rw [hf48, bu_n _ _ (by omega)]; exact h_len22_47
  have h_len23_48 : f48 (len + 23) = .inl (G.2 0, 5, .inl (fun _ => 0)) := by rw [hf48, bu_n _ _ (by omega)]; exact h_len23_47
  have h_o_48 : f48 (o) = .inr (6, [.int 0, .ref (base + (len)), .ref (base + (len + 1)), .ref (base + (len + 2)), .ref (base + (len + 3)), .ref (base + (len + 4)), .ref (base + (len + 5)), .ref (base + (len + 6)), .ref (base + (len + 7)), .ref (base + (len + 8)), .ref (base + (len + 9)), .ref (base + (len + 10)), .ref (base + (len + 11)), .ref (base + (len + 12)), .ref (base + (len + 13)), .ref (base + (len + 14)), .int 0, .ref (base + (len + 15)), .int 0, .ref (base + (len + 16)), .ref (base + (len + 17)), .ref (base + (len + 18)), .ref (base + (len + 19)), .ref (base + (len + 20)), .ref (base + (len + 21)), .ref (base + (len + 22)), .ref (base + (len + 23))]) := by rw [hf48, bu_s]
  have hx48 : ∀ x, x < len → x ≠ o → f48 x = f x := fun x z1 z2 => (congrFun hf48 x).trans ((bu_n _ _ (by omega)).trans (hx47 x z1 z2))
  have jp : ∀ v : Int32, v = nI n → ∀ ls : Array Slot, W p l e (headSpec (Cond.code y_R_init b_R_init 2 none :: tw_tbl) rm_R_init).room s m [.ref (base + o), .int a1].toArray below meth c H locs 24 13245 (MQ below (va_Qv (fun f' : Nat → va_E => f' o = .inr (6, [.int (nI n), .ref (base + (len)), .ref (base + (len + 1)), .ref (base + (len + 2)), .ref (base + (len + 3)), .ref (base + (len + 4)), .ref (base + (len + 5)), .ref (base + (len + 6)), .ref (base + (len + 7)), .ref (base + (len + 8)), .ref (base + (len + 9)), .ref (base + (len + 10)), .ref (base + (len + 11)), .ref (base + (len + 12)), .ref (base + (len + 13)), .ref (base + (len + 14)), .int 0, .ref (base + (len + 15)), .int 0, .ref (base + (len + 16)), .ref (base + (len + 17)), .ref (base + (len + 18)), .ref (base + (len + 19)), .ref (base + (len + 20)), .ref (base + (len + 21)), .ref (base + (len + 22)), .ref (base + (len + 23))]) ∧ (∀ x, x < len → x ≠ o → f' x = f x) ∧ f' (len) = .inl (G.2 0, 5, .inl (fun _ => 0)) ∧ f' (len + 1) = .inl (G.2 0, 2560, .inl (fun _ => 0)) ∧ f' (len + 2) = .inl (G.2 0, 2560, .inl (fun _ => 0)) ∧ f' (len + 3) = .inl (G.2 0, 2560, .inl (fun _ => 0)) ∧ f' (len + 4) = .inl (G.2 0, 2560, .inl (fun _ => 0)) ∧ f' (len + 5) = .inl (G.2 0, 5, .inl (fun _ => 0)) ∧ f' (len + 6) = .inl (G.2 0, 5, .inl (fun _ => 0)) ∧ f' (len + 7) = .inl (G.2 0, 25, .inl (fun _ => 0)) ∧ f' (len + 8) = .inl (G.2 1, 5, .inl (fun _ => 0)) ∧ f' (len + 9) = .inl (G.2 0, 5, .inl (fun _ => 0)) ∧ f' (len + 10) = .inl (G.2 1, 5, .inl (fun _ => 0)) ∧ f' (len + 11) = .inl (G.2 0, 5, .inl (fun _ => 0)) ∧ f' (len + 12) = .inl (G.2 0, 5, .inl (fun _ => 0)) ∧ f' (len + 13) = .inl (G.2 0, 5, .inl (fun _ => 0)) ∧ f' (len + 14) = .inl (G.2 0, 5, .inl (fun _ => 0)) ∧ f' (len + 15) = .inl (G.2 0, 520, .inl (fun _ => 0)) ∧ f' (len + 16) = .inl (G.2 0, 400, .inl (fun _ => 0)) ∧ f' (len + 17) = .inl (G.2 0, 400, .inl (fun _ => 0)) ∧ f' (len + 18) = .inl (G.2 0, 400, .inl (fun _ => 0)) ∧ f' (len + 19) = .inl (G.2 0, 400, .inl (fun _ => 0)) ∧ f' (len + 20) = .inl (G.2 1, 400, .inl (fun _ => 0)) ∧ f' (len + 21) = .inl (G.2 0, 400, .inl (fun _ => 0)) ∧ f' (len + 22) = .inl (G.2 0, 5, .inl (fun _ => 0)) ∧ f' (len + 23) = .inl (G.2 0, 5, .inl (fun _ => 0))) (fun f' t => bw G.1 ec_cl base f' (len + 24) t.heap) (fun q => base ≤ q)) [.ref (base + o), .int a1].toArray s 24 13245 (fun q => base ≤ q)) (F0 m 215 ls [.int v, .ref (base + (o))]) := by
    intro v hv ls
    subst hv
    refine bw_putI (D := G.1) (ci := 6) (C := "TwoPhaseCutsModel") (T := T_R) (N := 27) (v := .int (nI n)) (ty := .int) (o := o) hx hb hts ui_R ty_R tyo_R nmo_R hown hK hB hS (by omega) h_o_48 rfl 0 (by decide) (hts _ tw_374) (fun _ h9 => h9) rfl (by decide +kernel) rfl rfl (Nat.le_of_ble_eq_true rfl) d_R_init_215 (fun H locs hB hS => ?_)
    have hB : bw G.1 ec_cl base (bu f48 (o) (.inr (6, [.int (nI n), .ref (base + (len)), .ref (base + (len + 1)), .ref (base + (len + 2)), .ref (base + (len + 3)), .ref (base + (len + 4)), .ref (base + (len + 5)), .ref (base + (len + 6)), .ref (base + (len + 7)), .ref (base + (len + 8)), .ref (base + (len + 9)), .ref (base + (len + 10)), .ref (base + (len + 11)), .ref (base + (len + 12)), .ref (base + (len + 13)), .ref (base + (len + 14)), .int 0, .ref (base + (len + 15)), .int 0, .ref (base + (len + 16)), .ref (base + (len + 17)), .ref (base + (len + 18)), .ref (base + (len + 19)), .ref (base + (len + 20)), .ref (base + (len + 21)), .ref (base + (len + 22)), .ref (base + (len + 23))]))) (len + 24) H := hB
    obtain ⟨f49, hf49⟩ : ∃ g, g = bu f48 (o) (.inr (6, [.int (nI n), .ref (base + (len)), .ref (base + (len + 1)), .ref (base + (len + 2)), .ref (base + (len + 3)), .ref (base + (len + 4)), .ref (base + (len + 5)), .ref (base + (len + 6)), .ref (base + (len + 7)), .ref (base + (len + 8)), .ref (base + (len + 9)), .ref (base + (len + 10)), .ref (base + (len + 11)), .ref (base + (len + 12)), .ref (base + (len + 13)), .ref (base + (len + 14)), .int 0, .ref (base + (len + 15)), .int 0, .ref (base + (len + 16)), .ref (base + (len + 17)), .ref (base + (len + 18)), .ref (base + (len + 19)), .ref (base + (len + 20)), .ref (base + (len + 21)), .ref (base + (len + 22)), .ref (base + (len + 23))])) := ⟨_, rfl⟩
    rw [← hf49] at hB
    have hB : bw G.1 ec_cl base f49 (len + 24) H := hB
    have h_len_49 : f49 (len) = .inl (G.2 0, 5, .inl (fun _ => 0)) := by rw [hf49, bu_n _ _ (by omega)]; exact h_len_48
    have h_len1_49 : f49 (len + 1) = .inl (G.2 0, 2560, .inl (fun _ => 0)) := by rw [hf49, bu_n _ _ (by omega)]; exact h_len1_48
    have h_len2_49 : f49 (len + 2) = .inl (G.2 0, 2560, .inl (fun _ => 0)) := by rw [hf49, bu_n _ _ (by omega)]; exact h_len2_48
    have h_len3_49 : f49 (len + 3) = .inl (G.2 0, 2560, .inl (fun _ => 0)) := by rw [hf49, bu_n _ _ (by omega)]; exact h_len3_48
    have h_len4_49 : f49 (len + 4) = .inl (G.2 0, 2560, .inl (fun _ => 0)) := by rw [hf49, bu_n _ _ (by omega)]; exact h_len4_48
    have h_len5_49 : f49 (len + 5) = .inl (G.2 0, 5, .inl (fun _ => 0)) := by rw [hf49, bu_n _ _ (by omega)]; exact h_len5_48
    have h_len6_49 : f49 (len + 6) = .inl (G.2 0, 5, .inl (fun _ => 0)) := by rw [hf49, bu_n _ _ (by omega)]; exact h_len6_48
    have h_len7_49 : f49 (len + 7) = .inl (G.2 0, 25, .inl (fun _ => 0)) := by rw [hf49, bu_n _ _ (by omega)]; exact h_len7_48
    have h_len8_49 : f49 (len + 8) = .inl (G.2 1, 5, .inl (fun _ => 0)) := by rw [hf49, bu_n _ _ (by omega)]; exact h_len8_48
    have h_len9_49 : f49 (len + 9) = .inl (G.2 0, 5, .inl (fun _ => 0)) := by rw [hf49, bu_n _ _ (by omega)]; exact h_len9_48
    have h_len10_49 : f49 (len + 10) = .inl (G.2 1, 5, .inl (fun _ => 0)) := by rw [hf49, bu_n _ _ (by omega)]; exact h_len10_48
    have h_len11_49 : f49 (len + 11) = .inl (G.2 0, 5, .inl (fun _ => 0)) := by rw [hf49, bu_n _ _ (by omega)]; exact h_len11_48
    have h_len12_49 : f49 (len + 12) = .inl (G.2 0, 5, .inl (fun _ => 0)) := by rw [hf49, bu_n _ _ (by omega)]; exact h_len12_48
    have h_len13_49 : f49 (len + 13) = .inl (G.2 0, 5, .inl (fun _ => 0)) := by rw [hf49, bu_n _ _ (by omega)]; exact h_len13_48
    have h_len14_49 : f49 (len + 14) = .inl (G.2 0, 5, .inl (fun _ => 0)) := by rw [hf49, bu_n _ _ (by omega)]; exact h_len14_48
    have h_len15_49 : f49 (len + 15) = .inl (G.2 0, 520, .inl (fun _ => 0)) := by rw [hf49, bu_n _ _ (by omega)]; exact h_len15_48
    have h_len16_49 : f49 (len + 16) = .inl (G.2 0, 400, .inl (fun _ => 0)) := by rw [hf49, bu_n _ _ (by omega)]; exact h_len16_48
    have h_len17_49 : f49 (len + 17) = .inl (G.2 0, 400, .inl (fun _ => 0)) := by rw [hf49, bu_n _ _ (by omega)]; exact h_len17_48
    have h_len18_49 : f49 (len + 18) = .inl (G.2 0, 400, .inl (fun _ => 0)) := by rw [hf49, bu_n _ _ (by omega)]; exact h_len18_48
    have h_len19_49 : f49 (len + 19) = .inl (G.2 0, 400, .inl (fun _ => 0)) := by rw [hf49, bu_n _ _ (by omega)]; exact h_len19_48
    have h_len20_49 : f49 (len + 20) = .inl (G.2 1, 400, .inl (fun _ => 0)) := by rw [hf49, bu_n _ _ (by omega)]; exact h_len20_48
    have h_len21_49 : f49 (len + 21) = .inl (G.2 0, 400, .inl (fun _ => 0)) := by rw [hf49, bu_n _ _ (by omega)]; exact h_len21_48
    have h_len22_49 : f49 (len + 22) = .inl (G.2 0, 5, .inl (fun _ => 0)) := by rw [hf49, bu_n _ _ (by omega)]; exact h_len22_48
    have h_len23_49 : f49 (len + 23) = .inl (G.2 0, 5, .inl (fun _ => 0)) := by rw [hf49, bu_n _ _ (by omega)]; exact h_len23_48
    have h_o_49 : f49 (o) = .inr (6, [.int (nI n), .ref (base + (len)), .ref (base + (len + 1)), .ref (base + (len + 2)), .ref (base + (len + 3)), .ref (base + (len + 4)), .ref (base + (len + 5)), .ref (base + (len + 6)), .ref (base + (len + 7)), .ref (base + (len + 8)), .ref (base + (len + 9)), .ref (base + (len + 10)), .ref (base + (len + 11)), .ref (base + (len + 12)), .ref (base + (len + 13)), .ref (base + (len + 14)), .int 0, .ref (base + (len + 15)), .int 0, .ref (base + (len + 16)), .ref (base + (len + 17)), .ref (base + (len + 18)), .ref (base + (len + 19)), .ref (base + (len + 20)), .ref (base + (len + 21)), .ref (base + (len + 22)), .ref (base + (len + 23))]) := by rw [hf49, bu_s]
    have hx49 : ∀ x, x < len → x ≠ o → f49 x = f x := fun x z1 z2 => (congrFun hf49 x).trans ((bu_n _ _ (by omega)).trans (hx48 x z1 z2))
    refine W.widen (k := 24) (n := 13245) (by omega) (by omega) ?_
    exact W.vret hx hb hr (fun t ht hw => ⟨⟨f49, rfl, ⟨h_o_49, hx49, h_len_49, h_len1_49, h_len2_49, h_len3_49, h_len4_49, h_len5_49, h_len6_49, h_len7_49, h_len8_49, h_len9_49, h_len10_49, h_len11_49, h_len12_49, h_len13_49, h_len14_49, h_len15_49, h_len16_49, h_len17_49, h_len18_49, h_len19_49, h_len20_49, h_len21_49, h_len22_49, h_len23_49⟩, by show bw G.1 ec_cl base f49 (len + 24) t.heap; rw [ht]; exact hB⟩, hS.F ht⟩) hS.2.2 d_R_init_218
  refine lv_aload_n hx hb d_R_init_195 rfl (lv_at hl 0 rfl) ?_
  refine lv_iload_n hx hb d_R_init_196 rfl (lv_at hl 1 rfl) ?_
  refine lv_iconst (v := (2 : Int32)) hx hb d_R_init_197 (by decide) ?_
  refine lv_icmp_ge (tgt := 205) hx hb d_R_init_198 (by decide) (fun hc => ?_) (fun hc => ?_)
  · refine lv_iload_n hx hb d_R_init_205 rfl (lv_at hl 1 rfl) ?_
    refine lv_iconst (v := (5 : Int32)) hx hb d_R_init_206 (by decide) ?_
    refine lv_icmp_le (tgt := 214) hx hb d_R_init_207 (by decide) (fun hd => ?_) (fun hd => ?_)
    · refine lv_iload_n hx hb d_R_init_214 rfl (lv_at hl 1 rfl) ?_
      refine jp a1 ?_ ls
      rw [if_neg (Int32.not_lt.mpr hc), if_neg (Int32.not_lt.mpr hd)] at hna
      exact hna
    · refine lv_iconst (v := (5 : Int32)) hx hb d_R_init_210 (by decide) ?_
      refine lv_goto (tgt := 215) hx hb d_R_init_211 (by decide) ?_
      refine jp 5 ?_ ls
      rw [if_neg (Int32.not_lt.mpr hc), if_pos (Int32.not_le.mp hd)] at hna
      exact hna
  · refine lv_iconst (v := (2 : Int32)) hx hb d_R_init_201 (by decide) ?_
    refine lv_goto (tgt := 215) hx hb d_R_init_202 (by decide) ?_
    refine jp 2 ?_ ls
    rw [if_pos (Int32.not_le.mp hc)] at hna
    exact hna
