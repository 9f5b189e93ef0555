set_option maxHeartbeats 8000000 in
set_option maxRecDepth 100000 in
theorem whole_K {s : State} {b : Nat} (hts : ∀ w ∈ tw_tbl, w.before #[Value.ref b] s = true) (hO : va_AO "TwoPhaseCuts$Member" s ∧ va_AO "TwoPhaseCuts$Channel" s ∧ va_AO "TwoPhaseCuts$Note" s) : ∃ G : ec_G, va_K G.1 ec_cl (ec_T G) s := by
  obtain ⟨c0, i0, k0⟩ := u_known (C := "TwoPhaseCuts") (T := T_X) (N := 7) hts ui_X (hts _ tw_10)
  obtain ⟨c1, i1, k1⟩ := u_known (C := "TwoPhaseCuts$Member") (T := T_M) (N := 12) hts ui_M (hts _ tw_25)
  obtain ⟨c2, i2, k2⟩ := u_known (C := "TwoPhaseCuts$State") (T := T_S) (N := 3) hts ui_S (hts _ tw_31)
  obtain ⟨c3, i3, k3⟩ := u_known (C := "TwoPhaseCuts$Channel") (T := T_H) (N := 3) hts ui_H (hts _ tw_101)
  obtain ⟨c4, i4, k4⟩ := u_known (C := "TwoPhaseCuts$NoteLine") (T := T_L) (N := 3) hts ui_L (hts _ tw_120)
  obtain ⟨c5, i5, k5⟩ := u_known (C := "TwoPhaseCuts$Note") (T := T_N) (N := 5) hts ui_N (hts _ tw_127)
  obtain ⟨c6, i6, k6⟩ := u_known (C := "TwoPhaseCutsModel") (T := T_R) (N := 27) hts ui_R (hts _ tw_369)
  obtain ⟨a0, ka0, co0, p0, p1, p2⟩ := Cond.arrayClass_spec (hts _ tw_51)
  obtain ⟨a1, ka1, co1, q0, q1, q2⟩ := Cond.arrayClass_spec (hts _ tw_98)
  obtain ⟨co2, a2, ka2, r0, -, r1, r2, r3⟩ := Cond.arrayOver_spec hO.1
  obtain ⟨co3, a3, ka3, s0, -, s1, s2, s3⟩ := Cond.arrayOver_spec hO.2.1
  obtain ⟨co4, a4, ka4, t0, -, t1, t2, t3⟩ := Cond.arrayOver_spec hO.2.2
  refine ⟨((fun j => match j with | 0 => c0 | 1 => c1 | 2 => c2 | 3 => c3 | 4 => c4 | 5 => c5 | _ => c6, fun j => match j with | 0 => i0 | 1 => i1 | 2 => i2 | 3 => i3 | 4 => i4 | 5 => i5 | _ => i6), fun j => match j with | 0 => a0 | 1 => a1 | 2 => a2 | 3 => a3 | _ => a4), fun j q hq => ?_, fun j q hq => ?_⟩
  · match j, hq with
    | 0, hq => cases hq; exact k0
    | 1, hq => cases hq; exact k1
    | 2, hq => cases hq; exact k2
    | 3, hq => cases hq; exact k3
    | 4, hq => cases hq; exact k4
    | 5, hq => cases hq; exact k5
    | 6, hq => cases hq; exact k6
    | j + 7, hq => simp at hq
  · match j, hq with
    | 0, hq => cases hq; exact ⟨fun n z => ⟨fun k h => (by cases h), ka0, p1, co0, p2⟩, p0⟩
    | 1, hq => cases hq; exact ⟨fun n z => ⟨fun k h => (by cases h), ka1, q1, co1, q2⟩, q0⟩
    | 2, hq => cases hq; exact ⟨fun n z => ⟨fun k h => (by cases h), ka2, r1, co2, r2⟩, ka2, co2, r1, r2, r0, r3⟩
    | 3, hq => cases hq; exact ⟨fun n z => ⟨fun k h => (by cases h), ka3, s1, co3, s2⟩, ka3, co3, s1, s2, s0, s3⟩
    | 4, hq => cases hq; exact ⟨fun n z => ⟨fun k h => (by cases h), ka4, t1, co4, t2⟩, ka4, co4, t1, t2, t0, t3⟩
    | j + 5, hq => simp at hq
theorem tw_gS {own : String} {idx mL : Nat} {y : MethodName} {cc : ByteArray} {rt : Option FieldType} (h1 : Cond.methodLink own idx y ∈ tw_tbl) (h2 : Cond.static y ∈ tw_tbl) (h3 : Cond.initialized own ∈ tw_tbl) (h4 : Cond.code y cc mL rt ∈ tw_tbl) : GoodIn tw_tbl (wsS own idx y (Cond.code y cc mL rt :: tw_tbl)) := by
  refine tw_gd fun w hw => ?_
  rcases List.mem_append.mp hw with hw | hw
  · simp only [List.mem_cons, List.not_mem_nil, or_false] at hw
    rcases hw with rfl | rfl | rfl
    · exact h1
    · exact h2
    · exact h3
  · rcases List.mem_cons.mp hw with rfl | hw
    · exact h4
    · exact hw
set_option maxHeartbeats 8000000 in
set_option maxRecDepth 100000 in
theorem whole_start {p : Program} {e : Env} {s : State} {m : MethodId} {below : List Frame} {meth : Method} {c : Code} (l : Launch) {b L : Nat} {xs : Nat → Int32} (hL : L ≤ 2049) (C0 : lw_At p s m meth c b L xs) : W p l e room_1 s m #[Value.ref b] below meth c s.heap [] 0 0 (lw_Z below #[Value.ref b] s) (entryFrame m ([Value.ref b] : List Value).toArray 4) := by
  obtain ⟨hx, hb, hr, hml, hown, hts0, hX, hbl, hlocks, hgv⟩ := id C0
  have hts : ∀ w ∈ tw_tbl, w.before #[Value.ref b] s = true := fun w h => hts0 w (tw_sub w h)
  have hnA : va_Nw nwA s := va_Nw.of rfl (hts0 _ (List.mem_append_right _ (List.mem_of_getElem? (i := 102) (by decide +kernel))))
  have hnB : va_Nw nwB s := va_Nw.of rfl (hts0 _ (List.mem_append_right _ (List.mem_of_getElem? (i := 128) (by decide +kernel))))
  have hO : va_AO "TwoPhaseCuts$Member" s ∧ va_AO "TwoPhaseCuts$Channel" s ∧ va_AO "TwoPhaseCuts$Note" s := ⟨va_AO.of (hts0 _ (List.mem_append_right _ (List.mem_of_getElem? (i := 24) (by decide +kernel)))), va_AO.of (hts0 _ (List.mem_append_right _ (List.mem_of_getElem? (i := 100) (by decide +kernel)))), va_AO.of (hts0 _ (List.mem_append_right _ (List.mem_of_getElem? (i := 126) (by decide +kernel))))⟩
  obtain ⟨G, hK⟩ := whole_K hts hO
  obtain ⟨n, hn2, hn5, hna, hnb⟩ := cl_n (cl_v L xs)
  clear hts0 hgv
  have hbA : ¬ (fun q : Nat => s.heap.size ≤ q) b := Nat.not_le.mpr hbl
  have hC : CallFix p m c code 4 s #[Value.ref b] tw_tbl "TwoPhaseCutsLaw" := ⟨hx, hb, hml, hown, hts⟩
  have hS : va_S (fun q : Nat => s.heap.size ≤ q) s.heap s.heap [] := va_S.rf
  obtain ⟨base, hbase⟩ : ∃ z, z = s.heap.size := ⟨_, rfl⟩
  have hl := lv_entry ([.ref b]) (n := 4) (Nat.le_of_ble_eq_true rfl)
  rw [lg_entry_eq]
  generalize (lg_sl ([.ref b]) ++ List.replicate (4 - (lg_sl ([.ref b])).length) Slot.unset).toArray = ls at hl ⊢
  have hl : lv_has ls 4 [(0, .ref b)] := hl
  rw [← hbase] at hS hbA
  have hB : bw G.1 ec_cl base (fun _ => .inr (0, [])) 0 s.heap := ⟨hbase.symm, fun o h => by omega⟩
  refine bw_new (D := G.1) (ci := 0) (fs := [.int 0, .null, .null, .null, .null, .null, .int 0]) (C := "TwoPhaseCuts") (T := T_X) (N := 7) hx hb hts ui_X ty_X tyo_X hown (hts _ tw_9) (hts _ tw_10) (hts _ tw_1) hK hB hS rfl (fun j hj => by rcases (show j = 0 ∨ j = 1 ∨ j = 2 ∨ j = 3 ∨ j = 4 ∨ j = 5 ∨ j = 6 by omega) with rfl | rfl | rfl | rfl | rfl | rfl | rfl <;> rfl) (by show 0 + 1 ≤ 600000; omega) (by show 0 + 7 ≤ 7302250; omega) dL_law_0 (fun H hB hS => ?_)
  have hB : bw G.1 ec_cl base (bu (fun _ => .inr (0, [])) 0 (.inr (0, [.int 0, .null, .null, .null, .null, .null, .int 0]))) 1 H := hB
  obtain ⟨f0, hf0⟩ : ∃ z, z = bu (fun _ => (.inr (0, []) : va_E)) 0 (.inr (0, [.int 0, .null, .null, .null, .null, .null, .int 0])) := ⟨_, rfl⟩
  rw [← hf0] at hB
  have v0 : f0 0 = .inr (0, [.int 0, .null, .null, .null, .null, .null, .int 0]) := (congrFun hf0 _).trans (bu_s _ _ _)
  refine W.eq (g2 := F0 m 3 ls [.ref (base + 0)]) rfl ?_
  refine lv_dup hx hb dL_law_3 rfl ?_
  refine lv_aload_n hx hb dL_law_4 rfl (lv_at hl 0 rfl) ?_
  refine lv_iconst (v := (0 : Int32)) hx hb dL_law_5 (by decide) ?_
  have hbH : b < H.size := Nat.lt_of_lt_of_le hbl hS.1
  have hXH : va_X b L xs s H := hX.kept (hS.2.1 b hbl hbA)
  refine va_calli (va_runS (As := [.ref b, .int 0]) (rest := [.ref (base + 0), .ref (base + 0)]) hC (c_cell l b L xs H hbH hL) (cwS 2 hts (tw_gS tw_365 tw_366 tw_0 tw_367) rfl rfl rfl (by decide +kernel) ⟨Nat.le_of_ble_eq_true rfl, Nat.le_of_ble_eq_true rfl⟩) ⟨fun a U g mk q => ⟨q.1, q.2.1, va_X.moved (u := U) (U := U.calling g mk a) (Vm.Alike.refl U.vm) q.2.2⟩, fun U hU hw => ⟨rfl, hU, by show va_X b L xs U U.heap; rw [hU]; exact va_X.moved hw.alike hXH⟩⟩ rfl rfl hl.1 rfl (lv_room (Nat.le_of_ble_eq_true rfl)) dL_law_6 ⟨Nat.le_of_ble_eq_true rfl, Nat.le_of_ble_eq_true rfl⟩) hS (fun _ _ h => h.elim) (fun _ h => h.elim) (fun r _ t H1 locs ht _ hr1 hB1 _ _ hS => ?_)
  have hH1 : H1 = H := ht.symm.trans hB1
  subst hr1
  rw [hH1] at hS ⊢
  clear hH1 hB1 ht hbH hXH
  refine bw_callv (va_runI (As := [.int (cl_v L xs)]) (rest := [.ref (base + 0)]) hC (ci_X l G base f0 1 0 (cl_v L xs) n hn2 hn5 hna (by omega) v0) (cwI 1 hts (tw_gI tw_13) rfl rfl rfl (hts _ tw_1) (hts _ tw_11) (hts _ tw_12) rfl (by decide +kernel) ⟨Nat.le_of_ble_eq_true rfl, Nat.le_of_ble_eq_true rfl⟩) (bp_preS hK hnA hnB hO hB) rfl rfl hl.1 rfl (lv_room (Nat.le_of_ble_eq_true rfl)) dL_law_9 ⟨Nat.le_of_ble_eq_true rfl, Nat.le_of_ble_eq_true rfl⟩) (fun _ h => h) hS (fun f1 H locs hq hB hS => ?_)
  obtain ⟨x0, xm, xc, xl, xz, xd⟩ := hq
  refine W.widen (k := 250) (n := 2300) (Nat.le_of_ble_eq_true rfl) (Nat.le_of_ble_eq_true rfl) ?_
  refine lv_astore_n (lv' := [(1, .ref (base + 0)), (0, .ref b)]) hx hb dL_law_12 rfl hl (by decide) rfl (fun ls hl => ?_)
  generalize hlc : 1 + 1 + 11 * n + 1 + 3 * (n * n) + 1 + 1 + 4 * n * (n - 1) + 1 + 1 = lc at hB
  refine bw_new (D := G.1) (ci := 6) (fs := [.int 0, .null, .null, .null, .null, .null, .null, .null, .null, .null, .null, .null, .null, .null, .null, .null, .int 0, .null, .int 0, .null, .null, .null, .null, .null, .null, .null, .null]) (C := "TwoPhaseCutsModel") (T := T_R) (N := 27) hx hb hts ui_R ty_R tyo_R hown (hts _ tw_368) (hts _ tw_369) (hts _ tw_8) hK hB hS rfl (fun j hj => by rcases (show j = 0 ∨ j = 1 ∨ j = 2 ∨ j = 3 ∨ j = 4 ∨ j = 5 ∨ j = 6 ∨ j = 7 ∨ j = 8 ∨ j = 9 ∨ j = 10 ∨ j = 11 ∨ j = 12 ∨ j = 13 ∨ j = 14 ∨ j = 15 ∨ j = 16 ∨ j = 17 ∨ j = 18 ∨ j = 19 ∨ j = 20 ∨ j = 21 ∨ j = 22 ∨ j = 23 ∨ j = 24 ∨ j = 25 ∨ j = 26 by omega) with rfl | rfl | rfl | rfl | rfl | rfl | rfl | rfl | rfl | rfl | rfl | rfl | rfl | rfl | rfl | rfl | rfl | rfl | rfl | rfl | rfl | rfl | rfl | rfl | rfl | rfl | rfl <;> rfl) (by show 250 + 1 ≤ 600000; omega) (by show 2300 + 27 ≤ 7302250; omega) dL_law_13 (fun H hB hS => ?_)
  obtain ⟨f2, hf2⟩ : ∃ z, z = bu f1 lc (.inr (6, [.int 0, .null, .null, .null, .null, .null, .null, .null, .null, .null, .null, .null, .null, .null, .null, .null, .int 0, .null, .int 0, .null, .null, .null, .null, .null, .null, .null, .null])) := ⟨_, rfl⟩
  have hB : bw G.1 ec_cl base (bu f1 lc (.inr (6, [.int 0, .null, .null, .null, .null, .null, .null, .null, .null, .null, .null, .null, .null, .null, .null, .null, .int 0, .null, .int 0, .null, .null, .null, .null, .null, .null, .null, .null]))) (lc + 1) H := hB
  rw [← hf2] at hB
  have v2 : f2 lc = .inr (6, [.int 0, .null, .null, .null, .null, .null, .null, .null, .null, .null, .null, .null, .null, .null, .null, .null, .int 0, .null, .int 0, .null, .null, .null, .null, .null, .null, .null, .null]) := (congrFun hf2 _).trans (bu_s _ _ _)
  have e2 : ∀ x, x ≠ lc → f2 x = f1 x := fun x z => (congrFun hf2 x).trans (bu_n _ _ z)
  refine lv_dup hx hb dL_law_16 rfl ?_
  refine lv_aload_n hx hb dL_law_17 rfl (lv_at hl 1 rfl) ?_
  refine lv_iconst (v := (0 : Int32)) hx hb dL_law_18 (by decide) ?_
  have hbH : b < H.size := Nat.lt_of_lt_of_le hbl hS.1
  have hXH : va_X b L xs s H := hX.kept (hS.2.1 b hbl hbA)
  refine va_calli (va_runS (As := [.ref b, .int 0]) (rest := [.ref (base + lc), .ref (base + lc)]) hC (c_cell l b L xs H hbH hL) (cwS 2 hts (tw_gS tw_365 tw_366 tw_0 tw_367) rfl rfl rfl (by decide +kernel) ⟨Nat.le_of_ble_eq_true rfl, Nat.le_of_ble_eq_true rfl⟩) ⟨fun a U g mk q => ⟨q.1, q.2.1, va_X.moved (u := U) (U := U.calling g mk a) (Vm.Alike.refl U.vm) q.2.2⟩, fun U hU hw => ⟨rfl, hU, by show va_X b L xs U U.heap; rw [hU]; exact va_X.moved hw.alike hXH⟩⟩ rfl rfl hl.1 rfl (lv_room (Nat.le_of_ble_eq_true rfl)) dL_law_19 ⟨Nat.le_of_ble_eq_true rfl, Nat.le_of_ble_eq_true rfl⟩) hS (fun _ _ h => h.elim) (fun _ h => h.elim) (fun r _ t H1 locs ht _ hr1 hB1 _ _ hS => ?_)
  have hH1 : H1 = H := ht.symm.trans hB1
  subst hr1
  rw [hH1] at hS ⊢
  clear hH1 hB1 ht hbH hXH
  refine bw_callv (va_runI (As := [.int (cl_v L xs)]) (rest := [.ref (base + lc)]) hC (ci_R l G base f2 (lc + 1) lc (cl_v L xs) n hnb (by omega) v2) (cwI 1 hts (tw_gI tw_372) rfl rfl rfl (hts _ tw_8) (hts _ tw_370) (hts _ tw_371) rfl (by decide +kernel) ⟨Nat.le_of_ble_eq_true rfl, Nat.le_of_ble_eq_true rfl⟩) (bp_preS hK hnA hnB hO hB) rfl rfl hl.1 rfl (lv_room (Nat.le_of_ble_eq_true rfl)) dL_law_22 ⟨Nat.le_of_ble_eq_true rfl, Nat.le_of_ble_eq_true rfl⟩) (fun _ h => h) hS (fun f3 H locs hq hB hS => ?_)
  obtain ⟨y0, yx, y1, y2, y3, y4, y5, y6, y7, y8, y9, y10, y11, y12, y13, y14, y15, y16, y17, y18, y19, y20, y21, y22, y23, y24⟩ := hq
  refine W.widen (k := 300) (n := 20000) (Nat.le_of_ble_eq_true rfl) (Nat.le_of_ble_eq_true rfl) ?_
  refine lv_astore_n (lv' := [(2, .ref (base + lc)), (1, .ref (base + 0)), (0, .ref b)]) hx hb dL_law_25 rfl hl (by decide) rfl (fun ls hl => ?_)
  refine lv_iconst (v := nI (1 + 4 * 0)) hx hb dL_law_26 (by decide) ?_
  refine lv_istore_n (lv' := [(3, .int (nI (1 + 4 * 0))), (2, .ref (base + lc)), (1, .ref (base + 0)), (0, .ref b)]) hx hb dL_law_27 rfl hl (by decide) rfl (fun ls hl => ?_)
  have e3 : ∀ x, x < lc → f3 x = f1 x := fun x z => by rw [yx _ (by omega) (by omega), e2 _ (by omega)]
  have hwX : mm_W G.1 ec_cl (ec_cnt n) (lX base n) (ec_E G (lX base n) n) (m_0 n) H := by
    have q1 : 4 * n * (n - 1) = 4 * n * (n - 1) := rfl
    exact wX hB (by omega) ((e3 _ (by omega)).trans x0) (xm.cg fun x z1 z2 => e3 x (by omega)) (xc.cg fun x z1 z2 => e3 x (by omega)) (xl.cg fun x z1 z2 => e3 x (by omega)) ((e3 _ (by omega)).trans xz) ((e3 _ (by omega)).trans xd)
  have hwR : mm_W G.1 ec_cl (er_cnt n) (lR base lc) (er_E G (lR base lc) n) (m_0 n) H := wR hB (by omega) y0 y1 y2 y3 y4 y5 y6 y7 y8 y9 y10 y11 y12 y13 y14 y15 y16 y17 y18 y19 y20 y21 y22 y23 y24
  have aX : ∀ q, mm_A (ec_cnt n) (lX base n) q → base ≤ q ∧ q < base + lc := by
    rintro q ⟨k, i, hi, rfl⟩
    have h := offX_lt hi
    rw [hlc] at h
    exact ⟨Nat.le_add_right _ _, Nat.add_lt_add_left h _⟩
  have aR : ∀ q, mm_A (er_cnt n) (lR base lc) q → base + lc ≤ q := by
    rintro q ⟨k, i, hi, rfl⟩
    exact Nat.add_le_add_left (offR_lt hi).1 _
  rw [hbase] at hS
  refine law_loop hL C0 G n (lX base n) (lR base lc) (lX_I base n) (lR_I base lc n) (fun q h1 h2 => by have := aX q h1; have := aR q h2; omega) (fun q h => by rw [← hbase]; exact (aX q h).1) (fun q h => by rw [← hbase]; exact Nat.le_trans (Nat.le_add_right _ _) (aR q h)) hK 520 0 (m_0 n) (m_0 n) H locs ls (by omega) (by omega) hwX hwR (REL_0 hn2 hn5) hS (lv_sub hl [3, 2, 1, 0] rfl)
