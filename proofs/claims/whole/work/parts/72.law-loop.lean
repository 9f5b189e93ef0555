set_option maxHeartbeats 8000000 in
set_option maxRecDepth 100000 in
theorem law_loop {p : Program} {l : Launch} {e : Env} {s : State} {m : MethodId} {below : List Frame} {meth : Method} {c : Code} {b L : Nat} {xs : Nat → Int32} (hL : L ≤ 2049) (C0 : lw_At p s m meth c b L xs) (G : ec_G) (n : Nat) (LX LR : mm_L) (hIX : mm_I (ec_cnt n) LX) (hIR : mm_I (er_cnt n) LR) (hdis : ∀ q, mm_A (ec_cnt n) LX q → ¬ mm_A (er_cnt n) LR q) (hfX : ∀ q, mm_A (ec_cnt n) LX q → s.heap.size ≤ q) (hfR : ∀ q, mm_A (er_cnt n) LR q → s.heap.size ≤ q) (hK : va_K G.1 ec_cl (ec_T G) s) :
    ∀ (z k : Nat) (σ ρ : mm_M) (H : Heap) (locs : List Loc) (ls : Array Slot), 520 ≤ z + k → k ≤ 512 → mm_W G.1 ec_cl (ec_cnt n) LX (ec_E G LX n) σ H → mm_W G.1 ec_cl (er_cnt n) LR (er_E G LR n) ρ H → REL n k σ ρ → va_S (fun q => s.heap.size ≤ q) s.heap H locs → lv_has ls 4 [(0, .ref b), (1, .ref (LX 0 0)), (2, .ref (LR 0 0)), (3, .int (nI (1 + 4 * k)))] → W p l e room_1 s m #[Value.ref b] below meth c H locs 300 20000 (lw_Z below #[Value.ref b] s) (F0 m 28 ls []) := by
  obtain ⟨hx, hb, hr, hml, hown, hts0, hX, hbl, hlocks, hgv⟩ := C0
  have hts : ∀ w ∈ tw_tbl, w.before #[Value.ref b] s = true := fun w h => hts0 w (tw_sub w h)
  clear hts0 hgv
  have hbA : ¬ (fun q : Nat => s.heap.size ≤ q) b := Nat.not_le.mpr hbl
  have hC : CallFix p m c code 4 s #[Value.ref b] tw_tbl "TwoPhaseCutsLaw" := ⟨hx, hb, hml, hown, hts⟩
  intro z
  induction z with
  | zero => intro k σ ρ H locs ls h1 h2; omega
  | succ z ih =>
    intro k σ ρ H locs ls hz hk hW hV hR hS hl
    refine lv_iload_n hx hb dL_law_28 rfl (lv_at hl 3 rfl) ?_
    refine lv_aload_n hx hb dL_law_29 rfl (lv_at hl 0 rfl) ?_
    refine va_slen hx hb hX hbl hbA hS dL_law_30 ?_
    refine lv_iconst (v := nI 4) hx hb dL_law_31 (by decide) ?_
    refine lv_isub hx hb dL_law_32 ?_
    refine lv_icmp_gt (tgt := 581) hx hb dL_law_33 (by decide) (fun hc => ?_) (fun hc => ?_)
    · refine lv_iconst (v := (1 : Int32)) hx hb dL_law_581 (by decide) ?_
      refine va_forget (fun q hq => hS.2.2 q hq) ?_
      refine W.widen (k := 600000) (n := 7302250) (by omega) (by omega) ?_
      exact lw_ret hx hb hr hlocks dL_law_582
    have hlen : 1 + 4 * k + 4 ≤ L := by
      rcases Nat.lt_or_ge L (1 + 4 * k + 4) with h | h
      · exact absurd ((cl_gt hL (by omega)).mpr h) hc
      · exact h
    clear hc
    have hk : k < 512 := by omega
    have back : ∀ (σ ρ : mm_M) (H : Heap) (locs : List Loc), mm_W G.1 ec_cl (ec_cnt n) LX (ec_E G LX n) σ H → mm_W G.1 ec_cl (er_cnt n) LR (er_E G LR n) ρ H → REL n (k + 1) σ ρ → va_S (fun q => s.heap.size ≤ q) s.heap H locs → W p l e room_1 s m #[Value.ref b] below meth c H locs 300 20000 (lw_Z below #[Value.ref b] s) (F0 m 575 ls []) := by
      intro σ ρ H locs hW hV hR hS
      refine lv_iinc (v := nI (1 + 4 * (k + 1))) (lv' := [(3, .int (nI (1 + 4 * (k + 1)))), (0, .ref b), (1, .ref (LX 0 0)), (2, .ref (LR 0 0))]) hx hb dL_law_575 hl (k := 3) rfl (by rw [show Int32.ofInt 4 = nI 4 from by decide, nI_add, show 1 + 4 * k + 4 = 1 + 4 * (k + 1) by omega]) (by decide) rfl (fun ls hl => ?_)
      refine lv_goto (tgt := 28) hx hb dL_law_578 (by decide) ?_
      exact ih (k + 1) σ ρ H locs ls (by omega) (by omega) hW hV hR hS (lv_sub hl [1, 2, 3, 0] rfl)
    refine lv_aload_n hx hb dL_law_36 rfl (lv_at hl 0 rfl) ?_
    refine lv_iload_n hx hb dL_law_37 rfl (lv_at hl 3 rfl) ?_
    refine va_sld hx hb hX hbl hbA hS (vp_in_nI (show 1 + 4 * k < L by omega) (by omega)) dL_law_38 ?_
    refine lv_bipush (v := nI 31) hx hb dL_law_39 (by decide) ?_
    refine lv_iand hx hb dL_law_41 ?_
    generalize (xs (nI (1 + 4 * k)).toNatClampNeg &&& nI 31) = y
    by_cases hy0 : y = 0
    · subst hy0
      refine lv_tableIn (off := 82) (tgt := 124) hx hb dL_law_42 (by decide) (by decide) (by decide) (by decide) ?_
      obtain ⟨r, σ', ρ', e1, e2, hR'⟩ := t_work (F := 1000) (Nat.le_refl _) (by omega) hR (xs (nI (1 + 4 * k + 1)).toNatClampNeg) (xs (nI (1 + 4 * k + 2)).toNatClampNeg)
      refine lv_aload_n hx hb dL_law_124 rfl (lv_at hl 1 rfl) ?_
      refine lv_aload_n hx hb dL_law_125 rfl (lv_at hl 0 rfl) ?_
      refine lv_iload_n hx hb dL_law_126 rfl (lv_at hl 3 rfl) ?_
      refine lv_iconst (v := nI 1) hx hb dL_law_127 (by decide) ?_
      refine lv_iadd hx hb dL_law_128 ?_
      refine mm_top (nI_add (1 + 4 * k) 1) ?_
      refine va_sld hx hb hX hbl hbA hS (vp_in_nI (show 1 + 4 * k + 1 < L by omega) (by omega)) dL_law_129 ?_
      refine lv_aload_n hx hb dL_law_130 rfl (lv_at hl 0 rfl) ?_
      refine lv_iload_n hx hb dL_law_131 rfl (lv_at hl 3 rfl) ?_
      refine lv_iconst (v := nI 2) hx hb dL_law_132 (by decide) ?_
      refine lv_iadd hx hb dL_law_133 ?_
      refine mm_top (nI_add (1 + 4 * k) 2) ?_
      refine va_sld hx hb hX hbl hbA hS (vp_in_nI (show 1 + 4 * k + 2 < L by omega) (by omega)) dL_law_134 ?_
      refine mm_calli (va_runV (As := [.int (xs (nI (1 + 4 * k + 1)).toNatClampNeg), .int (xs (nI (1 + 4 * k + 2)).toNatClampNeg)]) (rest := []) hC (c_X_work l G LX 1000 n hIX σ (xs (nI (1 + 4 * k + 1)).toNatClampNeg) (xs (nI (1 + 4 * k + 2)).toNatClampNeg) e1) (cwV 2 hts (tw_gV tw_186 tw_187 tw_188 tw_1 tw_189) rfl rfl rfl (by decide +kernel) ⟨Nat.le_of_ble_eq_true rfl, Nat.le_of_ble_eq_true rfl⟩) (mm_preV hK hW (k := 0) (i := 0) (Nat.zero_lt_one) rfl rfl) rfl rfl hl.1 rfl (lv_room (Nat.le_of_ble_eq_true rfl)) dL_law_135 ⟨Nat.le_of_ble_eq_true rfl, Nat.le_of_ble_eq_true rfl⟩) hS hfX (fun H locs hW _ hkp hS => ?_)
      replace hV := hV.kept fun q hq hA => hkp q hq fun h => hdis q h hA
      refine lv_aload_n hx hb dL_law_138 rfl (lv_at hl 2 rfl) ?_
      refine lv_aload_n hx hb dL_law_139 rfl (lv_at hl 0 rfl) ?_
      refine lv_iload_n hx hb dL_law_140 rfl (lv_at hl 3 rfl) ?_
      refine lv_iconst (v := nI 1) hx hb dL_law_141 (by decide) ?_
      refine lv_iadd hx hb dL_law_142 ?_
      refine mm_top (nI_add (1 + 4 * k) 1) ?_
      refine va_sld hx hb hX hbl hbA hS (vp_in_nI (show 1 + 4 * k + 1 < L by omega) (by omega)) dL_law_143 ?_
      refine lv_aload_n hx hb dL_law_144 rfl (lv_at hl 0 rfl) ?_
      refine lv_iload_n hx hb dL_law_145 rfl (lv_at hl 3 rfl) ?_
      refine lv_iconst (v := nI 2) hx hb dL_law_146 (by decide) ?_
      refine lv_iadd hx hb dL_law_147 ?_
      refine mm_top (nI_add (1 + 4 * k) 2) ?_
      refine va_sld hx hb hX hbl hbA hS (vp_in_nI (show 1 + 4 * k + 2 < L by omega) (by omega)) dL_law_148 ?_
      refine mm_calli (va_runV (As := [.int (xs (nI (1 + 4 * k + 1)).toNatClampNeg), .int (xs (nI (1 + 4 * k + 2)).toNatClampNeg)]) (rest := [.int r]) hC (c_R_work l G LR 1000 n hIR ρ (xs (nI (1 + 4 * k + 1)).toNatClampNeg) (xs (nI (1 + 4 * k + 2)).toNatClampNeg) e2) (cwV 2 hts (tw_gV tw_456 tw_457 tw_458 tw_8 tw_459) rfl rfl rfl (by decide +kernel) ⟨Nat.le_of_ble_eq_true rfl, Nat.le_of_ble_eq_true rfl⟩) (mm_preV hK hV (k := 0) (i := 0) (Nat.zero_lt_one) rfl rfl) rfl rfl hl.1 rfl (lv_room (Nat.le_of_ble_eq_true rfl)) dL_law_149 ⟨Nat.le_of_ble_eq_true rfl, Nat.le_of_ble_eq_true rfl⟩) hS hfR (fun H locs hV _ hkp hS => ?_)
      replace hW := hW.kept fun q hq hA => hkp q hq (hdis q hA)
      refine lv_icmp_eq (tgt := 575) hx hb dL_law_152 (by decide) (fun _ => ?_) (fun hc => absurd rfl hc)
      exact back _ _ _ _ hW hV hR' hS
    by_cases hy1 : y = 1
    · subst hy1
      refine lv_tableIn (off := 115) (tgt := 157) hx hb dL_law_42 (by decide) (by decide) (by decide) (by decide) ?_
      obtain ⟨r, σ', ρ', e1, e2, hR'⟩ := t_send (F := 1000) (Nat.le_refl _) (by omega) hR (xs (nI (1 + 4 * k + 1)).toNatClampNeg) (xs (nI (1 + 4 * k + 2)).toNatClampNeg)
      refine lv_aload_n hx hb dL_law_157 rfl (lv_at hl 1 rfl) ?_
      refine lv_aload_n hx hb dL_law_158 rfl (lv_at hl 0 rfl) ?_
      refine lv_iload_n hx hb dL_law_159 rfl (lv_at hl 3 rfl) ?_
      refine lv_iconst (v := nI 1) hx hb dL_law_160 (by decide) ?_
      refine lv_iadd hx hb dL_law_161 ?_
      refine mm_top (nI_add (1 + 4 * k) 1) ?_
      refine va_sld hx hb hX hbl hbA hS (vp_in_nI (show 1 + 4 * k + 1 < L by omega) (by omega)) dL_law_162 ?_
      refine lv_aload_n hx hb dL_law_163 rfl (lv_at hl 0 rfl) ?_
      refine lv_iload_n hx hb dL_law_164 rfl (lv_at hl 3 rfl) ?_
      refine lv_iconst (v := nI 2) hx hb dL_law_165 (by decide) ?_
      refine lv_iadd hx hb dL_law_166 ?_
      refine mm_top (nI_add (1 + 4 * k) 2) ?_
      refine va_sld hx hb hX hbl hbA hS (vp_in_nI (show 1 + 4 * k + 2 < L by omega) (by omega)) dL_law_167 ?_
      refine mm_calli (va_runV (As := [.int (xs (nI (1 + 4 * k + 1)).toNatClampNeg), .int (xs (nI (1 + 4 * k + 2)).toNatClampNeg)]) (rest := []) hC (c_X_send l G LX 1000 n hIX σ (xs (nI (1 + 4 * k + 1)).toNatClampNeg) (xs (nI (1 + 4 * k + 2)).toNatClampNeg) e1) (cwV 2 hts (tw_gV tw_202 tw_203 tw_204 tw_1 tw_205) rfl rfl rfl (by decide +kernel) ⟨Nat.le_of_ble_eq_true rfl, Nat.le_of_ble_eq_true rfl⟩) (mm_preV hK hW (k := 0) (i := 0) (Nat.zero_lt_one) rfl rfl) rfl rfl hl.1 rfl (lv_room (Nat.le_of_ble_eq_true rfl)) dL_law_168 ⟨Nat.le_of_ble_eq_true rfl, Nat.le_of_ble_eq_true rfl⟩) hS hfX (fun H locs hW _ hkp hS => ?_)
      replace hV := hV.kept fun q hq hA => hkp q hq fun h => hdis q h hA
      refine lv_aload_n hx hb dL_law_171 rfl (lv_at hl 2 rfl) ?_
      refine lv_aload_n hx hb dL_law_172 rfl (lv_at hl 0 rfl) ?_
      refine lv_iload_n hx hb dL_law_173 rfl (lv_at hl 3 rfl) ?_
      refine lv_iconst (v := nI 1) hx hb dL_law_174 (by decide) ?_
      refine lv_iadd hx hb dL_law_175 ?_
      refine mm_top (nI_add (1 + 4 * k) 1) ?_
      refine va_sld hx hb hX hbl hbA hS (vp_in_nI (show 1 + 4 * k + 1 < L by omega) (by omega)) dL_law_176 ?_
      refine lv_aload_n hx hb dL_law_177 rfl (lv_at hl 0 rfl) ?_
      refine lv_iload_n hx hb dL_law_178 rfl (lv_at hl 3 rfl) ?_
      refine lv_iconst (v := nI 2) hx hb dL_law_179 (by decide) ?_
      refine lv_iadd hx hb dL_law_180 ?_
      refine mm_top (nI_add (1 + 4 * k) 2) ?_
      refine va_sld hx hb hX hbl hbA hS (vp_in_nI (show 1 + 4 * k + 2 < L by omega) (by omega)) dL_law_181 ?_
      refine mm_calli (va_runV (As := [.int (xs (nI (1 + 4 * k + 1)).toNatClampNeg), .int (xs (nI (1 + 4 * k + 2)).toNatClampNeg)]) (rest := [.int r]) hC (c_R_send l G LR 1000 n hIR ρ (xs (nI (1 + 4 * k + 1)).toNatClampNeg) (xs (nI (1 + 4 * k + 2)).toNatClampNeg) e2) (cwV 2 hts (tw_gV tw_472 tw_473 tw_474 tw_8 tw_475) rfl rfl rfl (by decide +kernel) ⟨Nat.le_of_ble_eq_true rfl, Nat.le_of_ble_eq_true rfl⟩) (mm_preV hK hV (k := 0) (i := 0) (Nat.zero_lt_one) rfl rfl) rfl rfl hl.1 rfl (lv_room (Nat.le_of_ble_eq_true rfl)) dL_law_182 ⟨Nat.le_of_ble_eq_true rfl, Nat.le_of_ble_eq_true rfl⟩) hS hfR (fun H locs hV _ hkp hS => ?_)
      replace hW := hW.kept fun q hq hA => hkp q hq (hdis q hA)
      refine lv_icmp_eq (tgt := 575) hx hb dL_law_185 (by decide) (fun _ => ?_) (fun hc => absurd rfl hc)
      exact back _ _ _ _ hW hV hR' hS
    by_cases hy2 : y = 2
    · subst hy2
      refine lv_tableIn (off := 148) (tgt := 190) hx hb dL_law_42 (by decide) (by decide) (by decide) (by decide) ?_
      obtain ⟨r, σ', ρ', e1, e2, hR'⟩ := t_receive (F := 1000) (Nat.le_refl _) (by omega) hR (xs (nI (1 + 4 * k + 1)).toNatClampNeg) (xs (nI (1 + 4 * k + 2)).toNatClampNeg)
      refine lv_aload_n hx hb dL_law_190 rfl (lv_at hl 1 rfl) ?_
      refine lv_aload_n hx hb dL_law_191 rfl (lv_at hl 0 rfl) ?_
      refine lv_iload_n hx hb dL_law_192 rfl (lv_at hl 3 rfl) ?_
      refine lv_iconst (v := nI 1) hx hb dL_law_193 (by decide) ?_
      refine lv_iadd hx hb dL_law_194 ?_
      refine mm_top (nI_add (1 + 4 * k) 1) ?_
      refine va_sld hx hb hX hbl hbA hS (vp_in_nI (show 1 + 4 * k + 1 < L by omega) (by omega)) dL_law_195 ?_
      refine lv_aload_n hx hb dL_law_196 rfl (lv_at hl 0 rfl) ?_
      refine lv_iload_n hx hb dL_law_197 rfl (lv_at hl 3 rfl) ?_
      refine lv_iconst (v := nI 2) hx hb dL_law_198 (by decide) ?_
      refine lv_iadd hx hb dL_law_199 ?_
      refine mm_top (nI_add (1 + 4 * k) 2) ?_
      refine va_sld hx hb hX hbl hbA hS (vp_in_nI (show 1 + 4 * k + 2 < L by omega) (by omega)) dL_law_200 ?_
      refine mm_calli (va_runV (As := [.int (xs (nI (1 + 4 * k + 1)).toNatClampNeg), .int (xs (nI (1 + 4 * k + 2)).toNatClampNeg)]) (rest := []) hC (c_X_receive l G LX 1000 n hIX σ (xs (nI (1 + 4 * k + 1)).toNatClampNeg) (xs (nI (1 + 4 * k + 2)).toNatClampNeg) e1) (cwV 2 hts (tw_gV tw_219 tw_220 tw_221 tw_1 tw_222) rfl rfl rfl (by decide +kernel) ⟨Nat.le_of_ble_eq_true rfl, Nat.le_of_ble_eq_true rfl⟩) (mm_preV hK hW (k := 0) (i := 0) (Nat.zero_lt_one) rfl rfl) rfl rfl hl.1 rfl (lv_room (Nat.le_of_ble_eq_true rfl)) dL_law_201 ⟨Nat.le_of_ble_eq_true rfl, Nat.le_of_ble_eq_true rfl⟩) hS hfX (fun H locs hW _ hkp hS => ?_)
      replace hV := hV.kept fun q hq hA => hkp q hq fun h => hdis q h hA
      refine lv_aload_n hx hb dL_law_204 rfl (lv_at hl 2 rfl) ?_
      refine lv_aload_n hx hb dL_law_205 rfl (lv_at hl 0 rfl) ?_
      refine lv_iload_n hx hb dL_law_206 rfl (lv_at hl 3 rfl) ?_
      refine lv_iconst (v := nI 1) hx hb dL_law_207 (by decide) ?_
      refine lv_iadd hx hb dL_law_208 ?_
      refine mm_top (nI_add (1 + 4 * k) 1) ?_
      refine va_sld hx hb hX hbl hbA hS (vp_in_nI (show 1 + 4 * k + 1 < L by omega) (by omega)) dL_law_209 ?_
      refine lv_aload_n hx hb dL_law_210 rfl (lv_at hl 0 rfl) ?_
      refine lv_iload_n hx hb dL_law_211 rfl (lv_at hl 3 rfl) ?_
      refine lv_iconst (v := nI 2) hx hb dL_law_212 (by decide) ?_
      refine lv_iadd hx hb dL_law_213 ?_
      refine mm_top (nI_add (1 + 4 * k) 2) ?_
      refine va_sld hx hb hX hbl hbA hS (vp_in_nI (show 1 + 4 * k + 2 < L by omega) (by omega)) dL_law_214 ?_
      refine mm_calli (va_runV (As := [.int (xs (nI (1 + 4 * k + 1)).toNatClampNeg), .int (xs (nI (1 + 4 * k + 2)).toNatClampNeg)]) (rest := [.int r]) hC (c_R_receive l G LR 1000 n hIR ρ (xs (nI (1 + 4 * k + 1)).toNatClampNeg) (xs (nI (1 + 4 * k + 2)).toNatClampNeg) e2) (cwV 2 hts (tw_gV tw_488 tw_489 tw_490 tw_8 tw_491) rfl rfl rfl (by decide +kernel) ⟨Nat.le_of_ble_eq_true rfl, Nat.le_of_ble_eq_true rfl⟩) (mm_preV hK hV (k := 0) (i := 0) (Nat.zero_lt_one) rfl rfl) rfl rfl hl.1 rfl (lv_room (Nat.le_of_ble_eq_true rfl)) dL_law_215 ⟨Nat.le_of_ble_eq_true rfl, Nat.le_of_ble_eq_true rfl⟩) hS hfR (fun H locs hV _ hkp hS => ?_)
      replace hW := hW.kept fun q hq hA => hkp q hq (hdis q hA)
      refine lv_icmp_eq (tgt := 575) hx hb dL_law_218 (by decide) (fun _ => ?_) (fun hc => absurd rfl hc)
      exact back _ _ _ _ hW hV hR' hS
    by_cases hy3 : y = 3
    · subst hy3
      refine lv_tableIn (off := 181) (tgt := 223) hx hb dL_law_42 (by decide) (by decide) (by decide) (by decide) ?_
      obtain ⟨r, σ', ρ', e1, e2, hR'⟩ := t_lose (F := 1000) (Nat.le_refl _) (by omega) hR (xs (nI (1 + 4 * k + 1)).toNatClampNeg) (xs (nI (1 + 4 * k + 2)).toNatClampNeg)
      refine lv_aload_n hx hb dL_law_223 rfl (lv_at hl 1 rfl) ?_
      refine lv_aload_n hx hb dL_law_224 rfl (lv_at hl 0 rfl) ?_
      refine lv_iload_n hx hb dL_law_225 rfl (lv_at hl 3 rfl) ?_
      refine lv_iconst (v := nI 1) hx hb dL_law_226 (by decide) ?_
      refine lv_iadd hx hb dL_law_227 ?_
      refine mm_top (nI_add (1 + 4 * k) 1) ?_
      refine va_sld hx hb hX hbl hbA hS (vp_in_nI (show 1 + 4 * k + 1 < L by omega) (by omega)) dL_law_228 ?_
      refine lv_aload_n hx hb dL_law_229 rfl (lv_at hl 0 rfl) ?_
      refine lv_iload_n hx hb dL_law_230 rfl (lv_at hl 3 rfl) ?_
      refine lv_iconst (v := nI 2) hx hb dL_law_231 (by decide) ?_
      refine lv_iadd hx hb dL_law_232 ?_
      refine mm_top (nI_add (1 + 4 * k) 2) ?_
      refine va_sld hx hb hX hbl hbA hS (vp_in_nI (show 1 + 4 * k + 2 < L by omega) (by omega)) dL_law_233 ?_
      refine mm_calli (va_runV (As := [.int (xs (nI (1 + 4 * k + 1)).toNatClampNeg), .int (xs (nI (1 + 4 * k + 2)).toNatClampNeg)]) (rest := []) hC (c_X_lose l G LX 1000 n hIX σ (xs (nI (1 + 4 * k + 1)).toNatClampNeg) (xs (nI (1 + 4 * k + 2)).toNatClampNeg) e1) (cwV 2 hts (tw_gV tw_228 tw_229 tw_230 tw_1 tw_231) rfl rfl rfl (by decide +kernel) ⟨Nat.le_of_ble_eq_true rfl, Nat.le_of_ble_eq_true rfl⟩) (mm_preV hK hW (k := 0) (i := 0) (Nat.zero_lt_one) rfl rfl) rfl rfl hl.1 rfl (lv_room (Nat.le_of_ble_eq_true rfl)) dL_law_234 ⟨Nat.le_of_ble_eq_true rfl, Nat.le_of_ble_eq_true rfl⟩) hS hfX (fun H locs hW _ hkp hS => ?_)
      replace hV := hV.kept fun q hq hA => hkp q hq fun h => hdis q h hA
      refine lv_aload_n hx hb dL_law_237 rfl (lv_at hl 2 rfl) ?_
      refine lv_aload_n hx hb dL_law_238 rfl (lv_at hl 0 rfl) ?_
      refine lv_iload_n hx hb dL_law_239 rfl (lv_at hl 3 rfl) ?_
      refine lv_iconst (v := nI 1) hx hb dL_law_240 (by decide) ?_
      refine lv_iadd hx hb dL_law_241 ?_
      refine mm_top (nI_add (1 + 4 * k) 1) ?_
      refine va_sld hx hb hX hbl hbA hS (vp_in_nI (show 1 + 4 * k + 1 < L by omega) (by omega)) dL_law_242 ?_
      refine lv_aload_n hx hb dL_law_243 rfl (lv_at hl 0 rfl) ?_
      refine lv_iload_n hx hb dL_law_244 rfl (lv_at hl 3 rfl) ?_
      refine lv_iconst (v := nI 2) hx hb dL_law_245 (by decide) ?_
      refine lv_iadd hx hb dL_law_246 ?_
      refine mm_top (nI_add (1 + 4 * k) 2) ?_
      refine va_sld hx hb hX hbl hbA hS (vp_in_nI (show 1 + 4 * k + 2 < L by omega) (by omega)) dL_law_247 ?_
      refine mm_calli (va_runV (As := [.int (xs (nI (1 + 4 * k + 1)).toNatClampNeg), .int (xs (nI (1 + 4 * k + 2)).toNatClampNeg)]) (rest := [.int r]) hC (c_R_lose l G LR 1000 n hIR ρ (xs (nI (1 + 4 * k + 1)).toNatClampNeg) (xs (nI (1 + 4 * k + 2)).toNatClampNeg) e2) (cwV 2 hts (tw_gV tw_500 tw_501 tw_502 tw_8 tw_503) rfl rfl rfl (by decide +kernel) ⟨Nat.le_of_ble_eq_true rfl, Nat.le_of_ble_eq_true rfl⟩) (mm_preV hK hV (k := 0) (i := 0) (Nat.zero_lt_one) rfl rfl) rfl rfl hl.1 rfl (lv_room (Nat.le_of_ble_eq_true rfl)) dL_law_248 ⟨Nat.le_of_ble_eq_true rfl, Nat.le_of_ble_eq_true rfl⟩) hS hfR (fun H locs hV _ hkp hS => ?_)
      replace hW := hW.kept fun q hq hA => hkp q hq (hdis q hA)
      refine lv_icmp_eq (tgt := 575) hx hb dL_law_251 (by decide) (fun _ => ?_) (fun hc => absurd rfl hc)
      exact back _ _ _ _ hW hV hR' hS
    by_cases hy4 : y = 4
    · subst hy4
      refine lv_tableIn (off := 214) (tgt := 256) hx hb dL_law_42 (by decide) (by decide) (by decide) (by decide) ?_
      obtain ⟨r, σ', ρ', e1, e2, hR'⟩ := t_checkpoint (F := 1000) (Nat.le_refl _) (by omega) hR (xs (nI (1 + 4 * k + 1)).toNatClampNeg)
      refine lv_aload_n hx hb dL_law_256 rfl (lv_at hl 1 rfl) ?_
      refine lv_aload_n hx hb dL_law_257 rfl (lv_at hl 0 rfl) ?_
      refine lv_iload_n hx hb dL_law_258 rfl (lv_at hl 3 rfl) ?_
      refine lv_iconst (v := nI 1) hx hb dL_law_259 (by decide) ?_
      refine lv_iadd hx hb dL_law_260 ?_
      refine mm_top (nI_add (1 + 4 * k) 1) ?_
      refine va_sld hx hb hX hbl hbA hS (vp_in_nI (show 1 + 4 * k + 1 < L by omega) (by omega)) dL_law_261 ?_
      refine mm_calli (va_runV (As := [.int (xs (nI (1 + 4 * k + 1)).toNatClampNeg)]) (rest := []) hC (c_X_checkpoint l G LX 1000 n hIX σ (xs (nI (1 + 4 * k + 1)).toNatClampNeg) e1) (cwV 1 hts (tw_gV tw_232 tw_233 tw_234 tw_1 tw_235) rfl rfl rfl (by decide +kernel) ⟨Nat.le_of_ble_eq_true rfl, Nat.le_of_ble_eq_true rfl⟩) (mm_preV hK hW (k := 0) (i := 0) (Nat.zero_lt_one) rfl rfl) rfl rfl hl.1 rfl (lv_room (Nat.le_of_ble_eq_true rfl)) dL_law_262 ⟨Nat.le_of_ble_eq_true rfl, Nat.le_of_ble_eq_true rfl⟩) hS hfX (fun H locs hW _ hkp hS => ?_)
      replace hV := hV.kept fun q hq hA => hkp q hq fun h => hdis q h hA
      refine lv_aload_n hx hb dL_law_265 rfl (lv_at hl 2 rfl) ?_
      refine lv_aload_n hx hb dL_law_266 rfl (lv_at hl 0 rfl) ?_
      refine lv_iload_n hx hb dL_law_267 rfl (lv_at hl 3 rfl) ?_
      refine lv_iconst (v := nI 1) hx hb dL_law_268 (by decide) ?_
      refine lv_iadd hx hb dL_law_269 ?_
      refine mm_top (nI_add (1 + 4 * k) 1) ?_
      refine va_sld hx hb hX hbl hbA hS (vp_in_nI (show 1 + 4 * k + 1 < L by omega) (by omega)) dL_law_270 ?_
      refine mm_calli (va_runV (As := [.int (xs (nI (1 + 4 * k + 1)).toNatClampNeg)]) (rest := [.int r]) hC (c_R_checkpoint l G LR 1000 n hIR ρ (xs (nI (1 + 4 * k + 1)).toNatClampNeg) e2) (cwV 1 hts (tw_gV tw_548 tw_549 tw_550 tw_8 tw_551) rfl rfl rfl (by decide +kernel) ⟨Nat.le_of_ble_eq_true rfl, Nat.le_of_ble_eq_true rfl⟩) (mm_preV hK hV (k := 0) (i := 0) (Nat.zero_lt_one) rfl rfl) rfl rfl hl.1 rfl (lv_room (Nat.le_of_ble_eq_true rfl)) dL_law_271 ⟨Nat.le_of_ble_eq_true rfl, Nat.le_of_ble_eq_true rfl⟩) hS hfR (fun H locs hV _ hkp hS => ?_)
      replace hW := hW.kept fun q hq hA => hkp q hq (hdis q hA)
      refine lv_icmp_eq (tgt := 575) hx hb dL_law_274 (by decide) (fun _ => ?_) (fun hc => absurd rfl hc)
      exact back _ _ _ _ hW hV hR' hS
    by_cases hy5 : y = 5
    · subst hy5
      refine lv_tableIn (off := 237) (tgt := 279) hx hb dL_law_42 (by decide) (by decide) (by decide) (by decide) ?_
      obtain ⟨r, σ', ρ', e1, e2, hR'⟩ := t_crash (F := 1000) (Nat.le_refl _) (by omega) hR (xs (nI (1 + 4 * k + 1)).toNatClampNeg)
      refine lv_aload_n hx hb dL_law_279 rfl (lv_at hl 1 rfl) ?_
      refine lv_aload_n hx hb dL_law_280 rfl (lv_at hl 0 rfl) ?_
      refine lv_iload_n hx hb dL_law_281 rfl (lv_at hl 3 rfl) ?_
      refine lv_iconst (v := nI 1) hx hb dL_law_282 (by decide) ?_
      refine lv_iadd hx hb dL_law_283 ?_
      refine mm_top (nI_add (1 + 4 * k) 1) ?_
      refine va_sld hx hb hX hbl hbA hS (vp_in_nI (show 1 + 4 * k + 1 < L by omega) (by omega)) dL_law_284 ?_
      refine mm_calli (va_runV (As := [.int (xs (nI (1 + 4 * k + 1)).toNatClampNeg)]) (rest := []) hC (c_X_crash l G LX 1000 n hIX σ (xs (nI (1 + 4 * k + 1)).toNatClampNeg) e1) (cwV 1 hts (tw_gV tw_285 tw_286 tw_287 tw_1 tw_288) rfl rfl rfl (by decide +kernel) ⟨Nat.le_of_ble_eq_true rfl, Nat.le_of_ble_eq_true rfl⟩) (mm_preV hK hW (k := 0) (i := 0) (Nat.zero_lt_one) rfl rfl) rfl rfl hl.1 rfl (lv_room (Nat.le_of_ble_eq_true rfl)) dL_law_285 ⟨Nat.le_of_ble_eq_true rfl, Nat.le_of_ble_eq_true rfl⟩) hS hfX (fun H locs hW _ hkp hS => ?_)
      replace hV := hV.kept fun q hq hA => hkp q hq fun h => hdis q h hA
      refine lv_aload_n hx hb dL_law_288 rfl (lv_at hl 2 rfl) ?_
      refine lv_aload_n hx hb dL_law_289 rfl (lv_at hl 0 rfl) ?_
      refine lv_iload_n hx hb dL_law_290 rfl (lv_at hl 3 rfl) ?_
      refine lv_iconst (v := nI 1) hx hb dL_law_291 (by decide) ?_
      refine lv_iadd hx hb dL_law_292 ?_
      refine mm_top (nI_add (1 + 4 * k) 1) ?_
      refine va_sld hx hb hX hbl hbA hS (vp_in_nI (show 1 + 4 * k + 1 < L by omega) (by omega)) dL_law_293 ?_
      refine mm_calli (va_runV (As := [.int (xs (nI (1 + 4 * k + 1)).toNatClampNeg)]) (rest := [.int r]) hC (c_R_crash l G LR 1000 n hIR ρ (xs (nI (1 + 4 * k + 1)).toNatClampNeg) e2) (cwV 1 hts (tw_gV tw_556 tw_557 tw_558 tw_8 tw_559) rfl rfl rfl (by decide +kernel) ⟨Nat.le_of_ble_eq_true rfl, Nat.le_of_ble_eq_true rfl⟩) (mm_preV hK hV (k := 0) (i := 0) (Nat.zero_lt_one) rfl rfl) rfl rfl hl.1 rfl (lv_room (Nat.le_of_ble_eq_true rfl)) dL_law_294 ⟨Nat.le_of_ble_eq_true rfl, Nat.le_of_ble_eq_true rfl⟩) hS hfR (fun H locs hV _ hkp hS => ?_)
      replace hW := hW.kept fun q hq hA => hkp q hq (hdis q hA)
      refine lv_icmp_eq (tgt := 575) hx hb dL_law_297 (by decide) (fun _ => ?_) (fun hc => absurd rfl hc)
      exact back _ _ _ _ hW hV hR' hS
    by_cases hy6 : y = 6
    · subst hy6
      refine lv_tableIn (off := 260) (tgt := 302) hx hb dL_law_42 (by decide) (by decide) (by decide) (by decide) ?_
      obtain ⟨r, σ', ρ', e1, e2, hR'⟩ := t_restart (F := 1000) (Nat.le_refl _) (by omega) hR (xs (nI (1 + 4 * k + 1)).toNatClampNeg)
      refine lv_aload_n hx hb dL_law_302 rfl (lv_at hl 1 rfl) ?_
      refine lv_aload_n hx hb dL_law_303 rfl (lv_at hl 0 rfl) ?_
      refine lv_iload_n hx hb dL_law_304 rfl (lv_at hl 3 rfl) ?_
      refine lv_iconst (v := nI 1) hx hb dL_law_305 (by decide) ?_
      refine lv_iadd hx hb dL_law_306 ?_
      refine mm_top (nI_add (1 + 4 * k) 1) ?_
      refine va_sld hx hb hX hbl hbA hS (vp_in_nI (show 1 + 4 * k + 1 < L by omega) (by omega)) dL_law_307 ?_
      refine mm_calli (va_runV (As := [.int (xs (nI (1 + 4 * k + 1)).toNatClampNeg)]) (rest := []) hC (c_X_restart l G LX 1000 n hIX σ (xs (nI (1 + 4 * k + 1)).toNatClampNeg) e1) (cwV 1 hts (tw_gV tw_289 tw_290 tw_291 tw_1 tw_292) rfl rfl rfl (by decide +kernel) ⟨Nat.le_of_ble_eq_true rfl, Nat.le_of_ble_eq_true rfl⟩) (mm_preV hK hW (k := 0) (i := 0) (Nat.zero_lt_one) rfl rfl) rfl rfl hl.1 rfl (lv_room (Nat.le_of_ble_eq_true rfl)) dL_law_308 ⟨Nat.le_of_ble_eq_true rfl, Nat.le_of_ble_eq_true rfl⟩) hS hfX (fun H locs hW _ hkp hS => ?_)
      replace hV := hV.kept fun q hq hA => hkp q hq fun h => hdis q h hA
      refine lv_aload_n hx hb dL_law_311 rfl (lv_at hl 2 rfl) ?_
      refine lv_aload_n hx hb dL_law_312 rfl (lv_at hl 0 rfl) ?_
      refine lv_iload_n hx hb dL_law_313 rfl (lv_at hl 3 rfl) ?_
      refine lv_iconst (v := nI 1) hx hb dL_law_314 (by decide) ?_
      refine lv_iadd hx hb dL_law_315 ?_
      refine mm_top (nI_add (1 + 4 * k) 1) ?_
      refine va_sld hx hb hX hbl hbA hS (vp_in_nI (show 1 + 4 * k + 1 < L by omega) (by omega)) dL_law_316 ?_
      refine mm_calli (va_runV (As := [.int (xs (nI (1 + 4 * k + 1)).toNatClampNeg)]) (rest := [.int r]) hC (c_R_restart l G LR 1000 n hIR ρ (xs (nI (1 + 4 * k + 1)).toNatClampNeg) e2) (cwV 1 hts (tw_gV tw_560 tw_561 tw_562 tw_8 tw_563) rfl rfl rfl (by decide +kernel) ⟨Nat.le_of_ble_eq_true rfl, Nat.le_of_ble_eq_true rfl⟩) (mm_preV hK hV (k := 0) (i := 0) (Nat.zero_lt_one) rfl rfl) rfl rfl hl.1 rfl (lv_room (Nat.le_of_ble_eq_true rfl)) dL_law_317 ⟨Nat.le_of_ble_eq_true rfl, Nat.le_of_ble_eq_true rfl⟩) hS hfR (fun H locs hV _ hkp hS => ?_)
      replace hW := hW.kept fun q hq hA => hkp q hq (hdis q hA)
      refine lv_icmp_eq (tgt := 575) hx hb dL_law_320 (by decide) (fun _ => ?_) (fun hc => absurd rfl hc)
      exact back _ _ _ _ hW hV hR' hS
    by_cases hy7 : y = 7
    · subst hy7
      refine lv_tableIn (off := 283) (tgt := 325) hx hb dL_law_42 (by decide) (by decide) (by decide) (by decide) ?_
      obtain ⟨r, σ', ρ', e1, e2, hR'⟩ := t_tick (F := 1000) (Nat.le_refl _) (by omega) hR 
      refine lv_aload_n hx hb dL_law_325 rfl (lv_at hl 1 rfl) ?_
      refine mm_calli (va_runV (As := []) (rest := []) hC (c_X_tick l G LX 1000 n hIX σ  e1) (cwV 0 hts (tw_gV tw_293 tw_294 tw_295 tw_1 tw_296) rfl rfl rfl (by decide +kernel) ⟨Nat.le_of_ble_eq_true rfl, Nat.le_of_ble_eq_true rfl⟩) (mm_preV hK hW (k := 0) (i := 0) (Nat.zero_lt_one) rfl rfl) rfl rfl hl.1 rfl (lv_room (Nat.le_of_ble_eq_true rfl)) dL_law_326 ⟨Nat.le_of_ble_eq_true rfl, Nat.le_of_ble_eq_true rfl⟩) hS hfX (fun H locs hW _ hkp hS => ?_)
      replace hV := hV.kept fun q hq hA => hkp q hq fun h => hdis q h hA
      refine lv_aload_n hx hb dL_law_329 rfl (lv_at hl 2 rfl) ?_
      refine mm_calli (va_runV (As := []) (rest := [.int r]) hC (c_R_tick l G LR 1000 n hIR ρ  e2) (cwV 0 hts (tw_gV tw_504 tw_505 tw_506 tw_8 tw_507) rfl rfl rfl (by decide +kernel) ⟨Nat.le_of_ble_eq_true rfl, Nat.le_of_ble_eq_true rfl⟩) (mm_preV hK hV (k := 0) (i := 0) (Nat.zero_lt_one) rfl rfl) rfl rfl hl.1 rfl (lv_room (Nat.le_of_ble_eq_true rfl)) dL_law_330 ⟨Nat.le_of_ble_eq_true rfl, Nat.le_of_ble_eq_true rfl⟩) hS hfR (fun H locs hV _ hkp hS => ?_)
      replace hW := hW.kept fun q hq hA => hkp q hq (hdis q hA)
      refine lv_icmp_eq (tgt := 575) hx hb dL_law_333 (by decide) (fun _ => ?_) (fun hc => absurd rfl hc)
      exact back _ _ _ _ hW hV hR' hS
    by_cases hy8 : y = 8
    · subst hy8
      refine lv_tableIn (off := 296) (tgt := 338) hx hb dL_law_42 (by decide) (by decide) (by decide) (by decide) ?_
      obtain ⟨r, e1, e2⟩ := t_value (F := 1000) (Nat.le_refl _) (by omega) hR (xs (nI (1 + 4 * k + 1)).toNatClampNeg)
      refine lv_aload_n hx hb dL_law_338 rfl (lv_at hl 1 rfl) ?_
      refine lv_aload_n hx hb dL_law_339 rfl (lv_at hl 0 rfl) ?_
      refine lv_iload_n hx hb dL_law_340 rfl (lv_at hl 3 rfl) ?_
      refine lv_iconst (v := nI 1) hx hb dL_law_341 (by decide) ?_
      refine lv_iadd hx hb dL_law_342 ?_
      refine mm_top (nI_add (1 + 4 * k) 1) ?_
      refine va_sld hx hb hX hbl hbA hS (vp_in_nI (show 1 + 4 * k + 1 < L by omega) (by omega)) dL_law_343 ?_
      refine mm_calli (va_runV (As := [.int (xs (nI (1 + 4 * k + 1)).toNatClampNeg)]) (rest := []) hC (c_X_value l G LX 1000 n hIX σ (xs (nI (1 + 4 * k + 1)).toNatClampNeg) e1) (cwV 1 hts (tw_gV tw_329 tw_330 tw_331 tw_1 tw_332) rfl rfl rfl (by decide +kernel) ⟨Nat.le_of_ble_eq_true rfl, Nat.le_of_ble_eq_true rfl⟩) (mm_preV hK hW (k := 0) (i := 0) (Nat.zero_lt_one) rfl rfl) rfl rfl hl.1 rfl (lv_room (Nat.le_of_ble_eq_true rfl)) dL_law_344 ⟨Nat.le_of_ble_eq_true rfl, Nat.le_of_ble_eq_true rfl⟩) hS hfX (fun H locs hW _ hkp hS => ?_)
      replace hV := hV.kept fun q hq hA => hkp q hq fun h => hdis q h hA
      refine lv_aload_n hx hb dL_law_347 rfl (lv_at hl 2 rfl) ?_
      refine lv_aload_n hx hb dL_law_348 rfl (lv_at hl 0 rfl) ?_
      refine lv_iload_n hx hb dL_law_349 rfl (lv_at hl 3 rfl) ?_
      refine lv_iconst (v := nI 1) hx hb dL_law_350 (by decide) ?_
      refine lv_iadd hx hb dL_law_351 ?_
      refine mm_top (nI_add (1 + 4 * k) 1) ?_
      refine va_sld hx hb hX hbl hbA hS (vp_in_nI (show 1 + 4 * k + 1 < L by omega) (by omega)) dL_law_352 ?_
      refine mm_calli (va_runV (As := [.int (xs (nI (1 + 4 * k + 1)).toNatClampNeg)]) (rest := [.int r]) hC (c_R_value l G LR 1000 n hIR ρ (xs (nI (1 + 4 * k + 1)).toNatClampNeg) e2) (cwV 1 hts (tw_gV tw_564 tw_565 tw_566 tw_8 tw_567) rfl rfl rfl (by decide +kernel) ⟨Nat.le_of_ble_eq_true rfl, Nat.le_of_ble_eq_true rfl⟩) (mm_preV hK hV (k := 0) (i := 0) (Nat.zero_lt_one) rfl rfl) rfl rfl hl.1 rfl (lv_room (Nat.le_of_ble_eq_true rfl)) dL_law_353 ⟨Nat.le_of_ble_eq_true rfl, Nat.le_of_ble_eq_true rfl⟩) hS hfR (fun H locs hV _ hkp hS => ?_)
      replace hW := hW.kept fun q hq hA => hkp q hq (hdis q hA)
      refine lv_icmp_eq (tgt := 575) hx hb dL_law_356 (by decide) (fun _ => ?_) (fun hc => absurd rfl hc)
      exact back _ _ _ _ hW hV hR.up hS
    by_cases hy9 : y = 9
    · subst hy9
      refine lv_tableIn (off := 319) (tgt := 361) hx hb dL_law_42 (by decide) (by decide) (by decide) (by decide) ?_
      obtain ⟨r, e1, e2⟩ := t_kept (F := 1000) (Nat.le_refl _) (by omega) hR (xs (nI (1 + 4 * k + 1)).toNatClampNeg)
      refine lv_aload_n hx hb dL_law_361 rfl (lv_at hl 1 rfl) ?_
      refine lv_aload_n hx hb dL_law_362 rfl (lv_at hl 0 rfl) ?_
      refine lv_iload_n hx hb dL_law_363 rfl (lv_at hl 3 rfl) ?_
      refine lv_iconst (v := nI 1) hx hb dL_law_364 (by decide) ?_
      refine lv_iadd hx hb dL_law_365 ?_
      refine mm_top (nI_add (1 + 4 * k) 1) ?_
      refine va_sld hx hb hX hbl hbA hS (vp_in_nI (show 1 + 4 * k + 1 < L by omega) (by omega)) dL_law_366 ?_
      refine mm_calli (va_runV (As := [.int (xs (nI (1 + 4 * k + 1)).toNatClampNeg)]) (rest := []) hC (c_X_kept l G LX 1000 n hIX σ (xs (nI (1 + 4 * k + 1)).toNatClampNeg) e1) (cwV 1 hts (tw_gV tw_333 tw_334 tw_335 tw_1 tw_336) rfl rfl rfl (by decide +kernel) ⟨Nat.le_of_ble_eq_true rfl, Nat.le_of_ble_eq_true rfl⟩) (mm_preV hK hW (k := 0) (i := 0) (Nat.zero_lt_one) rfl rfl) rfl rfl hl.1 rfl (lv_room (Nat.le_of_ble_eq_true rfl)) dL_law_367 ⟨Nat.le_of_ble_eq_true rfl, Nat.le_of_ble_eq_true rfl⟩) hS hfX (fun H locs hW _ hkp hS => ?_)
      replace hV := hV.kept fun q hq hA => hkp q hq fun h => hdis q h hA
      refine lv_aload_n hx hb dL_law_370 rfl (lv_at hl 2 rfl) ?_
      refine lv_aload_n hx hb dL_law_371 rfl (lv_at hl 0 rfl) ?_
      refine lv_iload_n hx hb dL_law_372 rfl (lv_at hl 3 rfl) ?_
      refine lv_iconst (v := nI 1) hx hb dL_law_373 (by decide) ?_
      refine lv_iadd hx hb dL_law_374 ?_
      refine mm_top (nI_add (1 + 4 * k) 1) ?_
      refine va_sld hx hb hX hbl hbA hS (vp_in_nI (show 1 + 4 * k + 1 < L by omega) (by omega)) dL_law_375 ?_
      refine mm_calli (va_runV (As := [.int (xs (nI (1 + 4 * k + 1)).toNatClampNeg)]) (rest := [.int r]) hC (c_R_kept l G LR 1000 n hIR ρ (xs (nI (1 + 4 * k + 1)).toNatClampNeg) e2) (cwV 1 hts (tw_gV tw_568 tw_569 tw_570 tw_8 tw_571) rfl rfl rfl (by decide +kernel) ⟨Nat.le_of_ble_eq_true rfl, Nat.le_of_ble_eq_true rfl⟩) (mm_preV hK hV (k := 0) (i := 0) (Nat.zero_lt_one) rfl rfl) rfl rfl hl.1 rfl (lv_room (Nat.le_of_ble_eq_true rfl)) dL_law_376 ⟨Nat.le_of_ble_eq_true rfl, Nat.le_of_ble_eq_true rfl⟩) hS hfR (fun H locs hV _ hkp hS => ?_)
      replace hW := hW.kept fun q hq hA => hkp q hq (hdis q hA)
      refine lv_icmp_eq (tgt := 575) hx hb dL_law_379 (by decide) (fun _ => ?_) (fun hc => absurd rfl hc)
      exact back _ _ _ _ hW hV hR.up hS
    by_cases hy10 : y = 10
    · subst hy10
      refine lv_tableIn (off := 342) (tgt := 384) hx hb dL_law_42 (by decide) (by decide) (by decide) (by decide) ?_
      obtain ⟨r, e1, e2⟩ := t_label (F := 1000) (Nat.le_refl _) (by omega) hR (xs (nI (1 + 4 * k + 1)).toNatClampNeg) (xs (nI (1 + 4 * k + 2)).toNatClampNeg) (xs (nI (1 + 4 * k + 3)).toNatClampNeg)
      refine lv_aload_n hx hb dL_law_384 rfl (lv_at hl 1 rfl) ?_
      refine lv_aload_n hx hb dL_law_385 rfl (lv_at hl 0 rfl) ?_
      refine lv_iload_n hx hb dL_law_386 rfl (lv_at hl 3 rfl) ?_
      refine lv_iconst (v := nI 1) hx hb dL_law_387 (by decide) ?_
      refine lv_iadd hx hb dL_law_388 ?_
      refine mm_top (nI_add (1 + 4 * k) 1) ?_
      refine va_sld hx hb hX hbl hbA hS (vp_in_nI (show 1 + 4 * k + 1 < L by omega) (by omega)) dL_law_389 ?_
      refine lv_aload_n hx hb dL_law_390 rfl (lv_at hl 0 rfl) ?_
      refine lv_iload_n hx hb dL_law_391 rfl (lv_at hl 3 rfl) ?_
      refine lv_iconst (v := nI 2) hx hb dL_law_392 (by decide) ?_
      refine lv_iadd hx hb dL_law_393 ?_
      refine mm_top (nI_add (1 + 4 * k) 2) ?_
      refine va_sld hx hb hX hbl hbA hS (vp_in_nI (show 1 + 4 * k + 2 < L by omega) (by omega)) dL_law_394 ?_
      refine lv_aload_n hx hb dL_law_395 rfl (lv_at hl 0 rfl) ?_
      refine lv_iload_n hx hb dL_law_396 rfl (lv_at hl 3 rfl) ?_
      refine lv_iconst (v := nI 3) hx hb dL_law_397 (by decide) ?_
      refine lv_iadd hx hb dL_law_398 ?_
      refine mm_top (nI_add (1 + 4 * k) 3) ?_
      refine va_sld hx hb hX hbl hbA hS (vp_in_nI (show 1 + 4 * k + 3 < L by omega) (by omega)) dL_law_399 ?_
      refine mm_calli (va_runV (As := [.int (xs (nI (1 + 4 * k + 1)).toNatClampNeg), .int (xs (nI (1 + 4 * k + 2)).toNatClampNeg), .int (xs (nI (1 + 4 * k + 3)).toNatClampNeg)]) (rest := []) hC (c_X_label l G LX 1000 n hIX σ (xs (nI (1 + 4 * k + 1)).toNatClampNeg) (xs (nI (1 + 4 * k + 2)).toNatClampNeg) (xs (nI (1 + 4 * k + 3)).toNatClampNeg) e1) (cwV 3 hts (tw_gV tw_337 tw_338 tw_339 tw_1 tw_340) rfl rfl rfl (by decide +kernel) ⟨Nat.le_of_ble_eq_true rfl, Nat.le_of_ble_eq_true rfl⟩) (mm_preV hK hW (k := 0) (i := 0) (Nat.zero_lt_one) rfl rfl) rfl rfl hl.1 rfl (lv_room (Nat.le_of_ble_eq_true rfl)) dL_law_400 ⟨Nat.le_of_ble_eq_true rfl, Nat.le_of_ble_eq_true rfl⟩) hS hfX (fun H locs hW _ hkp hS => ?_)
      replace hV := hV.kept fun q hq hA => hkp q hq fun h => hdis q h hA
      refine lv_aload_n hx hb dL_law_403 rfl (lv_at hl 2 rfl) ?_
      refine lv_aload_n hx hb dL_law_404 rfl (lv_at hl 0 rfl) ?_
      refine lv_iload_n hx hb dL_law_405 rfl (lv_at hl 3 rfl) ?_
      refine lv_iconst (v := nI 1) hx hb dL_law_406 (by decide) ?_
      refine lv_iadd hx hb dL_law_407 ?_
      refine mm_top (nI_add (1 + 4 * k) 1) ?_
      refine va_sld hx hb hX hbl hbA hS (vp_in_nI (show 1 + 4 * k + 1 < L by omega) (by omega)) dL_law_408 ?_
      refine lv_aload_n hx hb dL_law_409 rfl (lv_at hl 0 rfl) ?_
      refine lv_iload_n hx hb dL_law_410 rfl (lv_at hl 3 rfl) ?_
      refine lv_iconst (v := nI 2) hx hb dL_law_411 (by decide) ?_
      refine lv_iadd hx hb dL_law_412 ?_
      refine mm_top (nI_add (1 + 4 * k) 2) ?_
      refine va_sld hx hb hX hbl hbA hS (vp_in_nI (show 1 + 4 * k + 2 < L by omega) (by omega)) dL_law_413 ?_
      refine lv_aload_n hx hb dL_law_414 rfl (lv_at hl 0 rfl) ?_
      refine lv_iload_n hx hb dL_law_415 rfl (lv_at hl 3 rfl) ?_
      refine lv_iconst (v := nI 3) hx hb dL_law_416 (by decide) ?_
      refine lv_iadd hx hb dL_law_417 ?_
      refine mm_top (nI_add (1 + 4 * k) 3) ?_
      refine va_sld hx hb hX hbl hbA hS (vp_in_nI (show 1 + 4 * k + 3 < L by omega) (by omega)) dL_law_418 ?_
      refine mm_calli (va_runV (As := [.int (xs (nI (1 + 4 * k + 1)).toNatClampNeg), .int (xs (nI (1 + 4 * k + 2)).toNatClampNeg), .int (xs (nI (1 + 4 * k + 3)).toNatClampNeg)]) (rest := [.int r]) hC (c_R_label l G LR 1000 n hIR ρ (xs (nI (1 + 4 * k + 1)).toNatClampNeg) (xs (nI (1 + 4 * k + 2)).toNatClampNeg) (xs (nI (1 + 4 * k + 3)).toNatClampNeg) e2) (cwV 3 hts (tw_gV tw_572 tw_573 tw_574 tw_8 tw_575) rfl rfl rfl (by decide +kernel) ⟨Nat.le_of_ble_eq_true rfl, Nat.le_of_ble_eq_true rfl⟩) (mm_preV hK hV (k := 0) (i := 0) (Nat.zero_lt_one) rfl rfl) rfl rfl hl.1 rfl (lv_room (Nat.le_of_ble_eq_true rfl)) dL_law_419 ⟨Nat.le_of_ble_eq_true rfl, Nat.le_of_ble_eq_true rfl⟩) hS hfR (fun H locs hV _ hkp hS => ?_)
      replace hW := hW.kept fun q hq hA => hkp q hq (hdis q hA)
      refine lv_icmp_eq (tgt := 575) hx hb dL_law_422 (by decide) (fun _ => ?_) (fun hc => absurd rfl hc)
      exact back _ _ _ _ hW hV hR.up hS
    by_cases hy11 : y = 11
    · subst hy11
      refine lv_tableIn (off := 385) (tgt := 427) hx hb dL_law_42 (by decide) (by decide) (by decide) (by decide) ?_
      obtain ⟨r, e1, e2⟩ := t_waiting (F := 1000) (Nat.le_refl _) (by omega) hR (xs (nI (1 + 4 * k + 1)).toNatClampNeg) (xs (nI (1 + 4 * k + 2)).toNatClampNeg)
      refine lv_aload_n hx hb dL_law_427 rfl (lv_at hl 1 rfl) ?_
      refine lv_aload_n hx hb dL_law_428 rfl (lv_at hl 0 rfl) ?_
      refine lv_iload_n hx hb dL_law_429 rfl (lv_at hl 3 rfl) ?_
      refine lv_iconst (v := nI 1) hx hb dL_law_430 (by decide) ?_
      refine lv_iadd hx hb dL_law_431 ?_
      refine mm_top (nI_add (1 + 4 * k) 1) ?_
      refine va_sld hx hb hX hbl hbA hS (vp_in_nI (show 1 + 4 * k + 1 < L by omega) (by omega)) dL_law_432 ?_
      refine lv_aload_n hx hb dL_law_433 rfl (lv_at hl 0 rfl) ?_
      refine lv_iload_n hx hb dL_law_434 rfl (lv_at hl 3 rfl) ?_
      refine lv_iconst (v := nI 2) hx hb dL_law_435 (by decide) ?_
      refine lv_iadd hx hb dL_law_436 ?_
      refine mm_top (nI_add (1 + 4 * k) 2) ?_
      refine va_sld hx hb hX hbl hbA hS (vp_in_nI (show 1 + 4 * k + 2 < L by omega) (by omega)) dL_law_437 ?_
      refine mm_calli (va_runV (As := [.int (xs (nI (1 + 4 * k + 1)).toNatClampNeg), .int (xs (nI (1 + 4 * k + 2)).toNatClampNeg)]) (rest := []) hC (c_X_waiting l G LX 1000 n hIX σ (xs (nI (1 + 4 * k + 1)).toNatClampNeg) (xs (nI (1 + 4 * k + 2)).toNatClampNeg) e1) (cwV 2 hts (tw_gV tw_341 tw_342 tw_343 tw_1 tw_344) rfl rfl rfl (by decide +kernel) ⟨Nat.le_of_ble_eq_true rfl, Nat.le_of_ble_eq_true rfl⟩) (mm_preV hK hW (k := 0) (i := 0) (Nat.zero_lt_one) rfl rfl) rfl rfl hl.1 rfl (lv_room (Nat.le_of_ble_eq_true rfl)) dL_law_438 ⟨Nat.le_of_ble_eq_true rfl, Nat.le_of_ble_eq_true rfl⟩) hS hfX (fun H locs hW _ hkp hS => ?_)
      replace hV := hV.kept fun q hq hA => hkp q hq fun h => hdis q h hA
      refine lv_aload_n hx hb dL_law_441 rfl (lv_at hl 2 rfl) ?_
      refine lv_aload_n hx hb dL_law_442 rfl (lv_at hl 0 rfl) ?_
      refine lv_iload_n hx hb dL_law_443 rfl (lv_at hl 3 rfl) ?_
      refine lv_iconst (v := nI 1) hx hb dL_law_444 (by decide) ?_
      refine lv_iadd hx hb dL_law_445 ?_
      refine mm_top (nI_add (1 + 4 * k) 1) ?_
      refine va_sld hx hb hX hbl hbA hS (vp_in_nI (show 1 + 4 * k + 1 < L by omega) (by omega)) dL_law_446 ?_
      refine lv_aload_n hx hb dL_law_447 rfl (lv_at hl 0 rfl) ?_
      refine lv_iload_n hx hb dL_law_448 rfl (lv_at hl 3 rfl) ?_
      refine lv_iconst (v := nI 2) hx hb dL_law_449 (by decide) ?_
      refine lv_iadd hx hb dL_law_450 ?_
      refine mm_top (nI_add (1 + 4 * k) 2) ?_
      refine va_sld hx hb hX hbl hbA hS (vp_in_nI (show 1 + 4 * k + 2 < L by omega) (by omega)) dL_law_451 ?_
      refine mm_calli (va_runV (As := [.int (xs (nI (1 + 4 * k + 1)).toNatClampNeg), .int (xs (nI (1 + 4 * k + 2)).toNatClampNeg)]) (rest := [.int r]) hC (c_R_waiting l G LR 1000 n hIR ρ (xs (nI (1 + 4 * k + 1)).toNatClampNeg) (xs (nI (1 + 4 * k + 2)).toNatClampNeg) e2) (cwV 2 hts (tw_gV tw_576 tw_577 tw_578 tw_8 tw_579) rfl rfl rfl (by decide +kernel) ⟨Nat.le_of_ble_eq_true rfl, Nat.le_of_ble_eq_true rfl⟩) (mm_preV hK hV (k := 0) (i := 0) (Nat.zero_lt_one) rfl rfl) rfl rfl hl.1 rfl (lv_room (Nat.le_of_ble_eq_true rfl)) dL_law_452 ⟨Nat.le_of_ble_eq_true rfl, Nat.le_of_ble_eq_true rfl⟩) hS hfR (fun H locs hV _ hkp hS => ?_)
      replace hW := hW.kept fun q hq hA => hkp q hq (hdis q hA)
      refine lv_icmp_eq (tgt := 575) hx hb dL_law_455 (by decide) (fun _ => ?_) (fun hc => absurd rfl hc)
      exact back _ _ _ _ hW hV hR.up hS
    by_cases hy12 : y = 12
    · subst hy12
      refine lv_tableIn (off := 418) (tgt := 460) hx hb dL_law_42 (by decide) (by decide) (by decide) (by decide) ?_
      obtain ⟨r, e1, e2⟩ := t_down (F := 1000) (by omega) hR (xs (nI (1 + 4 * k + 1)).toNatClampNeg)
      refine lv_aload_n hx hb dL_law_460 rfl (lv_at hl 1 rfl) ?_
      refine lv_aload_n hx hb dL_law_461 rfl (lv_at hl 0 rfl) ?_
      refine lv_iload_n hx hb dL_law_462 rfl (lv_at hl 3 rfl) ?_
      refine lv_iconst (v := nI 1) hx hb dL_law_463 (by decide) ?_
      refine lv_iadd hx hb dL_law_464 ?_
      refine mm_top (nI_add (1 + 4 * k) 1) ?_
      refine va_sld hx hb hX hbl hbA hS (vp_in_nI (show 1 + 4 * k + 1 < L by omega) (by omega)) dL_law_465 ?_
      refine mm_calli (va_runV (As := [.int (xs (nI (1 + 4 * k + 1)).toNatClampNeg)]) (rest := []) hC (c_X_down l G LX 1000 n hIX σ (xs (nI (1 + 4 * k + 1)).toNatClampNeg) e1) (cwV 1 hts (tw_gV tw_345 tw_346 tw_347 tw_1 tw_348) rfl rfl rfl (by decide +kernel) ⟨Nat.le_of_ble_eq_true rfl, Nat.le_of_ble_eq_true rfl⟩) (mm_preV hK hW (k := 0) (i := 0) (Nat.zero_lt_one) rfl rfl) rfl rfl hl.1 rfl (lv_room (Nat.le_of_ble_eq_true rfl)) dL_law_466 ⟨Nat.le_of_ble_eq_true rfl, Nat.le_of_ble_eq_true rfl⟩) hS hfX (fun H locs hW _ hkp hS => ?_)
      replace hV := hV.kept fun q hq hA => hkp q hq fun h => hdis q h hA
      refine lv_aload_n hx hb dL_law_469 rfl (lv_at hl 2 rfl) ?_
      refine lv_aload_n hx hb dL_law_470 rfl (lv_at hl 0 rfl) ?_
      refine lv_iload_n hx hb dL_law_471 rfl (lv_at hl 3 rfl) ?_
      refine lv_iconst (v := nI 1) hx hb dL_law_472 (by decide) ?_
      refine lv_iadd hx hb dL_law_473 ?_
      refine mm_top (nI_add (1 + 4 * k) 1) ?_
      refine va_sld hx hb hX hbl hbA hS (vp_in_nI (show 1 + 4 * k + 1 < L by omega) (by omega)) dL_law_474 ?_
      refine mm_calli (va_runV (As := [.int (xs (nI (1 + 4 * k + 1)).toNatClampNeg)]) (rest := [.int r]) hC (c_R_down l G LR 1000 n hIR ρ (xs (nI (1 + 4 * k + 1)).toNatClampNeg) e2) (cwV 1 hts (tw_gV tw_580 tw_581 tw_582 tw_8 tw_583) rfl rfl rfl (by decide +kernel) ⟨Nat.le_of_ble_eq_true rfl, Nat.le_of_ble_eq_true rfl⟩) (mm_preV hK hV (k := 0) (i := 0) (Nat.zero_lt_one) rfl rfl) rfl rfl hl.1 rfl (lv_room (Nat.le_of_ble_eq_true rfl)) dL_law_475 ⟨Nat.le_of_ble_eq_true rfl, Nat.le_of_ble_eq_true rfl⟩) hS hfR (fun H locs hV _ hkp hS => ?_)
      replace hW := hW.kept fun q hq hA => hkp q hq (hdis q hA)
      refine lv_icmp_eq (tgt := 575) hx hb dL_law_478 (by decide) (fun _ => ?_) (fun hc => absurd rfl hc)
      exact back _ _ _ _ hW hV hR.up hS
    by_cases hy13 : y = 13
    · subst hy13
      refine lv_tableIn (off := 441) (tgt := 483) hx hb dL_law_42 (by decide) (by decide) (by decide) (by decide) ?_
      obtain ⟨r, e1, e2⟩ := t_instance (F := 1000) (by omega) hR (xs (nI (1 + 4 * k + 1)).toNatClampNeg)
      refine lv_aload_n hx hb dL_law_483 rfl (lv_at hl 1 rfl) ?_
      refine lv_aload_n hx hb dL_law_484 rfl (lv_at hl 0 rfl) ?_
      refine lv_iload_n hx hb dL_law_485 rfl (lv_at hl 3 rfl) ?_
      refine lv_iconst (v := nI 1) hx hb dL_law_486 (by decide) ?_
      refine lv_iadd hx hb dL_law_487 ?_
      refine mm_top (nI_add (1 + 4 * k) 1) ?_
      refine va_sld hx hb hX hbl hbA hS (vp_in_nI (show 1 + 4 * k + 1 < L by omega) (by omega)) dL_law_488 ?_
      refine mm_calli (va_runV (As := [.int (xs (nI (1 + 4 * k + 1)).toNatClampNeg)]) (rest := []) hC (c_X_instance l G LX 1000 n hIX σ (xs (nI (1 + 4 * k + 1)).toNatClampNeg) e1) (cwV 1 hts (tw_gV tw_349 tw_350 tw_351 tw_1 tw_352) rfl rfl rfl (by decide +kernel) ⟨Nat.le_of_ble_eq_true rfl, Nat.le_of_ble_eq_true rfl⟩) (mm_preV hK hW (k := 0) (i := 0) (Nat.zero_lt_one) rfl rfl) rfl rfl hl.1 rfl (lv_room (Nat.le_of_ble_eq_true rfl)) dL_law_489 ⟨Nat.le_of_ble_eq_true rfl, Nat.le_of_ble_eq_true rfl⟩) hS hfX (fun H locs hW _ hkp hS => ?_)
      replace hV := hV.kept fun q hq hA => hkp q hq fun h => hdis q h hA
      refine lv_aload_n hx hb dL_law_492 rfl (lv_at hl 2 rfl) ?_
      refine lv_aload_n hx hb dL_law_493 rfl (lv_at hl 0 rfl) ?_
      refine lv_iload_n hx hb dL_law_494 rfl (lv_at hl 3 rfl) ?_
      refine lv_iconst (v := nI 1) hx hb dL_law_495 (by decide) ?_
      refine lv_iadd hx hb dL_law_496 ?_
      refine mm_top (nI_add (1 + 4 * k) 1) ?_
      refine va_sld hx hb hX hbl hbA hS (vp_in_nI (show 1 + 4 * k + 1 < L by omega) (by omega)) dL_law_497 ?_
      refine mm_calli (va_runV (As := [.int (xs (nI (1 + 4 * k + 1)).toNatClampNeg)]) (rest := [.int r]) hC (c_R_instance l G LR 1000 n hIR ρ (xs (nI (1 + 4 * k + 1)).toNatClampNeg) e2) (cwV 1 hts (tw_gV tw_584 tw_585 tw_586 tw_8 tw_587) rfl rfl rfl (by decide +kernel) ⟨Nat.le_of_ble_eq_true rfl, Nat.le_of_ble_eq_true rfl⟩) (mm_preV hK hV (k := 0) (i := 0) (Nat.zero_lt_one) rfl rfl) rfl rfl hl.1 rfl (lv_room (Nat.le_of_ble_eq_true rfl)) dL_law_498 ⟨Nat.le_of_ble_eq_true rfl, Nat.le_of_ble_eq_true rfl⟩) hS hfR (fun H locs hV _ hkp hS => ?_)
      replace hW := hW.kept fun q hq hA => hkp q hq (hdis q hA)
      refine lv_icmp_eq (tgt := 575) hx hb dL_law_501 (by decide) (fun _ => ?_) (fun hc => absurd rfl hc)
      exact back _ _ _ _ hW hV hR.up hS
    by_cases hy14 : y = 14
    · subst hy14
      refine lv_tableIn (off := 464) (tgt := 506) hx hb dL_law_42 (by decide) (by decide) (by decide) (by decide) ?_
      obtain ⟨r, e1, e2⟩ := t_decision (F := 1000) (by omega) hR (xs (nI (1 + 4 * k + 1)).toNatClampNeg)
      refine lv_aload_n hx hb dL_law_506 rfl (lv_at hl 1 rfl) ?_
      refine lv_aload_n hx hb dL_law_507 rfl (lv_at hl 0 rfl) ?_
      refine lv_iload_n hx hb dL_law_508 rfl (lv_at hl 3 rfl) ?_
      refine lv_iconst (v := nI 1) hx hb dL_law_509 (by decide) ?_
      refine lv_iadd hx hb dL_law_510 ?_
      refine mm_top (nI_add (1 + 4 * k) 1) ?_
      refine va_sld hx hb hX hbl hbA hS (vp_in_nI (show 1 + 4 * k + 1 < L by omega) (by omega)) dL_law_511 ?_
      refine mm_calli (va_runV (As := [.int (xs (nI (1 + 4 * k + 1)).toNatClampNeg)]) (rest := []) hC (c_X_decision l G LX 1000 n hIX σ (xs (nI (1 + 4 * k + 1)).toNatClampNeg) e1) (cwV 1 hts (tw_gV tw_353 tw_354 tw_355 tw_1 tw_356) rfl rfl rfl (by decide +kernel) ⟨Nat.le_of_ble_eq_true rfl, Nat.le_of_ble_eq_true rfl⟩) (mm_preV hK hW (k := 0) (i := 0) (Nat.zero_lt_one) rfl rfl) rfl rfl hl.1 rfl (lv_room (Nat.le_of_ble_eq_true rfl)) dL_law_512 ⟨Nat.le_of_ble_eq_true rfl, Nat.le_of_ble_eq_true rfl⟩) hS hfX (fun H locs hW _ hkp hS => ?_)
      replace hV := hV.kept fun q hq hA => hkp q hq fun h => hdis q h hA
      refine lv_aload_n hx hb dL_law_515 rfl (lv_at hl 2 rfl) ?_
      refine lv_aload_n hx hb dL_law_516 rfl (lv_at hl 0 rfl) ?_
      refine lv_iload_n hx hb dL_law_517 rfl (lv_at hl 3 rfl) ?_
      refine lv_iconst (v := nI 1) hx hb dL_law_518 (by decide) ?_
      refine lv_iadd hx hb dL_law_519 ?_
      refine mm_top (nI_add (1 + 4 * k) 1) ?_
      refine va_sld hx hb hX hbl hbA hS (vp_in_nI (show 1 + 4 * k + 1 < L by omega) (by omega)) dL_law_520 ?_
      refine mm_calli (va_runV (As := [.int (xs (nI (1 + 4 * k + 1)).toNatClampNeg)]) (rest := [.int r]) hC (c_R_decision l G LR 1000 n hIR ρ (xs (nI (1 + 4 * k + 1)).toNatClampNeg) e2) (cwV 1 hts (tw_gV tw_588 tw_589 tw_590 tw_8 tw_591) rfl rfl rfl (by decide +kernel) ⟨Nat.le_of_ble_eq_true rfl, Nat.le_of_ble_eq_true rfl⟩) (mm_preV hK hV (k := 0) (i := 0) (Nat.zero_lt_one) rfl rfl) rfl rfl hl.1 rfl (lv_room (Nat.le_of_ble_eq_true rfl)) dL_law_521 ⟨Nat.le_of_ble_eq_true rfl, Nat.le_of_ble_eq_true rfl⟩) hS hfR (fun H locs hV _ hkp hS => ?_)
      replace hW := hW.kept fun q hq hA => hkp q hq (hdis q hA)
      refine lv_icmp_eq (tgt := 575) hx hb dL_law_524 (by decide) (fun _ => ?_) (fun hc => absurd rfl hc)
      exact back _ _ _ _ hW hV hR.up hS
    by_cases hy15 : y = 15
    · subst hy15
      refine lv_tableIn (off := 487) (tgt := 529) hx hb dL_law_42 (by decide) (by decide) (by decide) (by decide) ?_
      obtain ⟨r, e1, e2⟩ := t_notes (F := 1000) hR 
      refine lv_aload_n hx hb dL_law_529 rfl (lv_at hl 1 rfl) ?_
      refine mm_calli (va_runV (As := []) (rest := []) hC (c_X_notes l G LX 1000 n hIX σ  e1) (cwV 0 hts (tw_gV tw_357 tw_358 tw_359 tw_1 tw_360) rfl rfl rfl (by decide +kernel) ⟨Nat.le_of_ble_eq_true rfl, Nat.le_of_ble_eq_true rfl⟩) (mm_preV hK hW (k := 0) (i := 0) (Nat.zero_lt_one) rfl rfl) rfl rfl hl.1 rfl (lv_room (Nat.le_of_ble_eq_true rfl)) dL_law_530 ⟨Nat.le_of_ble_eq_true rfl, Nat.le_of_ble_eq_true rfl⟩) hS hfX (fun H locs hW _ hkp hS => ?_)
      replace hV := hV.kept fun q hq hA => hkp q hq fun h => hdis q h hA
      refine lv_aload_n hx hb dL_law_533 rfl (lv_at hl 2 rfl) ?_
      refine mm_calli (va_runV (As := []) (rest := [.int r]) hC (c_R_notes l G LR 1000 n hIR ρ  e2) (cwV 0 hts (tw_gV tw_592 tw_593 tw_594 tw_8 tw_595) rfl rfl rfl (by decide +kernel) ⟨Nat.le_of_ble_eq_true rfl, Nat.le_of_ble_eq_true rfl⟩) (mm_preV hK hV (k := 0) (i := 0) (Nat.zero_lt_one) rfl rfl) rfl rfl hl.1 rfl (lv_room (Nat.le_of_ble_eq_true rfl)) dL_law_534 ⟨Nat.le_of_ble_eq_true rfl, Nat.le_of_ble_eq_true rfl⟩) hS hfR (fun H locs hV _ hkp hS => ?_)
      replace hW := hW.kept fun q hq hA => hkp q hq (hdis q hA)
      refine lv_icmp_eq (tgt := 575) hx hb dL_law_537 (by decide) (fun _ => ?_) (fun hc => absurd rfl hc)
      exact back _ _ _ _ hW hV hR.up hS
    by_cases hy16 : y = 16
    · subst hy16
      refine lv_tableIn (off := 500) (tgt := 542) hx hb dL_law_42 (by decide) (by decide) (by decide) (by decide) ?_
      obtain ⟨r, e1, e2⟩ := t_times (F := 1000) (by omega) hR (xs (nI (1 + 4 * k + 1)).toNatClampNeg) (xs (nI (1 + 4 * k + 2)).toNatClampNeg)
      refine lv_aload_n hx hb dL_law_542 rfl (lv_at hl 1 rfl) ?_
      refine lv_aload_n hx hb dL_law_543 rfl (lv_at hl 0 rfl) ?_
      refine lv_iload_n hx hb dL_law_544 rfl (lv_at hl 3 rfl) ?_
      refine lv_iconst (v := nI 1) hx hb dL_law_545 (by decide) ?_
      refine lv_iadd hx hb dL_law_546 ?_
      refine mm_top (nI_add (1 + 4 * k) 1) ?_
      refine va_sld hx hb hX hbl hbA hS (vp_in_nI (show 1 + 4 * k + 1 < L by omega) (by omega)) dL_law_547 ?_
      refine lv_aload_n hx hb dL_law_548 rfl (lv_at hl 0 rfl) ?_
      refine lv_iload_n hx hb dL_law_549 rfl (lv_at hl 3 rfl) ?_
      refine lv_iconst (v := nI 2) hx hb dL_law_550 (by decide) ?_
      refine lv_iadd hx hb dL_law_551 ?_
      refine mm_top (nI_add (1 + 4 * k) 2) ?_
      refine va_sld hx hb hX hbl hbA hS (vp_in_nI (show 1 + 4 * k + 2 < L by omega) (by omega)) dL_law_552 ?_
      refine mm_calli (va_runV (As := [.int (xs (nI (1 + 4 * k + 1)).toNatClampNeg), .int (xs (nI (1 + 4 * k + 2)).toNatClampNeg)]) (rest := []) hC (c_X_times l G LX 1000 n hIX σ (xs (nI (1 + 4 * k + 1)).toNatClampNeg) (xs (nI (1 + 4 * k + 2)).toNatClampNeg) e1) (cwV 2 hts (tw_gV tw_361 tw_362 tw_363 tw_1 tw_364) rfl rfl rfl (by decide +kernel) ⟨Nat.le_of_ble_eq_true rfl, Nat.le_of_ble_eq_true rfl⟩) (mm_preV hK hW (k := 0) (i := 0) (Nat.zero_lt_one) rfl rfl) rfl rfl hl.1 rfl (lv_room (Nat.le_of_ble_eq_true rfl)) dL_law_553 ⟨Nat.le_of_ble_eq_true rfl, Nat.le_of_ble_eq_true rfl⟩) hS hfX (fun H locs hW _ hkp hS => ?_)
      replace hV := hV.kept fun q hq hA => hkp q hq fun h => hdis q h hA
      refine lv_aload_n hx hb dL_law_556 rfl (lv_at hl 2 rfl) ?_
      refine lv_aload_n hx hb dL_law_557 rfl (lv_at hl 0 rfl) ?_
      refine lv_iload_n hx hb dL_law_558 rfl (lv_at hl 3 rfl) ?_
      refine lv_iconst (v := nI 1) hx hb dL_law_559 (by decide) ?_
      refine lv_iadd hx hb dL_law_560 ?_
      refine mm_top (nI_add (1 + 4 * k) 1) ?_
      refine va_sld hx hb hX hbl hbA hS (vp_in_nI (show 1 + 4 * k + 1 < L by omega) (by omega)) dL_law_561 ?_
      refine lv_aload_n hx hb dL_law_562 rfl (lv_at hl 0 rfl) ?_
      refine lv_iload_n hx hb dL_law_563 rfl (lv_at hl 3 rfl) ?_
      refine lv_iconst (v := nI 2) hx hb dL_law_564 (by decide) ?_
      refine lv_iadd hx hb dL_law_565 ?_
      refine mm_top (nI_add (1 + 4 * k) 2) ?_
      refine va_sld hx hb hX hbl hbA hS (vp_in_nI (show 1 + 4 * k + 2 < L by omega) (by omega)) dL_law_566 ?_
      refine mm_calli (va_runV (As := [.int (xs (nI (1 + 4 * k + 1)).toNatClampNeg), .int (xs (nI (1 + 4 * k + 2)).toNatClampNeg)]) (rest := [.int r]) hC (c_R_times l G LR 1000 n hIR ρ (xs (nI (1 + 4 * k + 1)).toNatClampNeg) (xs (nI (1 + 4 * k + 2)).toNatClampNeg) e2) (cwV 2 hts (tw_gV tw_596 tw_597 tw_598 tw_8 tw_599) rfl rfl rfl (by decide +kernel) ⟨Nat.le_of_ble_eq_true rfl, Nat.le_of_ble_eq_true rfl⟩) (mm_preV hK hV (k := 0) (i := 0) (Nat.zero_lt_one) rfl rfl) rfl rfl hl.1 rfl (lv_room (Nat.le_of_ble_eq_true rfl)) dL_law_567 ⟨Nat.le_of_ble_eq_true rfl, Nat.le_of_ble_eq_true rfl⟩) hS hfR (fun H locs hV _ hkp hS => ?_)
      replace hW := hW.kept fun q hq hA => hkp q hq (hdis q hA)
      refine lv_icmp_eq (tgt := 575) hx hb dL_law_570 (by decide) (fun _ => ?_) (fun hc => absurd rfl hc)
      exact back _ _ _ _ hW hV hR.up hS
    have hout : y.toInt < 0 ∨ 16 < y.toInt := by
      have f0 : y.toInt ≠ 0 := mm_ne hy0
      have f1 : y.toInt ≠ 1 := mm_ne hy1
      have f2 : y.toInt ≠ 2 := mm_ne hy2
      have f3 : y.toInt ≠ 3 := mm_ne hy3
      have f4 : y.toInt ≠ 4 := mm_ne hy4
      have f5 : y.toInt ≠ 5 := mm_ne hy5
      have f6 : y.toInt ≠ 6 := mm_ne hy6
      have f7 : y.toInt ≠ 7 := mm_ne hy7
      have f8 : y.toInt ≠ 8 := mm_ne hy8
      have f9 : y.toInt ≠ 9 := mm_ne hy9
      have f10 : y.toInt ≠ 10 := mm_ne hy10
      have f11 : y.toInt ≠ 11 := mm_ne hy11
      have f12 : y.toInt ≠ 12 := mm_ne hy12
      have f13 : y.toInt ≠ 13 := mm_ne hy13
      have f14 : y.toInt ≠ 14 := mm_ne hy14
      have f15 : y.toInt ≠ 15 := mm_ne hy15
      have f16 : y.toInt ≠ 16 := mm_ne hy16
      omega
    refine lv_tableOut (tgt := 575) hx hb dL_law_42 hout (by decide) ?_
    exact back _ _ _ _ hW hV hR.up hS
