abbrev b_X_init : ByteArray := prog_1_method_1_code
abbrev y_X_init : MethodName := ⟨"TwoPhaseCuts", "<init>", "(I)V"⟩
abbrev b_X_work : ByteArray := prog_1_method_2_code
abbrev y_X_work : MethodName := ⟨"TwoPhaseCuts", "work", "(II)I"⟩
abbrev b_X_send : ByteArray := prog_1_method_3_code
abbrev y_X_send : MethodName := ⟨"TwoPhaseCuts", "send", "(II)I"⟩
abbrev b_X_receive : ByteArray := prog_1_method_4_code
abbrev y_X_receive : MethodName := ⟨"TwoPhaseCuts", "receive", "(II)I"⟩
abbrev b_X_lose : ByteArray := prog_1_method_5_code
abbrev y_X_lose : MethodName := ⟨"TwoPhaseCuts", "lose", "(II)I"⟩
abbrev b_X_checkpoint : ByteArray := prog_1_method_6_code
abbrev y_X_checkpoint : MethodName := ⟨"TwoPhaseCuts", "checkpoint", "(I)I"⟩
abbrev b_X_crash : ByteArray := prog_1_method_7_code
abbrev y_X_crash : MethodName := ⟨"TwoPhaseCuts", "crash", "(I)I"⟩
abbrev b_X_restart : ByteArray := prog_1_method_8_code
abbrev y_X_restart : MethodName := ⟨"TwoPhaseCuts", "restart", "(I)I"⟩
abbrev b_X_tick : ByteArray := prog_1_method_9_code
abbrev y_X_tick : MethodName := ⟨"TwoPhaseCuts", "tick", "()I"⟩
abbrev b_X_value : ByteArray := prog_1_method_10_code
abbrev y_X_value : MethodName := ⟨"TwoPhaseCuts", "value", "(I)I"⟩
abbrev b_X_kept : ByteArray := prog_1_method_11_code
abbrev y_X_kept : MethodName := ⟨"TwoPhaseCuts", "kept", "(I)I"⟩
abbrev b_X_label : ByteArray := prog_1_method_12_code
abbrev y_X_label : MethodName := ⟨"TwoPhaseCuts", "label", "(III)I"⟩
abbrev b_X_waiting : ByteArray := prog_1_method_13_code
abbrev y_X_waiting : MethodName := ⟨"TwoPhaseCuts", "waiting", "(II)I"⟩
abbrev b_X_down : ByteArray := prog_1_method_14_code
abbrev y_X_down : MethodName := ⟨"TwoPhaseCuts", "down", "(I)Z"⟩
abbrev b_X_instance : ByteArray := prog_1_method_15_code
abbrev y_X_instance : MethodName := ⟨"TwoPhaseCuts", "instance", "(I)I"⟩
abbrev b_X_decision : ByteArray := prog_1_method_16_code
abbrev y_X_decision : MethodName := ⟨"TwoPhaseCuts", "decision", "(I)I"⟩
abbrev b_X_notes : ByteArray := prog_1_method_17_code
abbrev y_X_notes : MethodName := ⟨"TwoPhaseCuts", "notes", "()I"⟩
abbrev b_X_times : ByteArray := prog_1_method_18_code
abbrev y_X_times : MethodName := ⟨"TwoPhaseCuts", "times", "(II)I"⟩
abbrev b_X_isProcess : ByteArray := prog_1_method_19_code
abbrev y_X_isProcess : MethodName := ⟨"TwoPhaseCuts", "isProcess", "(I)Z"⟩
abbrev b_X_isChannel : ByteArray := prog_1_method_20_code
abbrev y_X_isChannel : MethodName := ⟨"TwoPhaseCuts", "isChannel", "(II)Z"⟩
abbrev b_X_channelOf : ByteArray := prog_1_method_21_code
abbrev y_X_channelOf : MethodName := ⟨"TwoPhaseCuts", "channelOf", "(II)LTwoPhaseCuts$Channel;"⟩
abbrev b_X_begin : ByteArray := prog_1_method_22_code
abbrev y_X_begin : MethodName := ⟨"TwoPhaseCuts", "begin", "(IZ)I"⟩
abbrev b_X_join : ByteArray := prog_1_method_23_code
abbrev y_X_join : MethodName := ⟨"TwoPhaseCuts", "join", "(III)V"⟩
abbrev b_X_concludeWhenAnswered : ByteArray := prog_1_method_24_code
abbrev y_X_concludeWhenAnswered : MethodName := ⟨"TwoPhaseCuts", "concludeWhenAnswered", "(I)V"⟩
abbrev b_X_deliver : ByteArray := prog_1_method_25_code
abbrev y_X_deliver : MethodName := ⟨"TwoPhaseCuts", "deliver", "(LTwoPhaseCuts$Note;)V"⟩
abbrev b_X_hearRequest : ByteArray := prog_1_method_26_code
abbrev y_X_hearRequest : MethodName := ⟨"TwoPhaseCuts", "hearRequest", "(LTwoPhaseCuts$Note;)V"⟩
abbrev b_X_reply : ByteArray := prog_1_method_27_code
abbrev y_X_reply : MethodName := ⟨"TwoPhaseCuts", "reply", "(LTwoPhaseCuts$Note;I)V"⟩
abbrev b_X_hearAnswer : ByteArray := prog_1_method_28_code
abbrev y_X_hearAnswer : MethodName := ⟨"TwoPhaseCuts", "hearAnswer", "(LTwoPhaseCuts$Note;)V"⟩
abbrev b_X_hearDecision : ByteArray := prog_1_method_29_code
abbrev y_X_hearDecision : MethodName := ⟨"TwoPhaseCuts", "hearDecision", "(LTwoPhaseCuts$Note;)V"⟩
abbrev b_X_follow : ByteArray := prog_1_method_30_code
abbrev y_X_follow : MethodName := ⟨"TwoPhaseCuts", "follow", "(II)V"⟩
abbrev b_X_rollBack : ByteArray := prog_1_method_31_code
abbrev y_X_rollBack : MethodName := ⟨"TwoPhaseCuts", "rollBack", "(I)V"⟩
abbrev b_R_init : ByteArray := prog_8_method_1_code
abbrev y_R_init : MethodName := ⟨"TwoPhaseCutsModel", "<init>", "(I)V"⟩
abbrev b_R_is : ByteArray := prog_8_method_2_code
abbrev y_R_is : MethodName := ⟨"TwoPhaseCutsModel", "is", "(I)Z"⟩
abbrev b_R_pair : ByteArray := prog_8_method_3_code
abbrev y_R_pair : MethodName := ⟨"TwoPhaseCutsModel", "pair", "(II)Z"⟩
abbrev b_R_valueAt : ByteArray := prog_8_method_4_code
abbrev y_R_valueAt : MethodName := ⟨"TwoPhaseCutsModel", "valueAt", "(II)I"⟩
abbrev b_R_sentAt : ByteArray := prog_8_method_5_code
abbrev y_R_sentAt : MethodName := ⟨"TwoPhaseCutsModel", "sentAt", "(III)I"⟩
abbrev b_R_receivedAt : ByteArray := prog_8_method_6_code
abbrev y_R_receivedAt : MethodName := ⟨"TwoPhaseCutsModel", "receivedAt", "(III)I"⟩
abbrev b_R_sentWith : ByteArray := prog_8_method_7_code
abbrev y_R_sentWith : MethodName := ⟨"TwoPhaseCutsModel", "sentWith", "(III)I"⟩
abbrev b_R_inChannel : ByteArray := prog_8_method_8_code
abbrev y_R_inChannel : MethodName := ⟨"TwoPhaseCutsModel", "inChannel", "(II)I"⟩
abbrev b_R_note : ByteArray := prog_8_method_9_code
abbrev y_R_note : MethodName := ⟨"TwoPhaseCutsModel", "note", "(IIIII)I"⟩
abbrev b_R_stands : ByteArray := prog_8_method_10_code
abbrev y_R_stands : MethodName := ⟨"TwoPhaseCutsModel", "stands", "(I)Z"⟩
abbrev b_R_work : ByteArray := prog_8_method_11_code
abbrev y_R_work : MethodName := ⟨"TwoPhaseCutsModel", "work", "(II)I"⟩
abbrev b_R_send : ByteArray := prog_8_method_12_code
abbrev y_R_send : MethodName := ⟨"TwoPhaseCutsModel", "send", "(II)I"⟩
abbrev b_R_receive : ByteArray := prog_8_method_13_code
abbrev y_R_receive : MethodName := ⟨"TwoPhaseCutsModel", "receive", "(II)I"⟩
abbrev b_R_lose : ByteArray := prog_8_method_14_code
abbrev y_R_lose : MethodName := ⟨"TwoPhaseCutsModel", "lose", "(II)I"⟩
abbrev b_R_write : ByteArray := prog_8_method_15_code
abbrev y_R_write : MethodName := ⟨"TwoPhaseCutsModel", "write", "(IIII)V"⟩
abbrev b_R_asks : ByteArray := prog_8_method_16_code
abbrev y_R_asks : MethodName := ⟨"TwoPhaseCutsModel", "asks", "(II)Z"⟩
abbrev b_R_join : ByteArray := prog_8_method_17_code
abbrev y_R_join : MethodName := ⟨"TwoPhaseCutsModel", "join", "(IIZI)V"⟩
abbrev b_R_complete : ByteArray := prog_8_method_18_code
abbrev y_R_complete : MethodName := ⟨"TwoPhaseCutsModel", "complete", "(I)V"⟩
abbrev b_R_follow : ByteArray := prog_8_method_19_code
abbrev y_R_follow : MethodName := ⟨"TwoPhaseCutsModel", "follow", "(IZ)V"⟩
abbrev b_R_cut : ByteArray := prog_8_method_20_code
abbrev y_R_cut : MethodName := ⟨"TwoPhaseCutsModel", "cut", "(I)V"⟩
abbrev b_R_concerned : ByteArray := prog_8_method_21_code
abbrev y_R_concerned : MethodName := ⟨"TwoPhaseCutsModel", "concerned", "(II)Z"⟩
abbrev b_R_request : ByteArray := prog_8_method_22_code
abbrev y_R_request : MethodName := ⟨"TwoPhaseCutsModel", "request", "(I)V"⟩
abbrev b_R_deliver : ByteArray := prog_8_method_23_code
abbrev y_R_deliver : MethodName := ⟨"TwoPhaseCutsModel", "deliver", "(I)V"⟩
abbrev b_R_tick : ByteArray := prog_8_method_24_code
abbrev y_R_tick : MethodName := ⟨"TwoPhaseCutsModel", "tick", "()I"⟩
abbrev b_R_begin : ByteArray := prog_8_method_25_code
abbrev y_R_begin : MethodName := ⟨"TwoPhaseCutsModel", "begin", "(IZ)I"⟩
abbrev b_R_checkpoint : ByteArray := prog_8_method_26_code
abbrev y_R_checkpoint : MethodName := ⟨"TwoPhaseCutsModel", "checkpoint", "(I)I"⟩
abbrev b_R_crash : ByteArray := prog_8_method_27_code
abbrev y_R_crash : MethodName := ⟨"TwoPhaseCutsModel", "crash", "(I)I"⟩
abbrev b_R_restart : ByteArray := prog_8_method_28_code
abbrev y_R_restart : MethodName := ⟨"TwoPhaseCutsModel", "restart", "(I)I"⟩
abbrev b_R_value : ByteArray := prog_8_method_29_code
abbrev y_R_value : MethodName := ⟨"TwoPhaseCutsModel", "value", "(I)I"⟩
abbrev b_R_kept : ByteArray := prog_8_method_30_code
abbrev y_R_kept : MethodName := ⟨"TwoPhaseCutsModel", "kept", "(I)I"⟩
abbrev b_R_label : ByteArray := prog_8_method_31_code
abbrev y_R_label : MethodName := ⟨"TwoPhaseCutsModel", "label", "(III)I"⟩
abbrev b_R_waiting : ByteArray := prog_8_method_32_code
abbrev y_R_waiting : MethodName := ⟨"TwoPhaseCutsModel", "waiting", "(II)I"⟩
abbrev b_R_down : ByteArray := prog_8_method_33_code
abbrev y_R_down : MethodName := ⟨"TwoPhaseCutsModel", "down", "(I)Z"⟩
abbrev b_R_instance : ByteArray := prog_8_method_34_code
abbrev y_R_instance : MethodName := ⟨"TwoPhaseCutsModel", "instance", "(I)I"⟩
abbrev b_R_decision : ByteArray := prog_8_method_35_code
abbrev y_R_decision : MethodName := ⟨"TwoPhaseCutsModel", "decision", "(I)I"⟩
abbrev b_R_notes : ByteArray := prog_8_method_36_code
abbrev y_R_notes : MethodName := ⟨"TwoPhaseCutsModel", "notes", "()I"⟩
abbrev b_R_times : ByteArray := prog_8_method_37_code
abbrev y_R_times : MethodName := ⟨"TwoPhaseCutsModel", "times", "(II)I"⟩
abbrev b_H_init : ByteArray := prog_2_method_1_code
abbrev y_H_init : MethodName := ⟨"TwoPhaseCuts$Channel", "<init>", "()V"⟩
abbrev b_H_put : ByteArray := prog_2_method_2_code
abbrev y_H_put : MethodName := ⟨"TwoPhaseCuts$Channel", "put", "(II)V"⟩
abbrev b_H_takeFirst : ByteArray := prog_2_method_3_code
abbrev y_H_takeFirst : MethodName := ⟨"TwoPhaseCuts$Channel", "takeFirst", "()V"⟩
abbrev b_H_takeAbove : ByteArray := prog_2_method_4_code
abbrev y_H_takeAbove : MethodName := ⟨"TwoPhaseCuts$Channel", "takeAbove", "(I)V"⟩
abbrev b_M_init : ByteArray := prog_3_method_1_code
abbrev y_M_init : MethodName := ⟨"TwoPhaseCuts$Member", "<init>", "(I)V"⟩
abbrev b_M_isInvolved : ByteArray := prog_3_method_2_code
abbrev y_M_isInvolved : MethodName := ⟨"TwoPhaseCuts$Member", "isInvolved", "()Z"⟩
abbrev b_M_isInRollback : ByteArray := prog_3_method_3_code
abbrev y_M_isInRollback : MethodName := ⟨"TwoPhaseCuts$Member", "isInRollback", "()Z"⟩
abbrev b_M_hasNewReceiptFrom : ByteArray := prog_3_method_4_code
abbrev y_M_hasNewReceiptFrom : MethodName := ⟨"TwoPhaseCuts$Member", "hasNewReceiptFrom", "(I)Z"⟩
abbrev b_M_isConcerned : ByteArray := prog_3_method_5_code
abbrev y_M_isConcerned : MethodName := ⟨"TwoPhaseCuts$Member", "isConcerned", "(ZII)Z"⟩
abbrev b_M_enter : ByteArray := prog_3_method_6_code
abbrev y_M_enter : MethodName := ⟨"TwoPhaseCuts$Member", "enter", "(IZI)V"⟩
abbrev b_M_makePermanent : ByteArray := prog_3_method_7_code
abbrev y_M_makePermanent : MethodName := ⟨"TwoPhaseCuts$Member", "makePermanent", "()V"⟩
abbrev b_N_init : ByteArray := prog_4_method_1_code
abbrev y_N_init : MethodName := ⟨"TwoPhaseCuts$Note", "<init>", "()V"⟩
abbrev b_L_init : ByteArray := prog_5_method_1_code
abbrev y_L_init : MethodName := ⟨"TwoPhaseCuts$NoteLine", "<init>", "(I)V"⟩
abbrev b_L_add : ByteArray := prog_5_method_2_code
abbrev y_L_add : MethodName := ⟨"TwoPhaseCuts$NoteLine", "add", "(IIIII)V"⟩
abbrev b_L_first : ByteArray := prog_5_method_3_code
abbrev y_L_first : MethodName := ⟨"TwoPhaseCuts$NoteLine", "first", "()LTwoPhaseCuts$Note;"⟩
abbrev b_L_takeFirst : ByteArray := prog_5_method_4_code
abbrev y_L_takeFirst : MethodName := ⟨"TwoPhaseCuts$NoteLine", "takeFirst", "()V"⟩
abbrev b_L_wrapped : ByteArray := prog_5_method_5_code
abbrev y_L_wrapped : MethodName := ⟨"TwoPhaseCuts$NoteLine", "wrapped", "(I)I"⟩
abbrev b_S_init : ByteArray := prog_6_method_1_code
abbrev y_S_init : MethodName := ⟨"TwoPhaseCuts$State", "<init>", "(I)V"⟩
abbrev b_S_copyFrom : ByteArray := prog_6_method_2_code
abbrev y_S_copyFrom : MethodName := ⟨"TwoPhaseCuts$State", "copyFrom", "(LTwoPhaseCuts$State;)V"⟩
def tw_tbl : List Cond := lw_tbl.filter goodWord
theorem tw_sub : ∀ w ∈ tw_tbl, w ∈ lw_tbl := fun _ h => (List.mem_filter.mp h).1
theorem tw_good : ∀ w ∈ tw_tbl, (w.onTables && w.keeps) = true ∨ ∃ ty, w = .arrayClass ty := fun w h => good_of_word (List.mem_filter.mp h).2
theorem tw_of {w : Cond} (i : Nat) (h : tables_1[i]? = some w) (hg : goodWord w = true) : w ∈ tw_tbl := List.mem_filter.mpr ⟨List.mem_append_right _ (List.mem_of_getElem? h), hg⟩
theorem tw_ofs {w : Cond} (i : Nat) (h : (k2_sels lw_privs)[i]? = some w) (hg : goodWord w = true) : w ∈ tw_tbl := List.mem_filter.mpr ⟨List.mem_append_left _ (List.mem_of_getElem? h), hg⟩
theorem tw_gd {ws : List Cond} (h : ∀ w ∈ ws, w ∈ tw_tbl) : GoodIn tw_tbl ws := fun w hw => ⟨h w hw, tw_good w (h w hw)⟩
theorem tw_gV {own C : String} {idx mL : Nat} {y : MethodName} {cc : ByteArray} {rt : Option FieldType} (h1 : Cond.methodLink own idx y ∈ tw_tbl) (h2 : Cond.instanceMethod y ∈ tw_tbl) (h3 : Cond.selects C y y ∈ tw_tbl) (h4 : Cond.initialized C ∈ tw_tbl) (h5 : Cond.code y cc mL rt ∈ tw_tbl) : GoodIn tw_tbl (wsV own idx C y (Cond.code y cc mL rt :: tw_tbl)) := by
  refine tw_gd fun w hw => ?_
  rcases List.mem_append.mp hw with hw | hw
  · simp only [List.mem_cons, List.not_mem_nil, or_false] at hw
    rcases hw with rfl | rfl | rfl | rfl
    · exact h1
    · exact h2
    · exact h3
    · exact h4
  · rcases List.mem_cons.mp hw with rfl | hw
    · exact h5
    · exact hw
def T_X : u_T := fun k => match k with
  | 0 => ("TwoPhaseCuts", "processCount", "I", true)
  | 1 => ("TwoPhaseCuts", "members", "[LTwoPhaseCuts$Member;", true)
  | 2 => ("TwoPhaseCuts", "channels", "[LTwoPhaseCuts$Channel;", true)
  | 3 => ("TwoPhaseCuts", "noteLine", "LTwoPhaseCuts$NoteLine;", true)
  | 4 => ("TwoPhaseCuts", "isRollback", "[Z", true)
  | 5 => ("TwoPhaseCuts", "decisions", "[I", true)
  | _ => ("TwoPhaseCuts", "instancesBegun", "I", false)
def ty_X : Nat → FieldType := fun k => match k with
  | 0 => .int
  | 1 => .array (.object "TwoPhaseCuts$Member")
  | 2 => .array (.object "TwoPhaseCuts$Channel")
  | 3 => .object "TwoPhaseCuts$NoteLine"
  | 4 => .array .boolean
  | 5 => .array .int
  | _ => .int
theorem nmo_X : ∀ a, a < 7 → ∀ b, b < 7 → a ≠ b → (T_X a).2.1 ≠ (T_X b).2.1 := by decide +kernel
theorem tyo_X : ∀ k, k < 7 → parseFieldDescriptor (T_X k).2.2.1 = some (ty_X k) := by decide +kernel
theorem ui_X : ∀ w ∈ u_ws "TwoPhaseCuts" T_X 7, w ∈ tw_tbl := by decide +kernel
def T_M : u_T := fun k => match k with
  | 0 => ("TwoPhaseCuts$Member", "now", "LTwoPhaseCuts$State;", true)
  | 1 => ("TwoPhaseCuts$Member", "permanent", "LTwoPhaseCuts$State;", true)
  | 2 => ("TwoPhaseCuts$Member", "tentative", "LTwoPhaseCuts$State;", true)
  | 3 => ("TwoPhaseCuts$Member", "isDown", "Z", false)
  | 4 => ("TwoPhaseCuts$Member", "timesMadePermanent", "I", false)
  | 5 => ("TwoPhaseCuts$Member", "timesRolledBack", "I", false)
  | 6 => ("TwoPhaseCuts$Member", "involvedIn", "I", false)
  | 7 => ("TwoPhaseCuts$Member", "rollsBackThere", "Z", false)
  | 8 => ("TwoPhaseCuts$Member", "parent", "I", false)
  | 9 => ("TwoPhaseCuts$Member", "cohort", "[Z", true)
  | 10 => ("TwoPhaseCuts$Member", "answersAwaited", "I", false)
  | _ => ("TwoPhaseCuts$Member", "allSaidYes", "Z", false)
def ty_M : Nat → FieldType := fun k => match k with
  | 0 => .object "TwoPhaseCuts$State"
  | 1 => .object "TwoPhaseCuts$State"
  | 2 => .object "TwoPhaseCuts$State"
  | 3 => .boolean
  | 4 => .int
  | 5 => .int
  | 6 => .int
  | 7 => .boolean
  | 8 => .int
  | 9 => .array .boolean
  | 10 => .int
  | _ => .boolean
theorem nmo_M : ∀ a, a < 12 → ∀ b, b < 12 → a ≠ b → (T_M a).2.1 ≠ (T_M b).2.1 := by decide +kernel
theorem tyo_M : ∀ k, k < 12 → parseFieldDescriptor (T_M k).2.2.1 = some (ty_M k) := by decide +kernel
theorem ui_M : ∀ w ∈ u_ws "TwoPhaseCuts$Member" T_M 12, w ∈ tw_tbl := by decide +kernel
def T_S : u_T := fun k => match k with
  | 0 => ("TwoPhaseCuts$State", "value", "I", false)
  | 1 => ("TwoPhaseCuts$State", "sent", "[I", true)
  | _ => ("TwoPhaseCuts$State", "received", "[I", true)
def ty_S : Nat → FieldType := fun k => match k with
  | 0 => .int
  | 1 => .array .int
  | _ => .array .int
theorem nmo_S : ∀ a, a < 3 → ∀ b, b < 3 → a ≠ b → (T_S a).2.1 ≠ (T_S b).2.1 := by decide +kernel
theorem tyo_S : ∀ k, k < 3 → parseFieldDescriptor (T_S k).2.2.1 = some (ty_S k) := by decide +kernel
theorem ui_S : ∀ w ∈ u_ws "TwoPhaseCuts$State" T_S 3, w ∈ tw_tbl := by decide +kernel
def T_H : u_T := fun k => match k with
  | 0 => ("TwoPhaseCuts$Channel", "labels", "[I", true)
  | 1 => ("TwoPhaseCuts$Channel", "values", "[I", true)
  | _ => ("TwoPhaseCuts$Channel", "count", "I", false)
def ty_H : Nat → FieldType := fun k => match k with
  | 0 => .array .int
  | 1 => .array .int
  | _ => .int
theorem nmo_H : ∀ a, a < 3 → ∀ b, b < 3 → a ≠ b → (T_H a).2.1 ≠ (T_H b).2.1 := by decide +kernel
theorem tyo_H : ∀ k, k < 3 → parseFieldDescriptor (T_H k).2.2.1 = some (ty_H k) := by decide +kernel
theorem ui_H : ∀ w ∈ u_ws "TwoPhaseCuts$Channel" T_H 3, w ∈ tw_tbl := by decide +kernel
def T_L : u_T := fun k => match k with
  | 0 => ("TwoPhaseCuts$NoteLine", "ring", "[LTwoPhaseCuts$Note;", true)
  | 1 => ("TwoPhaseCuts$NoteLine", "firstPlace", "I", false)
  | _ => ("TwoPhaseCuts$NoteLine", "count", "I", false)
def ty_L : Nat → FieldType := fun k => match k with
  | 0 => .array (.object "TwoPhaseCuts$Note")
  | 1 => .int
  | _ => .int
theorem nmo_L : ∀ a, a < 3 → ∀ b, b < 3 → a ≠ b → (T_L a).2.1 ≠ (T_L b).2.1 := by decide +kernel
theorem tyo_L : ∀ k, k < 3 → parseFieldDescriptor (T_L k).2.2.1 = some (ty_L k) := by decide +kernel
theorem ui_L : ∀ w ∈ u_ws "TwoPhaseCuts$NoteLine" T_L 3, w ∈ tw_tbl := by decide +kernel
def T_N : u_T := fun k => match k with
  | 0 => ("TwoPhaseCuts$Note", "kind", "I", false)
  | 1 => ("TwoPhaseCuts$Note", "instance", "I", false)
  | 2 => ("TwoPhaseCuts$Note", "from", "I", false)
  | 3 => ("TwoPhaseCuts$Note", "to", "I", false)
  | _ => ("TwoPhaseCuts$Note", "content", "I", false)
def ty_N : Nat → FieldType := fun k => match k with
  | 0 => .int
  | 1 => .int
  | 2 => .int
  | 3 => .int
  | _ => .int
theorem nmo_N : ∀ a, a < 5 → ∀ b, b < 5 → a ≠ b → (T_N a).2.1 ≠ (T_N b).2.1 := by decide +kernel
theorem tyo_N : ∀ k, k < 5 → parseFieldDescriptor (T_N k).2.2.1 = some (ty_N k) := by decide +kernel
theorem ui_N : ∀ w ∈ u_ws "TwoPhaseCuts$Note" T_N 5, w ∈ tw_tbl := by decide +kernel
def T_R : u_T := fun k => match k with
  | 0 => ("TwoPhaseCutsModel", "n", "I", false)
  | 1 => ("TwoPhaseCutsModel", "length", "[I", true)
  | 2 => ("TwoPhaseCutsModel", "event", "[I", true)
  | 3 => ("TwoPhaseCutsModel", "about", "[I", true)
  | 4 => ("TwoPhaseCutsModel", "label", "[I", true)
  | 5 => ("TwoPhaseCutsModel", "load", "[I", true)
  | 6 => ("TwoPhaseCutsModel", "kept", "[I", true)
  | 7 => ("TwoPhaseCutsModel", "fixed", "[I", true)
  | 8 => ("TwoPhaseCutsModel", "gone", "[I", true)
  | 9 => ("TwoPhaseCutsModel", "isDown", "[Z", true)
  | 10 => ("TwoPhaseCutsModel", "in", "[I", true)
  | 11 => ("TwoPhaseCutsModel", "back", "[Z", true)
  | 12 => ("TwoPhaseCutsModel", "parent", "[I", true)
  | 13 => ("TwoPhaseCutsModel", "cohort", "[I", true)
  | 14 => ("TwoPhaseCutsModel", "answered", "[I", true)
  | 15 => ("TwoPhaseCutsModel", "refused", "[I", true)
  | 16 => ("TwoPhaseCutsModel", "instances", "I", false)
  | 17 => ("TwoPhaseCutsModel", "fate", "[I", true)
  | 18 => ("TwoPhaseCutsModel", "count", "I", false)
  | 19 => ("TwoPhaseCutsModel", "what", "[I", true)
  | 20 => ("TwoPhaseCutsModel", "from", "[I", true)
  | 21 => ("TwoPhaseCutsModel", "to", "[I", true)
  | 22 => ("TwoPhaseCutsModel", "of", "[I", true)
  | 23 => ("TwoPhaseCutsModel", "backwards", "[Z", true)
  | 24 => ("TwoPhaseCutsModel", "word", "[I", true)
  | 25 => ("TwoPhaseCutsModel", "commits", "[I", true)
  | _ => ("TwoPhaseCutsModel", "rollbacks", "[I", true)
def ty_R : Nat → FieldType := fun k => match k with
  | 0 => .int
  | 1 => .array .int
  | 2 => .array .int
  | 3 => .array .int
  | 4 => .array .int
  | 5 => .array .int
  | 6 => .array .int
  | 7 => .array .int
  | 8 => .array .int
  | 9 => .array .boolean
  | 10 => .array .int
  | 11 => .array .boolean
  | 12 => .array .int
  | 13 => .array .int
  | 14 => .array .int
  | 15 => .array .int
  | 16 => .int
  | 17 => .array .int
  | 18 => .int
  | 19 => .array .int
  | 20 => .array .int
  | 21 => .array .int
  | 22 => .array .int
  | 23 => .array .boolean
  | 24 => .array .int
  | 25 => .array .int
  | _ => .array .int
theorem nmo_R : ∀ a, a < 27 → ∀ b, b < 27 → a ≠ b → (T_R a).2.1 ≠ (T_R b).2.1 := by decide +kernel
theorem tyo_R : ∀ k, k < 27 → parseFieldDescriptor (T_R k).2.2.1 = some (ty_R k) := by decide +kernel
theorem ui_R : ∀ w ∈ u_ws "TwoPhaseCutsModel" T_R 27, w ∈ tw_tbl := by decide +kernel
abbrev ec_cl : List vw_C := [("TwoPhaseCuts", T_X, 7), ("TwoPhaseCuts$Member", T_M, 12), ("TwoPhaseCuts$State", T_S, 3), ("TwoPhaseCuts$Channel", T_H, 3), ("TwoPhaseCuts$NoteLine", T_L, 3), ("TwoPhaseCuts$Note", T_N, 5), ("TwoPhaseCutsModel", T_R, 27)]
theorem tw_1 : (Jvm.Cond.initialized "TwoPhaseCuts") ∈ tw_tbl := tw_of 1 (by decide +kernel) (by decide +kernel)
theorem tw_2 : (Jvm.Cond.initialized "java/lang/Math") ∈ tw_tbl := tw_of 2 (by decide +kernel) (by decide +kernel)
theorem tw_3 : (Jvm.Cond.initialized "TwoPhaseCuts$Member") ∈ tw_tbl := tw_of 3 (by decide +kernel) (by decide +kernel)
theorem tw_4 : (Jvm.Cond.initialized "TwoPhaseCuts$State") ∈ tw_tbl := tw_of 4 (by decide +kernel) (by decide +kernel)
theorem tw_5 : (Jvm.Cond.initialized "TwoPhaseCuts$Channel") ∈ tw_tbl := tw_of 5 (by decide +kernel) (by decide +kernel)
theorem tw_6 : (Jvm.Cond.initialized "TwoPhaseCuts$NoteLine") ∈ tw_tbl := tw_of 6 (by decide +kernel) (by decide +kernel)
theorem tw_8 : (Jvm.Cond.initialized "TwoPhaseCutsModel") ∈ tw_tbl := tw_of 8 (by decide +kernel) (by decide +kernel)
theorem tw_21 : (Jvm.Cond.static ({ cls := "java/lang/Math", name := "max", desc := "(II)I" } : Jvm.MethodName)) ∈ tw_tbl := tw_of 21 (by decide +kernel) (by decide +kernel)
theorem tw_22 : (Jvm.Cond.code ({ cls := "java/lang/Math", name := "max", desc := "(II)I" } : Jvm.MethodName) prog_9_method_65_code (2 : Nat) (Option.some Jvm.ClassFile.FieldType.int)) ∈ tw_tbl := tw_of 22 (by decide +kernel) (by decide +kernel)
theorem tw_36 : (Jvm.Cond.fieldLink "TwoPhaseCuts$State" (16 : Nat) "TwoPhaseCuts$State" "value" "I") ∈ tw_tbl := tw_of 36 (by decide +kernel) (by decide +kernel)
theorem tw_37 : (Jvm.Cond.fieldLink "TwoPhaseCuts" (69 : Nat) "TwoPhaseCuts$State" "value" "I") ∈ tw_tbl := tw_of 37 (by decide +kernel) (by decide +kernel)
theorem tw_38 : (Jvm.Cond.fieldLink "TwoPhaseCuts$State" (7 : Nat) "TwoPhaseCuts$State" "sent" "[I") ∈ tw_tbl := tw_of 38 (by decide +kernel) (by decide +kernel)
theorem tw_39 : (Jvm.Cond.fieldLink "TwoPhaseCuts" (88 : Nat) "TwoPhaseCuts$State" "sent" "[I") ∈ tw_tbl := tw_of 39 (by decide +kernel) (by decide +kernel)
theorem tw_40 : (Jvm.Cond.fieldLink "TwoPhaseCuts$Member" (46 : Nat) "TwoPhaseCuts$State" "sent" "[I") ∈ tw_tbl := tw_of 40 (by decide +kernel) (by decide +kernel)
theorem tw_41 : (Jvm.Cond.fieldLink "TwoPhaseCuts$State" (13 : Nat) "TwoPhaseCuts$State" "received" "[I") ∈ tw_tbl := tw_of 41 (by decide +kernel) (by decide +kernel)
theorem tw_42 : (Jvm.Cond.fieldLink "TwoPhaseCuts$Member" (42 : Nat) "TwoPhaseCuts$State" "received" "[I") ∈ tw_tbl := tw_of 42 (by decide +kernel) (by decide +kernel)
theorem tw_43 : (Jvm.Cond.fieldLink "TwoPhaseCuts" (98 : Nat) "TwoPhaseCuts$State" "received" "[I") ∈ tw_tbl := tw_of 43 (by decide +kernel) (by decide +kernel)
theorem tw_52 : (Jvm.Cond.fieldLink "TwoPhaseCuts$Member" (14 : Nat) "TwoPhaseCuts$Member" "now" "LTwoPhaseCuts$State;") ∈ tw_tbl := tw_of 52 (by decide +kernel) (by decide +kernel)
theorem tw_53 : (Jvm.Cond.fieldLink "TwoPhaseCuts" (65 : Nat) "TwoPhaseCuts$Member" "now" "LTwoPhaseCuts$State;") ∈ tw_tbl := tw_of 53 (by decide +kernel) (by decide +kernel)
theorem tw_54 : (Jvm.Cond.fieldLink "TwoPhaseCuts$Member" (20 : Nat) "TwoPhaseCuts$Member" "permanent" "LTwoPhaseCuts$State;") ∈ tw_tbl := tw_of 54 (by decide +kernel) (by decide +kernel)
theorem tw_55 : (Jvm.Cond.fieldLink "TwoPhaseCuts" (121 : Nat) "TwoPhaseCuts$Member" "permanent" "LTwoPhaseCuts$State;") ∈ tw_tbl := tw_of 55 (by decide +kernel) (by decide +kernel)
theorem tw_56 : (Jvm.Cond.fieldLink "TwoPhaseCuts$Member" (23 : Nat) "TwoPhaseCuts$Member" "tentative" "LTwoPhaseCuts$State;") ∈ tw_tbl := tw_of 56 (by decide +kernel) (by decide +kernel)
theorem tw_57 : (Jvm.Cond.fieldLink "TwoPhaseCuts" (147 : Nat) "TwoPhaseCuts$Member" "tentative" "LTwoPhaseCuts$State;") ∈ tw_tbl := tw_of 57 (by decide +kernel) (by decide +kernel)
theorem tw_58 : (Jvm.Cond.fieldLink "TwoPhaseCuts" (57 : Nat) "TwoPhaseCuts$Member" "isDown" "Z") ∈ tw_tbl := tw_of 58 (by decide +kernel) (by decide +kernel)
theorem tw_59 : (Jvm.Cond.fieldLink "TwoPhaseCuts$Member" (62 : Nat) "TwoPhaseCuts$Member" "timesMadePermanent" "I") ∈ tw_tbl := tw_of 59 (by decide +kernel) (by decide +kernel)
theorem tw_60 : (Jvm.Cond.fieldLink "TwoPhaseCuts" (130 : Nat) "TwoPhaseCuts$Member" "timesMadePermanent" "I") ∈ tw_tbl := tw_of 60 (by decide +kernel) (by decide +kernel)
theorem tw_61 : (Jvm.Cond.fieldLink "TwoPhaseCuts" (133 : Nat) "TwoPhaseCuts$Member" "timesRolledBack" "I") ∈ tw_tbl := tw_of 61 (by decide +kernel) (by decide +kernel)
theorem tw_62 : (Jvm.Cond.fieldLink "TwoPhaseCuts$Member" (30 : Nat) "TwoPhaseCuts$Member" "involvedIn" "I") ∈ tw_tbl := tw_of 62 (by decide +kernel) (by decide +kernel)
theorem tw_63 : (Jvm.Cond.fieldLink "TwoPhaseCuts" (124 : Nat) "TwoPhaseCuts$Member" "involvedIn" "I") ∈ tw_tbl := tw_of 63 (by decide +kernel) (by decide +kernel)
theorem tw_64 : (Jvm.Cond.fieldLink "TwoPhaseCuts$Member" (38 : Nat) "TwoPhaseCuts$Member" "rollsBackThere" "Z") ∈ tw_tbl := tw_of 64 (by decide +kernel) (by decide +kernel)
theorem tw_65 : (Jvm.Cond.fieldLink "TwoPhaseCuts$Member" (49 : Nat) "TwoPhaseCuts$Member" "parent" "I") ∈ tw_tbl := tw_of 65 (by decide +kernel) (by decide +kernel)
theorem tw_66 : (Jvm.Cond.fieldLink "TwoPhaseCuts" (167 : Nat) "TwoPhaseCuts$Member" "parent" "I") ∈ tw_tbl := tw_of 66 (by decide +kernel) (by decide +kernel)
theorem tw_68 : (Jvm.Cond.fieldLink "TwoPhaseCuts" (154 : Nat) "TwoPhaseCuts$Member" "cohort" "[Z") ∈ tw_tbl := tw_of 68 (by decide +kernel) (by decide +kernel)
theorem tw_69 : (Jvm.Cond.fieldLink "TwoPhaseCuts$Member" (52 : Nat) "TwoPhaseCuts$Member" "answersAwaited" "I") ∈ tw_tbl := tw_of 69 (by decide +kernel) (by decide +kernel)
theorem tw_70 : (Jvm.Cond.fieldLink "TwoPhaseCuts" (160 : Nat) "TwoPhaseCuts$Member" "answersAwaited" "I") ∈ tw_tbl := tw_of 70 (by decide +kernel) (by decide +kernel)
theorem tw_71 : (Jvm.Cond.fieldLink "TwoPhaseCuts$Member" (55 : Nat) "TwoPhaseCuts$Member" "allSaidYes" "Z") ∈ tw_tbl := tw_of 71 (by decide +kernel) (by decide +kernel)
theorem tw_72 : (Jvm.Cond.fieldLink "TwoPhaseCuts" (170 : Nat) "TwoPhaseCuts$Member" "allSaidYes" "Z") ∈ tw_tbl := tw_of 72 (by decide +kernel) (by decide +kernel)
theorem tw_106 : (Jvm.Cond.fieldLink "TwoPhaseCuts$Channel" (9 : Nat) "TwoPhaseCuts$Channel" "labels" "[I") ∈ tw_tbl := tw_of 106 (by decide +kernel) (by decide +kernel)
theorem tw_107 : (Jvm.Cond.fieldLink "TwoPhaseCuts" (95 : Nat) "TwoPhaseCuts$Channel" "labels" "[I") ∈ tw_tbl := tw_of 107 (by decide +kernel) (by decide +kernel)
theorem tw_108 : (Jvm.Cond.fieldLink "TwoPhaseCuts$Channel" (15 : Nat) "TwoPhaseCuts$Channel" "values" "[I") ∈ tw_tbl := tw_of 108 (by decide +kernel) (by decide +kernel)
theorem tw_109 : (Jvm.Cond.fieldLink "TwoPhaseCuts" (101 : Nat) "TwoPhaseCuts$Channel" "values" "[I") ∈ tw_tbl := tw_of 109 (by decide +kernel) (by decide +kernel)
theorem tw_110 : (Jvm.Cond.fieldLink "TwoPhaseCuts$Channel" (18 : Nat) "TwoPhaseCuts$Channel" "count" "I") ∈ tw_tbl := tw_of 110 (by decide +kernel) (by decide +kernel)
theorem tw_111 : (Jvm.Cond.fieldLink "TwoPhaseCuts" (85 : Nat) "TwoPhaseCuts$Channel" "count" "I") ∈ tw_tbl := tw_of 111 (by decide +kernel) (by decide +kernel)
theorem tw_132 : (Jvm.Cond.fieldLink "TwoPhaseCuts$NoteLine" (27 : Nat) "TwoPhaseCuts$Note" "kind" "I") ∈ tw_tbl := tw_of 132 (by decide +kernel) (by decide +kernel)
theorem tw_133 : (Jvm.Cond.fieldLink "TwoPhaseCuts" (176 : Nat) "TwoPhaseCuts$Note" "kind" "I") ∈ tw_tbl := tw_of 133 (by decide +kernel) (by decide +kernel)
theorem tw_134 : (Jvm.Cond.fieldLink "TwoPhaseCuts$NoteLine" (30 : Nat) "TwoPhaseCuts$Note" "instance" "I") ∈ tw_tbl := tw_of 134 (by decide +kernel) (by decide +kernel)
theorem tw_135 : (Jvm.Cond.fieldLink "TwoPhaseCuts" (193 : Nat) "TwoPhaseCuts$Note" "instance" "I") ∈ tw_tbl := tw_of 135 (by decide +kernel) (by decide +kernel)
theorem tw_136 : (Jvm.Cond.fieldLink "TwoPhaseCuts$NoteLine" (33 : Nat) "TwoPhaseCuts$Note" "from" "I") ∈ tw_tbl := tw_of 136 (by decide +kernel) (by decide +kernel)
theorem tw_137 : (Jvm.Cond.fieldLink "TwoPhaseCuts" (200 : Nat) "TwoPhaseCuts$Note" "from" "I") ∈ tw_tbl := tw_of 137 (by decide +kernel) (by decide +kernel)
theorem tw_138 : (Jvm.Cond.fieldLink "TwoPhaseCuts$NoteLine" (36 : Nat) "TwoPhaseCuts$Note" "to" "I") ∈ tw_tbl := tw_of 138 (by decide +kernel) (by decide +kernel)
theorem tw_139 : (Jvm.Cond.fieldLink "TwoPhaseCuts" (190 : Nat) "TwoPhaseCuts$Note" "to" "I") ∈ tw_tbl := tw_of 139 (by decide +kernel) (by decide +kernel)
theorem tw_140 : (Jvm.Cond.fieldLink "TwoPhaseCuts$NoteLine" (39 : Nat) "TwoPhaseCuts$Note" "content" "I") ∈ tw_tbl := tw_of 140 (by decide +kernel) (by decide +kernel)
theorem tw_141 : (Jvm.Cond.fieldLink "TwoPhaseCuts" (203 : Nat) "TwoPhaseCuts$Note" "content" "I") ∈ tw_tbl := tw_of 141 (by decide +kernel) (by decide +kernel)
theorem tw_153 : (Jvm.Cond.fieldLink "TwoPhaseCuts$NoteLine" (9 : Nat) "TwoPhaseCuts$NoteLine" "ring" "[LTwoPhaseCuts$Note;") ∈ tw_tbl := tw_of 153 (by decide +kernel) (by decide +kernel)
theorem tw_154 : (Jvm.Cond.fieldLink "TwoPhaseCuts$NoteLine" (20 : Nat) "TwoPhaseCuts$NoteLine" "firstPlace" "I") ∈ tw_tbl := tw_of 154 (by decide +kernel) (by decide +kernel)
theorem tw_155 : (Jvm.Cond.fieldLink "TwoPhaseCuts$NoteLine" (16 : Nat) "TwoPhaseCuts$NoteLine" "count" "I") ∈ tw_tbl := tw_of 155 (by decide +kernel) (by decide +kernel)
theorem tw_156 : (Jvm.Cond.fieldLink "TwoPhaseCuts" (111 : Nat) "TwoPhaseCuts$NoteLine" "count" "I") ∈ tw_tbl := tw_of 156 (by decide +kernel) (by decide +kernel)
theorem tw_164 : (Jvm.Cond.fieldLink "TwoPhaseCuts" (18 : Nat) "TwoPhaseCuts" "processCount" "I") ∈ tw_tbl := tw_of 164 (by decide +kernel) (by decide +kernel)
theorem tw_165 : (Jvm.Cond.fieldLink "TwoPhaseCuts" (24 : Nat) "TwoPhaseCuts" "members" "[LTwoPhaseCuts$Member;") ∈ tw_tbl := tw_of 165 (by decide +kernel) (by decide +kernel)
theorem tw_166 : (Jvm.Cond.fieldLink "TwoPhaseCuts" (33 : Nat) "TwoPhaseCuts" "channels" "[LTwoPhaseCuts$Channel;") ∈ tw_tbl := tw_of 166 (by decide +kernel) (by decide +kernel)
theorem tw_167 : (Jvm.Cond.fieldLink "TwoPhaseCuts" (41 : Nat) "TwoPhaseCuts" "noteLine" "LTwoPhaseCuts$NoteLine;") ∈ tw_tbl := tw_of 167 (by decide +kernel) (by decide +kernel)
theorem tw_168 : (Jvm.Cond.fieldLink "TwoPhaseCuts" (45 : Nat) "TwoPhaseCuts" "isRollback" "[Z") ∈ tw_tbl := tw_of 168 (by decide +kernel) (by decide +kernel)
theorem tw_169 : (Jvm.Cond.fieldLink "TwoPhaseCuts" (49 : Nat) "TwoPhaseCuts" "decisions" "[I") ∈ tw_tbl := tw_of 169 (by decide +kernel) (by decide +kernel)
theorem tw_170 : (Jvm.Cond.fieldLink "TwoPhaseCuts" (127 : Nat) "TwoPhaseCuts" "instancesBegun" "I") ∈ tw_tbl := tw_of 170 (by decide +kernel) (by decide +kernel)
theorem tw_190 : (Jvm.Cond.methodLink "TwoPhaseCuts" (53 : Nat) ({ cls := "TwoPhaseCuts", name := "isProcess", desc := "(I)Z" } : Jvm.MethodName)) ∈ tw_tbl := tw_of 190 (by decide +kernel) (by decide +kernel)
theorem tw_192 : (Jvm.Cond.instanceMethod ({ cls := "TwoPhaseCuts", name := "isProcess", desc := "(I)Z" } : Jvm.MethodName)) ∈ tw_tbl := tw_of 192 (by decide +kernel) (by decide +kernel)
theorem tw_193 : (Jvm.Cond.code ({ cls := "TwoPhaseCuts", name := "isProcess", desc := "(I)Z" } : Jvm.MethodName) prog_1_method_19_code (2 : Nat) (Option.some Jvm.ClassFile.FieldType.boolean)) ∈ tw_tbl := tw_of 193 (by decide +kernel) (by decide +kernel)
theorem tw_194 : (Jvm.Cond.methodLink "TwoPhaseCuts" (61 : Nat) ({ cls := "TwoPhaseCuts$Member", name := "isInRollback", desc := "()Z" } : Jvm.MethodName)) ∈ tw_tbl := tw_of 194 (by decide +kernel) (by decide +kernel)
theorem tw_195 : (Jvm.Cond.instanceMethod ({ cls := "TwoPhaseCuts$Member", name := "isInRollback", desc := "()Z" } : Jvm.MethodName)) ∈ tw_tbl := tw_of 195 (by decide +kernel) (by decide +kernel)
theorem tw_196 : (Jvm.Cond.selects "TwoPhaseCuts$Member" ({ cls := "TwoPhaseCuts$Member", name := "isInRollback", desc := "()Z" } : Jvm.MethodName) ({ cls := "TwoPhaseCuts$Member", name := "isInRollback", desc := "()Z" } : Jvm.MethodName)) ∈ tw_tbl := tw_of 196 (by decide +kernel) (by decide +kernel)
theorem tw_197 : (Jvm.Cond.code ({ cls := "TwoPhaseCuts$Member", name := "isInRollback", desc := "()Z" } : Jvm.MethodName) prog_3_method_3_code (1 : Nat) (Option.some Jvm.ClassFile.FieldType.boolean)) ∈ tw_tbl := tw_of 197 (by decide +kernel) (by decide +kernel)
theorem tw_198 : (Jvm.Cond.methodLink "TwoPhaseCuts$Member" (34 : Nat) ({ cls := "TwoPhaseCuts$Member", name := "isInvolved", desc := "()Z" } : Jvm.MethodName)) ∈ tw_tbl := tw_of 198 (by decide +kernel) (by decide +kernel)
theorem tw_199 : (Jvm.Cond.instanceMethod ({ cls := "TwoPhaseCuts$Member", name := "isInvolved", desc := "()Z" } : Jvm.MethodName)) ∈ tw_tbl := tw_of 199 (by decide +kernel) (by decide +kernel)
theorem tw_200 : (Jvm.Cond.selects "TwoPhaseCuts$Member" ({ cls := "TwoPhaseCuts$Member", name := "isInvolved", desc := "()Z" } : Jvm.MethodName) ({ cls := "TwoPhaseCuts$Member", name := "isInvolved", desc := "()Z" } : Jvm.MethodName)) ∈ tw_tbl := tw_of 200 (by decide +kernel) (by decide +kernel)
theorem tw_201 : (Jvm.Cond.code ({ cls := "TwoPhaseCuts$Member", name := "isInvolved", desc := "()Z" } : Jvm.MethodName) prog_3_method_2_code (1 : Nat) (Option.some Jvm.ClassFile.FieldType.boolean)) ∈ tw_tbl := tw_of 201 (by decide +kernel) (by decide +kernel)
theorem tw_206 : (Jvm.Cond.methodLink "TwoPhaseCuts" (74 : Nat) ({ cls := "TwoPhaseCuts", name := "isChannel", desc := "(II)Z" } : Jvm.MethodName)) ∈ tw_tbl := tw_of 206 (by decide +kernel) (by decide +kernel)
theorem tw_208 : (Jvm.Cond.instanceMethod ({ cls := "TwoPhaseCuts", name := "isChannel", desc := "(II)Z" } : Jvm.MethodName)) ∈ tw_tbl := tw_of 208 (by decide +kernel) (by decide +kernel)
theorem tw_209 : (Jvm.Cond.code ({ cls := "TwoPhaseCuts", name := "isChannel", desc := "(II)Z" } : Jvm.MethodName) prog_1_method_20_code (3 : Nat) (Option.some Jvm.ClassFile.FieldType.boolean)) ∈ tw_tbl := tw_of 209 (by decide +kernel) (by decide +kernel)
theorem tw_210 : (Jvm.Cond.methodLink "TwoPhaseCuts" (78 : Nat) ({ cls := "TwoPhaseCuts$Member", name := "isInvolved", desc := "()Z" } : Jvm.MethodName)) ∈ tw_tbl := tw_of 210 (by decide +kernel) (by decide +kernel)
theorem tw_211 : (Jvm.Cond.methodLink "TwoPhaseCuts" (81 : Nat) ({ cls := "TwoPhaseCuts", name := "channelOf", desc := "(II)LTwoPhaseCuts$Channel;" } : Jvm.MethodName)) ∈ tw_tbl := tw_of 211 (by decide +kernel) (by decide +kernel)
theorem tw_213 : (Jvm.Cond.instanceMethod ({ cls := "TwoPhaseCuts", name := "channelOf", desc := "(II)LTwoPhaseCuts$Channel;" } : Jvm.MethodName)) ∈ tw_tbl := tw_of 213 (by decide +kernel) (by decide +kernel)
theorem tw_214 : (Jvm.Cond.code ({ cls := "TwoPhaseCuts", name := "channelOf", desc := "(II)LTwoPhaseCuts$Channel;" } : Jvm.MethodName) prog_1_method_21_code (3 : Nat) (Option.some (Jvm.ClassFile.FieldType.object "TwoPhaseCuts$Channel"))) ∈ tw_tbl := tw_of 214 (by decide +kernel) (by decide +kernel)
theorem tw_215 : (Jvm.Cond.methodLink "TwoPhaseCuts" (91 : Nat) ({ cls := "TwoPhaseCuts$Channel", name := "put", desc := "(II)V" } : Jvm.MethodName)) ∈ tw_tbl := tw_of 215 (by decide +kernel) (by decide +kernel)
theorem tw_216 : (Jvm.Cond.instanceMethod ({ cls := "TwoPhaseCuts$Channel", name := "put", desc := "(II)V" } : Jvm.MethodName)) ∈ tw_tbl := tw_of 216 (by decide +kernel) (by decide +kernel)
theorem tw_217 : (Jvm.Cond.selects "TwoPhaseCuts$Channel" ({ cls := "TwoPhaseCuts$Channel", name := "put", desc := "(II)V" } : Jvm.MethodName) ({ cls := "TwoPhaseCuts$Channel", name := "put", desc := "(II)V" } : Jvm.MethodName)) ∈ tw_tbl := tw_of 217 (by decide +kernel) (by decide +kernel)
theorem tw_218 : (Jvm.Cond.code ({ cls := "TwoPhaseCuts$Channel", name := "put", desc := "(II)V" } : Jvm.MethodName) prog_2_method_2_code (3 : Nat) (Option.none : Option Jvm.ClassFile.FieldType)) ∈ tw_tbl := tw_of 218 (by decide +kernel) (by decide +kernel)
theorem tw_223 : (Jvm.Cond.methodLink "TwoPhaseCuts" (104 : Nat) ({ cls := "TwoPhaseCuts$Channel", name := "takeFirst", desc := "()V" } : Jvm.MethodName)) ∈ tw_tbl := tw_of 223 (by decide +kernel) (by decide +kernel)
theorem tw_224 : (Jvm.Cond.instanceMethod ({ cls := "TwoPhaseCuts$Channel", name := "takeFirst", desc := "()V" } : Jvm.MethodName)) ∈ tw_tbl := tw_of 224 (by decide +kernel) (by decide +kernel)
theorem tw_225 : (Jvm.Cond.selects "TwoPhaseCuts$Channel" ({ cls := "TwoPhaseCuts$Channel", name := "takeFirst", desc := "()V" } : Jvm.MethodName) ({ cls := "TwoPhaseCuts$Channel", name := "takeFirst", desc := "()V" } : Jvm.MethodName)) ∈ tw_tbl := tw_of 225 (by decide +kernel) (by decide +kernel)
theorem tw_226 : (Jvm.Cond.code ({ cls := "TwoPhaseCuts$Channel", name := "takeFirst", desc := "()V" } : Jvm.MethodName) prog_2_method_3_code (2 : Nat) (Option.none : Option Jvm.ClassFile.FieldType)) ∈ tw_tbl := tw_of 226 (by decide +kernel) (by decide +kernel)
theorem tw_227 : (Jvm.Cond.methodLink "TwoPhaseCuts$Channel" (22 : Nat) ({ cls := "java/lang/Math", name := "max", desc := "(II)I" } : Jvm.MethodName)) ∈ tw_tbl := tw_of 227 (by decide +kernel) (by decide +kernel)
theorem tw_236 : (Jvm.Cond.methodLink "TwoPhaseCuts" (107 : Nat) ({ cls := "TwoPhaseCuts", name := "begin", desc := "(IZ)I" } : Jvm.MethodName)) ∈ tw_tbl := tw_of 236 (by decide +kernel) (by decide +kernel)
theorem tw_238 : (Jvm.Cond.instanceMethod ({ cls := "TwoPhaseCuts", name := "begin", desc := "(IZ)I" } : Jvm.MethodName)) ∈ tw_tbl := tw_of 238 (by decide +kernel) (by decide +kernel)
theorem tw_239 : (Jvm.Cond.code ({ cls := "TwoPhaseCuts", name := "begin", desc := "(IZ)I" } : Jvm.MethodName) prog_1_method_22_code (4 : Nat) (Option.some Jvm.ClassFile.FieldType.int)) ∈ tw_tbl := tw_of 239 (by decide +kernel) (by decide +kernel)
theorem tw_240 : (Jvm.Cond.methodLink "TwoPhaseCuts" (136 : Nat) ({ cls := "TwoPhaseCuts", name := "join", desc := "(III)V" } : Jvm.MethodName)) ∈ tw_tbl := tw_of 240 (by decide +kernel) (by decide +kernel)
theorem tw_242 : (Jvm.Cond.instanceMethod ({ cls := "TwoPhaseCuts", name := "join", desc := "(III)V" } : Jvm.MethodName)) ∈ tw_tbl := tw_of 242 (by decide +kernel) (by decide +kernel)
theorem tw_243 : (Jvm.Cond.code ({ cls := "TwoPhaseCuts", name := "join", desc := "(III)V" } : Jvm.MethodName) prog_1_method_23_code (8 : Nat) (Option.none : Option Jvm.ClassFile.FieldType)) ∈ tw_tbl := tw_of 243 (by decide +kernel) (by decide +kernel)
theorem tw_244 : (Jvm.Cond.methodLink "TwoPhaseCuts" (143 : Nat) ({ cls := "TwoPhaseCuts$Member", name := "enter", desc := "(IZI)V" } : Jvm.MethodName)) ∈ tw_tbl := tw_of 244 (by decide +kernel) (by decide +kernel)
theorem tw_245 : (Jvm.Cond.instanceMethod ({ cls := "TwoPhaseCuts$Member", name := "enter", desc := "(IZI)V" } : Jvm.MethodName)) ∈ tw_tbl := tw_of 245 (by decide +kernel) (by decide +kernel)
theorem tw_246 : (Jvm.Cond.selects "TwoPhaseCuts$Member" ({ cls := "TwoPhaseCuts$Member", name := "enter", desc := "(IZI)V" } : Jvm.MethodName) ({ cls := "TwoPhaseCuts$Member", name := "enter", desc := "(IZI)V" } : Jvm.MethodName)) ∈ tw_tbl := tw_of 246 (by decide +kernel) (by decide +kernel)
theorem tw_247 : (Jvm.Cond.code ({ cls := "TwoPhaseCuts$Member", name := "enter", desc := "(IZI)V" } : Jvm.MethodName) prog_3_method_6_code (4 : Nat) (Option.none : Option Jvm.ClassFile.FieldType)) ∈ tw_tbl := tw_of 247 (by decide +kernel) (by decide +kernel)
theorem tw_248 : (Jvm.Cond.methodLink "TwoPhaseCuts" (150 : Nat) ({ cls := "TwoPhaseCuts$State", name := "copyFrom", desc := "(LTwoPhaseCuts$State;)V" } : Jvm.MethodName)) ∈ tw_tbl := tw_of 248 (by decide +kernel) (by decide +kernel)
theorem tw_249 : (Jvm.Cond.instanceMethod ({ cls := "TwoPhaseCuts$State", name := "copyFrom", desc := "(LTwoPhaseCuts$State;)V" } : Jvm.MethodName)) ∈ tw_tbl := tw_of 249 (by decide +kernel) (by decide +kernel)
theorem tw_250 : (Jvm.Cond.selects "TwoPhaseCuts$State" ({ cls := "TwoPhaseCuts$State", name := "copyFrom", desc := "(LTwoPhaseCuts$State;)V" } : Jvm.MethodName) ({ cls := "TwoPhaseCuts$State", name := "copyFrom", desc := "(LTwoPhaseCuts$State;)V" } : Jvm.MethodName)) ∈ tw_tbl := tw_of 250 (by decide +kernel) (by decide +kernel)
theorem tw_251 : (Jvm.Cond.code ({ cls := "TwoPhaseCuts$State", name := "copyFrom", desc := "(LTwoPhaseCuts$State;)V" } : Jvm.MethodName) prog_6_method_2_code (3 : Nat) (Option.none : Option Jvm.ClassFile.FieldType)) ∈ tw_tbl := tw_of 251 (by decide +kernel) (by decide +kernel)
theorem tw_252 : (Jvm.Cond.methodLink "TwoPhaseCuts" (157 : Nat) ({ cls := "TwoPhaseCuts$Member", name := "hasNewReceiptFrom", desc := "(I)Z" } : Jvm.MethodName)) ∈ tw_tbl := tw_of 252 (by decide +kernel) (by decide +kernel)
theorem tw_253 : (Jvm.Cond.instanceMethod ({ cls := "TwoPhaseCuts$Member", name := "hasNewReceiptFrom", desc := "(I)Z" } : Jvm.MethodName)) ∈ tw_tbl := tw_of 253 (by decide +kernel) (by decide +kernel)
theorem tw_254 : (Jvm.Cond.selects "TwoPhaseCuts$Member" ({ cls := "TwoPhaseCuts$Member", name := "hasNewReceiptFrom", desc := "(I)Z" } : Jvm.MethodName) ({ cls := "TwoPhaseCuts$Member", name := "hasNewReceiptFrom", desc := "(I)Z" } : Jvm.MethodName)) ∈ tw_tbl := tw_of 254 (by decide +kernel) (by decide +kernel)
theorem tw_255 : (Jvm.Cond.code ({ cls := "TwoPhaseCuts$Member", name := "hasNewReceiptFrom", desc := "(I)Z" } : Jvm.MethodName) prog_3_method_4_code (2 : Nat) (Option.some Jvm.ClassFile.FieldType.boolean)) ∈ tw_tbl := tw_of 255 (by decide +kernel) (by decide +kernel)
theorem tw_256 : (Jvm.Cond.methodLink "TwoPhaseCuts" (163 : Nat) ({ cls := "TwoPhaseCuts$NoteLine", name := "add", desc := "(IIIII)V" } : Jvm.MethodName)) ∈ tw_tbl := tw_of 256 (by decide +kernel) (by decide +kernel)
theorem tw_257 : (Jvm.Cond.instanceMethod ({ cls := "TwoPhaseCuts$NoteLine", name := "add", desc := "(IIIII)V" } : Jvm.MethodName)) ∈ tw_tbl := tw_of 257 (by decide +kernel) (by decide +kernel)
theorem tw_258 : (Jvm.Cond.selects "TwoPhaseCuts$NoteLine" ({ cls := "TwoPhaseCuts$NoteLine", name := "add", desc := "(IIIII)V" } : Jvm.MethodName) ({ cls := "TwoPhaseCuts$NoteLine", name := "add", desc := "(IIIII)V" } : Jvm.MethodName)) ∈ tw_tbl := tw_of 258 (by decide +kernel) (by decide +kernel)
theorem tw_259 : (Jvm.Cond.code ({ cls := "TwoPhaseCuts$NoteLine", name := "add", desc := "(IIIII)V" } : Jvm.MethodName) prog_5_method_2_code (7 : Nat) (Option.none : Option Jvm.ClassFile.FieldType)) ∈ tw_tbl := tw_of 259 (by decide +kernel) (by decide +kernel)
theorem tw_260 : (Jvm.Cond.methodLink "TwoPhaseCuts$NoteLine" (23 : Nat) ({ cls := "TwoPhaseCuts$NoteLine", name := "wrapped", desc := "(I)I" } : Jvm.MethodName)) ∈ tw_tbl := tw_of 260 (by decide +kernel) (by decide +kernel)
theorem tw_262 : (Jvm.Cond.instanceMethod ({ cls := "TwoPhaseCuts$NoteLine", name := "wrapped", desc := "(I)I" } : Jvm.MethodName)) ∈ tw_tbl := tw_of 262 (by decide +kernel) (by decide +kernel)
theorem tw_263 : (Jvm.Cond.code ({ cls := "TwoPhaseCuts$NoteLine", name := "wrapped", desc := "(I)I" } : Jvm.MethodName) prog_5_method_5_code (2 : Nat) (Option.some Jvm.ClassFile.FieldType.int)) ∈ tw_tbl := tw_of 263 (by decide +kernel) (by decide +kernel)
theorem tw_264 : (Jvm.Cond.methodLink "TwoPhaseCuts" (140 : Nat) ({ cls := "TwoPhaseCuts", name := "concludeWhenAnswered", desc := "(I)V" } : Jvm.MethodName)) ∈ tw_tbl := tw_of 264 (by decide +kernel) (by decide +kernel)
theorem tw_266 : (Jvm.Cond.instanceMethod ({ cls := "TwoPhaseCuts", name := "concludeWhenAnswered", desc := "(I)V" } : Jvm.MethodName)) ∈ tw_tbl := tw_of 266 (by decide +kernel) (by decide +kernel)
theorem tw_267 : (Jvm.Cond.code ({ cls := "TwoPhaseCuts", name := "concludeWhenAnswered", desc := "(I)V" } : Jvm.MethodName) prog_1_method_24_code (4 : Nat) (Option.none : Option Jvm.ClassFile.FieldType)) ∈ tw_tbl := tw_of 267 (by decide +kernel) (by decide +kernel)
theorem tw_268 : (Jvm.Cond.methodLink "TwoPhaseCuts" (173 : Nat) ({ cls := "TwoPhaseCuts", name := "follow", desc := "(II)V" } : Jvm.MethodName)) ∈ tw_tbl := tw_of 268 (by decide +kernel) (by decide +kernel)
theorem tw_270 : (Jvm.Cond.instanceMethod ({ cls := "TwoPhaseCuts", name := "follow", desc := "(II)V" } : Jvm.MethodName)) ∈ tw_tbl := tw_of 270 (by decide +kernel) (by decide +kernel)
theorem tw_271 : (Jvm.Cond.code ({ cls := "TwoPhaseCuts", name := "follow", desc := "(II)V" } : Jvm.MethodName) prog_1_method_30_code (6 : Nat) (Option.none : Option Jvm.ClassFile.FieldType)) ∈ tw_tbl := tw_of 271 (by decide +kernel) (by decide +kernel)
theorem tw_272 : (Jvm.Cond.methodLink "TwoPhaseCuts" (210 : Nat) ({ cls := "TwoPhaseCuts", name := "rollBack", desc := "(I)V" } : Jvm.MethodName)) ∈ tw_tbl := tw_of 272 (by decide +kernel) (by decide +kernel)
theorem tw_274 : (Jvm.Cond.instanceMethod ({ cls := "TwoPhaseCuts", name := "rollBack", desc := "(I)V" } : Jvm.MethodName)) ∈ tw_tbl := tw_of 274 (by decide +kernel) (by decide +kernel)
theorem tw_275 : (Jvm.Cond.code ({ cls := "TwoPhaseCuts", name := "rollBack", desc := "(I)V" } : Jvm.MethodName) prog_1_method_31_code (4 : Nat) (Option.none : Option Jvm.ClassFile.FieldType)) ∈ tw_tbl := tw_of 275 (by decide +kernel) (by decide +kernel)
theorem tw_276 : (Jvm.Cond.methodLink "TwoPhaseCuts" (216 : Nat) ({ cls := "TwoPhaseCuts$Channel", name := "takeAbove", desc := "(I)V" } : Jvm.MethodName)) ∈ tw_tbl := tw_of 276 (by decide +kernel) (by decide +kernel)
theorem tw_277 : (Jvm.Cond.instanceMethod ({ cls := "TwoPhaseCuts$Channel", name := "takeAbove", desc := "(I)V" } : Jvm.MethodName)) ∈ tw_tbl := tw_of 277 (by decide +kernel) (by decide +kernel)
theorem tw_278 : (Jvm.Cond.selects "TwoPhaseCuts$Channel" ({ cls := "TwoPhaseCuts$Channel", name := "takeAbove", desc := "(I)V" } : Jvm.MethodName) ({ cls := "TwoPhaseCuts$Channel", name := "takeAbove", desc := "(I)V" } : Jvm.MethodName)) ∈ tw_tbl := tw_of 278 (by decide +kernel) (by decide +kernel)
theorem tw_279 : (Jvm.Cond.code ({ cls := "TwoPhaseCuts$Channel", name := "takeAbove", desc := "(I)V" } : Jvm.MethodName) prog_2_method_4_code (4 : Nat) (Option.none : Option Jvm.ClassFile.FieldType)) ∈ tw_tbl := tw_of 279 (by decide +kernel) (by decide +kernel)
theorem tw_280 : (Jvm.Cond.methodLink "TwoPhaseCuts" (213 : Nat) ({ cls := "TwoPhaseCuts$Member", name := "makePermanent", desc := "()V" } : Jvm.MethodName)) ∈ tw_tbl := tw_of 280 (by decide +kernel) (by decide +kernel)
theorem tw_281 : (Jvm.Cond.instanceMethod ({ cls := "TwoPhaseCuts$Member", name := "makePermanent", desc := "()V" } : Jvm.MethodName)) ∈ tw_tbl := tw_of 281 (by decide +kernel) (by decide +kernel)
theorem tw_282 : (Jvm.Cond.selects "TwoPhaseCuts$Member" ({ cls := "TwoPhaseCuts$Member", name := "makePermanent", desc := "()V" } : Jvm.MethodName) ({ cls := "TwoPhaseCuts$Member", name := "makePermanent", desc := "()V" } : Jvm.MethodName)) ∈ tw_tbl := tw_of 282 (by decide +kernel) (by decide +kernel)
theorem tw_283 : (Jvm.Cond.code ({ cls := "TwoPhaseCuts$Member", name := "makePermanent", desc := "()V" } : Jvm.MethodName) prog_3_method_7_code (1 : Nat) (Option.none : Option Jvm.ClassFile.FieldType)) ∈ tw_tbl := tw_of 283 (by decide +kernel) (by decide +kernel)
theorem tw_284 : (Jvm.Cond.methodLink "TwoPhaseCuts$Member" (58 : Nat) ({ cls := "TwoPhaseCuts$State", name := "copyFrom", desc := "(LTwoPhaseCuts$State;)V" } : Jvm.MethodName)) ∈ tw_tbl := tw_of 284 (by decide +kernel) (by decide +kernel)
theorem tw_297 : (Jvm.Cond.methodLink "TwoPhaseCuts" (112 : Nat) ({ cls := "TwoPhaseCuts$NoteLine", name := "first", desc := "()LTwoPhaseCuts$Note;" } : Jvm.MethodName)) ∈ tw_tbl := tw_of 297 (by decide +kernel) (by decide +kernel)
theorem tw_298 : (Jvm.Cond.instanceMethod ({ cls := "TwoPhaseCuts$NoteLine", name := "first", desc := "()LTwoPhaseCuts$Note;" } : Jvm.MethodName)) ∈ tw_tbl := tw_of 298 (by decide +kernel) (by decide +kernel)
theorem tw_299 : (Jvm.Cond.selects "TwoPhaseCuts$NoteLine" ({ cls := "TwoPhaseCuts$NoteLine", name := "first", desc := "()LTwoPhaseCuts$Note;" } : Jvm.MethodName) ({ cls := "TwoPhaseCuts$NoteLine", name := "first", desc := "()LTwoPhaseCuts$Note;" } : Jvm.MethodName)) ∈ tw_tbl := tw_of 299 (by decide +kernel) (by decide +kernel)
theorem tw_300 : (Jvm.Cond.code ({ cls := "TwoPhaseCuts$NoteLine", name := "first", desc := "()LTwoPhaseCuts$Note;" } : Jvm.MethodName) prog_5_method_3_code (1 : Nat) (Option.some (Jvm.ClassFile.FieldType.object "TwoPhaseCuts$Note"))) ∈ tw_tbl := tw_of 300 (by decide +kernel) (by decide +kernel)
theorem tw_301 : (Jvm.Cond.methodLink "TwoPhaseCuts" (116 : Nat) ({ cls := "TwoPhaseCuts", name := "deliver", desc := "(LTwoPhaseCuts$Note;)V" } : Jvm.MethodName)) ∈ tw_tbl := tw_of 301 (by decide +kernel) (by decide +kernel)
theorem tw_303 : (Jvm.Cond.instanceMethod ({ cls := "TwoPhaseCuts", name := "deliver", desc := "(LTwoPhaseCuts$Note;)V" } : Jvm.MethodName)) ∈ tw_tbl := tw_of 303 (by decide +kernel) (by decide +kernel)
theorem tw_304 : (Jvm.Cond.code ({ cls := "TwoPhaseCuts", name := "deliver", desc := "(LTwoPhaseCuts$Note;)V" } : Jvm.MethodName) prog_1_method_25_code (2 : Nat) (Option.none : Option Jvm.ClassFile.FieldType)) ∈ tw_tbl := tw_of 304 (by decide +kernel) (by decide +kernel)
theorem tw_305 : (Jvm.Cond.methodLink "TwoPhaseCuts" (181 : Nat) ({ cls := "TwoPhaseCuts", name := "hearRequest", desc := "(LTwoPhaseCuts$Note;)V" } : Jvm.MethodName)) ∈ tw_tbl := tw_of 305 (by decide +kernel) (by decide +kernel)
theorem tw_307 : (Jvm.Cond.instanceMethod ({ cls := "TwoPhaseCuts", name := "hearRequest", desc := "(LTwoPhaseCuts$Note;)V" } : Jvm.MethodName)) ∈ tw_tbl := tw_of 307 (by decide +kernel) (by decide +kernel)
theorem tw_308 : (Jvm.Cond.code ({ cls := "TwoPhaseCuts", name := "hearRequest", desc := "(LTwoPhaseCuts$Note;)V" } : Jvm.MethodName) prog_1_method_26_code (4 : Nat) (Option.none : Option Jvm.ClassFile.FieldType)) ∈ tw_tbl := tw_of 308 (by decide +kernel) (by decide +kernel)
theorem tw_309 : (Jvm.Cond.methodLink "TwoPhaseCuts" (196 : Nat) ({ cls := "TwoPhaseCuts", name := "reply", desc := "(LTwoPhaseCuts$Note;I)V" } : Jvm.MethodName)) ∈ tw_tbl := tw_of 309 (by decide +kernel) (by decide +kernel)
theorem tw_311 : (Jvm.Cond.instanceMethod ({ cls := "TwoPhaseCuts", name := "reply", desc := "(LTwoPhaseCuts$Note;I)V" } : Jvm.MethodName)) ∈ tw_tbl := tw_of 311 (by decide +kernel) (by decide +kernel)
theorem tw_312 : (Jvm.Cond.code ({ cls := "TwoPhaseCuts", name := "reply", desc := "(LTwoPhaseCuts$Note;I)V" } : Jvm.MethodName) prog_1_method_27_code (3 : Nat) (Option.none : Option Jvm.ClassFile.FieldType)) ∈ tw_tbl := tw_of 312 (by decide +kernel) (by decide +kernel)
theorem tw_313 : (Jvm.Cond.methodLink "TwoPhaseCuts" (206 : Nat) ({ cls := "TwoPhaseCuts$Member", name := "isConcerned", desc := "(ZII)Z" } : Jvm.MethodName)) ∈ tw_tbl := tw_of 313 (by decide +kernel) (by decide +kernel)
theorem tw_314 : (Jvm.Cond.instanceMethod ({ cls := "TwoPhaseCuts$Member", name := "isConcerned", desc := "(ZII)Z" } : Jvm.MethodName)) ∈ tw_tbl := tw_of 314 (by decide +kernel) (by decide +kernel)
theorem tw_315 : (Jvm.Cond.selects "TwoPhaseCuts$Member" ({ cls := "TwoPhaseCuts$Member", name := "isConcerned", desc := "(ZII)Z" } : Jvm.MethodName) ({ cls := "TwoPhaseCuts$Member", name := "isConcerned", desc := "(ZII)Z" } : Jvm.MethodName)) ∈ tw_tbl := tw_of 315 (by decide +kernel) (by decide +kernel)
theorem tw_316 : (Jvm.Cond.code ({ cls := "TwoPhaseCuts$Member", name := "isConcerned", desc := "(ZII)Z" } : Jvm.MethodName) prog_3_method_5_code (4 : Nat) (Option.some Jvm.ClassFile.FieldType.boolean)) ∈ tw_tbl := tw_of 316 (by decide +kernel) (by decide +kernel)
theorem tw_317 : (Jvm.Cond.methodLink "TwoPhaseCuts" (184 : Nat) ({ cls := "TwoPhaseCuts", name := "hearAnswer", desc := "(LTwoPhaseCuts$Note;)V" } : Jvm.MethodName)) ∈ tw_tbl := tw_of 317 (by decide +kernel) (by decide +kernel)
theorem tw_319 : (Jvm.Cond.instanceMethod ({ cls := "TwoPhaseCuts", name := "hearAnswer", desc := "(LTwoPhaseCuts$Note;)V" } : Jvm.MethodName)) ∈ tw_tbl := tw_of 319 (by decide +kernel) (by decide +kernel)
theorem tw_320 : (Jvm.Cond.code ({ cls := "TwoPhaseCuts", name := "hearAnswer", desc := "(LTwoPhaseCuts$Note;)V" } : Jvm.MethodName) prog_1_method_28_code (3 : Nat) (Option.none : Option Jvm.ClassFile.FieldType)) ∈ tw_tbl := tw_of 320 (by decide +kernel) (by decide +kernel)
theorem tw_321 : (Jvm.Cond.methodLink "TwoPhaseCuts" (187 : Nat) ({ cls := "TwoPhaseCuts", name := "hearDecision", desc := "(LTwoPhaseCuts$Note;)V" } : Jvm.MethodName)) ∈ tw_tbl := tw_of 321 (by decide +kernel) (by decide +kernel)
theorem tw_323 : (Jvm.Cond.instanceMethod ({ cls := "TwoPhaseCuts", name := "hearDecision", desc := "(LTwoPhaseCuts$Note;)V" } : Jvm.MethodName)) ∈ tw_tbl := tw_of 323 (by decide +kernel) (by decide +kernel)
theorem tw_324 : (Jvm.Cond.code ({ cls := "TwoPhaseCuts", name := "hearDecision", desc := "(LTwoPhaseCuts$Note;)V" } : Jvm.MethodName) prog_1_method_29_code (2 : Nat) (Option.none : Option Jvm.ClassFile.FieldType)) ∈ tw_tbl := tw_of 324 (by decide +kernel) (by decide +kernel)
theorem tw_325 : (Jvm.Cond.methodLink "TwoPhaseCuts" (120 : Nat) ({ cls := "TwoPhaseCuts$NoteLine", name := "takeFirst", desc := "()V" } : Jvm.MethodName)) ∈ tw_tbl := tw_of 325 (by decide +kernel) (by decide +kernel)
theorem tw_326 : (Jvm.Cond.instanceMethod ({ cls := "TwoPhaseCuts$NoteLine", name := "takeFirst", desc := "()V" } : Jvm.MethodName)) ∈ tw_tbl := tw_of 326 (by decide +kernel) (by decide +kernel)
theorem tw_327 : (Jvm.Cond.selects "TwoPhaseCuts$NoteLine" ({ cls := "TwoPhaseCuts$NoteLine", name := "takeFirst", desc := "()V" } : Jvm.MethodName) ({ cls := "TwoPhaseCuts$NoteLine", name := "takeFirst", desc := "()V" } : Jvm.MethodName)) ∈ tw_tbl := tw_of 327 (by decide +kernel) (by decide +kernel)
theorem tw_328 : (Jvm.Cond.code ({ cls := "TwoPhaseCuts$NoteLine", name := "takeFirst", desc := "()V" } : Jvm.MethodName) prog_5_method_4_code (1 : Nat) (Option.none : Option Jvm.ClassFile.FieldType)) ∈ tw_tbl := tw_of 328 (by decide +kernel) (by decide +kernel)
theorem tw_374 : (Jvm.Cond.fieldLink "TwoPhaseCutsModel" (83 : Nat) "TwoPhaseCutsModel" "n" "I") ∈ tw_tbl := tw_of 374 (by decide +kernel) (by decide +kernel)
theorem tw_375 : (Jvm.Cond.fieldLink "TwoPhaseCutsModel" (7 : Nat) "TwoPhaseCutsModel" "length" "[I") ∈ tw_tbl := tw_of 375 (by decide +kernel) (by decide +kernel)
theorem tw_376 : (Jvm.Cond.fieldLink "TwoPhaseCutsModel" (13 : Nat) "TwoPhaseCutsModel" "event" "[I") ∈ tw_tbl := tw_of 376 (by decide +kernel) (by decide +kernel)
theorem tw_377 : (Jvm.Cond.fieldLink "TwoPhaseCutsModel" (16 : Nat) "TwoPhaseCutsModel" "about" "[I") ∈ tw_tbl := tw_of 377 (by decide +kernel) (by decide +kernel)
theorem tw_378 : (Jvm.Cond.fieldLink "TwoPhaseCutsModel" (19 : Nat) "TwoPhaseCutsModel" "label" "[I") ∈ tw_tbl := tw_of 378 (by decide +kernel) (by decide +kernel)
theorem tw_379 : (Jvm.Cond.fieldLink "TwoPhaseCutsModel" (22 : Nat) "TwoPhaseCutsModel" "load" "[I") ∈ tw_tbl := tw_of 379 (by decide +kernel) (by decide +kernel)
theorem tw_380 : (Jvm.Cond.fieldLink "TwoPhaseCutsModel" (25 : Nat) "TwoPhaseCutsModel" "kept" "[I") ∈ tw_tbl := tw_of 380 (by decide +kernel) (by decide +kernel)
theorem tw_381 : (Jvm.Cond.fieldLink "TwoPhaseCutsModel" (28 : Nat) "TwoPhaseCutsModel" "fixed" "[I") ∈ tw_tbl := tw_of 381 (by decide +kernel) (by decide +kernel)
theorem tw_382 : (Jvm.Cond.fieldLink "TwoPhaseCutsModel" (31 : Nat) "TwoPhaseCutsModel" "gone" "[I") ∈ tw_tbl := tw_of 382 (by decide +kernel) (by decide +kernel)
theorem tw_383 : (Jvm.Cond.fieldLink "TwoPhaseCutsModel" (34 : Nat) "TwoPhaseCutsModel" "isDown" "[Z") ∈ tw_tbl := tw_of 383 (by decide +kernel) (by decide +kernel)
theorem tw_384 : (Jvm.Cond.fieldLink "TwoPhaseCutsModel" (38 : Nat) "TwoPhaseCutsModel" "in" "[I") ∈ tw_tbl := tw_of 384 (by decide +kernel) (by decide +kernel)
theorem tw_385 : (Jvm.Cond.fieldLink "TwoPhaseCutsModel" (41 : Nat) "TwoPhaseCutsModel" "back" "[Z") ∈ tw_tbl := tw_of 385 (by decide +kernel) (by decide +kernel)
theorem tw_386 : (Jvm.Cond.fieldLink "TwoPhaseCutsModel" (44 : Nat) "TwoPhaseCutsModel" "parent" "[I") ∈ tw_tbl := tw_of 386 (by decide +kernel) (by decide +kernel)
theorem tw_387 : (Jvm.Cond.fieldLink "TwoPhaseCutsModel" (47 : Nat) "TwoPhaseCutsModel" "cohort" "[I") ∈ tw_tbl := tw_of 387 (by decide +kernel) (by decide +kernel)
theorem tw_388 : (Jvm.Cond.fieldLink "TwoPhaseCutsModel" (50 : Nat) "TwoPhaseCutsModel" "answered" "[I") ∈ tw_tbl := tw_of 388 (by decide +kernel) (by decide +kernel)
theorem tw_389 : (Jvm.Cond.fieldLink "TwoPhaseCutsModel" (53 : Nat) "TwoPhaseCutsModel" "refused" "[I") ∈ tw_tbl := tw_of 389 (by decide +kernel) (by decide +kernel)
theorem tw_390 : (Jvm.Cond.fieldLink "TwoPhaseCutsModel" (153 : Nat) "TwoPhaseCutsModel" "instances" "I") ∈ tw_tbl := tw_of 390 (by decide +kernel) (by decide +kernel)
theorem tw_391 : (Jvm.Cond.fieldLink "TwoPhaseCutsModel" (56 : Nat) "TwoPhaseCutsModel" "fate" "[I") ∈ tw_tbl := tw_of 391 (by decide +kernel) (by decide +kernel)
theorem tw_392 : (Jvm.Cond.fieldLink "TwoPhaseCutsModel" (116 : Nat) "TwoPhaseCutsModel" "count" "I") ∈ tw_tbl := tw_of 392 (by decide +kernel) (by decide +kernel)
theorem tw_393 : (Jvm.Cond.fieldLink "TwoPhaseCutsModel" (59 : Nat) "TwoPhaseCutsModel" "what" "[I") ∈ tw_tbl := tw_of 393 (by decide +kernel) (by decide +kernel)
theorem tw_394 : (Jvm.Cond.fieldLink "TwoPhaseCutsModel" (62 : Nat) "TwoPhaseCutsModel" "from" "[I") ∈ tw_tbl := tw_of 394 (by decide +kernel) (by decide +kernel)
theorem tw_395 : (Jvm.Cond.fieldLink "TwoPhaseCutsModel" (65 : Nat) "TwoPhaseCutsModel" "to" "[I") ∈ tw_tbl := tw_of 395 (by decide +kernel) (by decide +kernel)
theorem tw_396 : (Jvm.Cond.fieldLink "TwoPhaseCutsModel" (68 : Nat) "TwoPhaseCutsModel" "of" "[I") ∈ tw_tbl := tw_of 396 (by decide +kernel) (by decide +kernel)
theorem tw_397 : (Jvm.Cond.fieldLink "TwoPhaseCutsModel" (71 : Nat) "TwoPhaseCutsModel" "backwards" "[Z") ∈ tw_tbl := tw_of 397 (by decide +kernel) (by decide +kernel)
theorem tw_398 : (Jvm.Cond.fieldLink "TwoPhaseCutsModel" (74 : Nat) "TwoPhaseCutsModel" "word" "[I") ∈ tw_tbl := tw_of 398 (by decide +kernel) (by decide +kernel)
theorem tw_399 : (Jvm.Cond.fieldLink "TwoPhaseCutsModel" (77 : Nat) "TwoPhaseCutsModel" "commits" "[I") ∈ tw_tbl := tw_of 399 (by decide +kernel) (by decide +kernel)
theorem tw_400 : (Jvm.Cond.fieldLink "TwoPhaseCutsModel" (80 : Nat) "TwoPhaseCutsModel" "rollbacks" "[I") ∈ tw_tbl := tw_of 400 (by decide +kernel) (by decide +kernel)
theorem tw_460 : (Jvm.Cond.methodLink "TwoPhaseCutsModel" (87 : Nat) ({ cls := "TwoPhaseCutsModel", name := "is", desc := "(I)Z" } : Jvm.MethodName)) ∈ tw_tbl := tw_of 460 (by decide +kernel) (by decide +kernel)
theorem tw_462 : (Jvm.Cond.instanceMethod ({ cls := "TwoPhaseCutsModel", name := "is", desc := "(I)Z" } : Jvm.MethodName)) ∈ tw_tbl := tw_of 462 (by decide +kernel) (by decide +kernel)
theorem tw_463 : (Jvm.Cond.code ({ cls := "TwoPhaseCutsModel", name := "is", desc := "(I)Z" } : Jvm.MethodName) prog_8_method_2_code (2 : Nat) (Option.some Jvm.ClassFile.FieldType.boolean)) ∈ tw_tbl := tw_of 463 (by decide +kernel) (by decide +kernel)
theorem tw_464 : (Jvm.Cond.methodLink "TwoPhaseCutsModel" (99 : Nat) ({ cls := "TwoPhaseCutsModel", name := "stands", desc := "(I)Z" } : Jvm.MethodName)) ∈ tw_tbl := tw_of 464 (by decide +kernel) (by decide +kernel)
theorem tw_466 : (Jvm.Cond.instanceMethod ({ cls := "TwoPhaseCutsModel", name := "stands", desc := "(I)Z" } : Jvm.MethodName)) ∈ tw_tbl := tw_of 466 (by decide +kernel) (by decide +kernel)
theorem tw_467 : (Jvm.Cond.code ({ cls := "TwoPhaseCutsModel", name := "stands", desc := "(I)Z" } : Jvm.MethodName) prog_8_method_10_code (2 : Nat) (Option.some Jvm.ClassFile.FieldType.boolean)) ∈ tw_tbl := tw_of 467 (by decide +kernel) (by decide +kernel)
theorem tw_468 : (Jvm.Cond.methodLink "TwoPhaseCutsModel" (102 : Nat) ({ cls := "TwoPhaseCutsModel", name := "note", desc := "(IIIII)I" } : Jvm.MethodName)) ∈ tw_tbl := tw_of 468 (by decide +kernel) (by decide +kernel)
theorem tw_470 : (Jvm.Cond.instanceMethod ({ cls := "TwoPhaseCutsModel", name := "note", desc := "(IIIII)I" } : Jvm.MethodName)) ∈ tw_tbl := tw_of 470 (by decide +kernel) (by decide +kernel)
theorem tw_471 : (Jvm.Cond.code ({ cls := "TwoPhaseCutsModel", name := "note", desc := "(IIIII)I" } : Jvm.MethodName) prog_8_method_9_code (7 : Nat) (Option.some Jvm.ClassFile.FieldType.int)) ∈ tw_tbl := tw_of 471 (by decide +kernel) (by decide +kernel)
theorem tw_476 : (Jvm.Cond.methodLink "TwoPhaseCutsModel" (106 : Nat) ({ cls := "TwoPhaseCutsModel", name := "pair", desc := "(II)Z" } : Jvm.MethodName)) ∈ tw_tbl := tw_of 476 (by decide +kernel) (by decide +kernel)
theorem tw_478 : (Jvm.Cond.instanceMethod ({ cls := "TwoPhaseCutsModel", name := "pair", desc := "(II)Z" } : Jvm.MethodName)) ∈ tw_tbl := tw_of 478 (by decide +kernel) (by decide +kernel)
theorem tw_479 : (Jvm.Cond.code ({ cls := "TwoPhaseCutsModel", name := "pair", desc := "(II)Z" } : Jvm.MethodName) prog_8_method_3_code (3 : Nat) (Option.some Jvm.ClassFile.FieldType.boolean)) ∈ tw_tbl := tw_of 479 (by decide +kernel) (by decide +kernel)
theorem tw_480 : (Jvm.Cond.methodLink "TwoPhaseCutsModel" (110 : Nat) ({ cls := "TwoPhaseCutsModel", name := "inChannel", desc := "(II)I" } : Jvm.MethodName)) ∈ tw_tbl := tw_of 480 (by decide +kernel) (by decide +kernel)
theorem tw_482 : (Jvm.Cond.instanceMethod ({ cls := "TwoPhaseCutsModel", name := "inChannel", desc := "(II)I" } : Jvm.MethodName)) ∈ tw_tbl := tw_of 482 (by decide +kernel) (by decide +kernel)
theorem tw_483 : (Jvm.Cond.code ({ cls := "TwoPhaseCutsModel", name := "inChannel", desc := "(II)I" } : Jvm.MethodName) prog_8_method_8_code (3 : Nat) (Option.some Jvm.ClassFile.FieldType.int)) ∈ tw_tbl := tw_of 483 (by decide +kernel) (by decide +kernel)
theorem tw_484 : (Jvm.Cond.methodLink "TwoPhaseCutsModel" (95 : Nat) ({ cls := "TwoPhaseCutsModel", name := "sentAt", desc := "(III)I" } : Jvm.MethodName)) ∈ tw_tbl := tw_of 484 (by decide +kernel) (by decide +kernel)
theorem tw_486 : (Jvm.Cond.instanceMethod ({ cls := "TwoPhaseCutsModel", name := "sentAt", desc := "(III)I" } : Jvm.MethodName)) ∈ tw_tbl := tw_of 486 (by decide +kernel) (by decide +kernel)
theorem tw_487 : (Jvm.Cond.code ({ cls := "TwoPhaseCutsModel", name := "sentAt", desc := "(III)I" } : Jvm.MethodName) prog_8_method_5_code (6 : Nat) (Option.some Jvm.ClassFile.FieldType.int)) ∈ tw_tbl := tw_of 487 (by decide +kernel) (by decide +kernel)
theorem tw_492 : (Jvm.Cond.methodLink "TwoPhaseCutsModel" (113 : Nat) ({ cls := "TwoPhaseCutsModel", name := "sentWith", desc := "(III)I" } : Jvm.MethodName)) ∈ tw_tbl := tw_of 492 (by decide +kernel) (by decide +kernel)
theorem tw_494 : (Jvm.Cond.instanceMethod ({ cls := "TwoPhaseCutsModel", name := "sentWith", desc := "(III)I" } : Jvm.MethodName)) ∈ tw_tbl := tw_of 494 (by decide +kernel) (by decide +kernel)
theorem tw_495 : (Jvm.Cond.code ({ cls := "TwoPhaseCutsModel", name := "sentWith", desc := "(III)I" } : Jvm.MethodName) prog_8_method_7_code (7 : Nat) (Option.some Jvm.ClassFile.FieldType.int)) ∈ tw_tbl := tw_of 495 (by decide +kernel) (by decide +kernel)
theorem tw_496 : (Jvm.Cond.methodLink "TwoPhaseCutsModel" (91 : Nat) ({ cls := "TwoPhaseCutsModel", name := "valueAt", desc := "(II)I" } : Jvm.MethodName)) ∈ tw_tbl := tw_of 496 (by decide +kernel) (by decide +kernel)
theorem tw_498 : (Jvm.Cond.instanceMethod ({ cls := "TwoPhaseCutsModel", name := "valueAt", desc := "(II)I" } : Jvm.MethodName)) ∈ tw_tbl := tw_of 498 (by decide +kernel) (by decide +kernel)
theorem tw_499 : (Jvm.Cond.code ({ cls := "TwoPhaseCutsModel", name := "valueAt", desc := "(II)I" } : Jvm.MethodName) prog_8_method_4_code (5 : Nat) (Option.some Jvm.ClassFile.FieldType.int)) ∈ tw_tbl := tw_of 499 (by decide +kernel) (by decide +kernel)
theorem tw_508 : (Jvm.Cond.methodLink "TwoPhaseCutsModel" (150 : Nat) ({ cls := "TwoPhaseCutsModel", name := "deliver", desc := "(I)V" } : Jvm.MethodName)) ∈ tw_tbl := tw_of 508 (by decide +kernel) (by decide +kernel)
theorem tw_510 : (Jvm.Cond.instanceMethod ({ cls := "TwoPhaseCutsModel", name := "deliver", desc := "(I)V" } : Jvm.MethodName)) ∈ tw_tbl := tw_of 510 (by decide +kernel) (by decide +kernel)
theorem tw_511 : (Jvm.Cond.code ({ cls := "TwoPhaseCutsModel", name := "deliver", desc := "(I)V" } : Jvm.MethodName) prog_8_method_23_code (3 : Nat) (Option.none : Option Jvm.ClassFile.FieldType)) ∈ tw_tbl := tw_of 511 (by decide +kernel) (by decide +kernel)
theorem tw_512 : (Jvm.Cond.methodLink "TwoPhaseCutsModel" (147 : Nat) ({ cls := "TwoPhaseCutsModel", name := "request", desc := "(I)V" } : Jvm.MethodName)) ∈ tw_tbl := tw_of 512 (by decide +kernel) (by decide +kernel)
theorem tw_514 : (Jvm.Cond.instanceMethod ({ cls := "TwoPhaseCutsModel", name := "request", desc := "(I)V" } : Jvm.MethodName)) ∈ tw_tbl := tw_of 514 (by decide +kernel) (by decide +kernel)
theorem tw_515 : (Jvm.Cond.code ({ cls := "TwoPhaseCutsModel", name := "request", desc := "(I)V" } : Jvm.MethodName) prog_8_method_22_code (5 : Nat) (Option.none : Option Jvm.ClassFile.FieldType)) ∈ tw_tbl := tw_of 515 (by decide +kernel) (by decide +kernel)
theorem tw_516 : (Jvm.Cond.methodLink "TwoPhaseCutsModel" (140 : Nat) ({ cls := "TwoPhaseCutsModel", name := "concerned", desc := "(II)Z" } : Jvm.MethodName)) ∈ tw_tbl := tw_of 516 (by decide +kernel) (by decide +kernel)
theorem tw_518 : (Jvm.Cond.instanceMethod ({ cls := "TwoPhaseCutsModel", name := "concerned", desc := "(II)Z" } : Jvm.MethodName)) ∈ tw_tbl := tw_of 518 (by decide +kernel) (by decide +kernel)
theorem tw_519 : (Jvm.Cond.code ({ cls := "TwoPhaseCutsModel", name := "concerned", desc := "(II)Z" } : Jvm.MethodName) prog_8_method_21_code (4 : Nat) (Option.some Jvm.ClassFile.FieldType.boolean)) ∈ tw_tbl := tw_of 519 (by decide +kernel) (by decide +kernel)
theorem tw_520 : (Jvm.Cond.methodLink "TwoPhaseCutsModel" (119 : Nat) ({ cls := "TwoPhaseCutsModel", name := "receivedAt", desc := "(III)I" } : Jvm.MethodName)) ∈ tw_tbl := tw_of 520 (by decide +kernel) (by decide +kernel)
theorem tw_522 : (Jvm.Cond.instanceMethod ({ cls := "TwoPhaseCutsModel", name := "receivedAt", desc := "(III)I" } : Jvm.MethodName)) ∈ tw_tbl := tw_of 522 (by decide +kernel) (by decide +kernel)
theorem tw_523 : (Jvm.Cond.code ({ cls := "TwoPhaseCutsModel", name := "receivedAt", desc := "(III)I" } : Jvm.MethodName) prog_8_method_6_code (6 : Nat) (Option.some Jvm.ClassFile.FieldType.int)) ∈ tw_tbl := tw_of 523 (by decide +kernel) (by decide +kernel)
theorem tw_524 : (Jvm.Cond.methodLink "TwoPhaseCutsModel" (143 : Nat) ({ cls := "TwoPhaseCutsModel", name := "join", desc := "(IIZI)V" } : Jvm.MethodName)) ∈ tw_tbl := tw_of 524 (by decide +kernel) (by decide +kernel)
theorem tw_526 : (Jvm.Cond.instanceMethod ({ cls := "TwoPhaseCutsModel", name := "join", desc := "(IIZI)V" } : Jvm.MethodName)) ∈ tw_tbl := tw_of 526 (by decide +kernel) (by decide +kernel)
theorem tw_527 : (Jvm.Cond.code ({ cls := "TwoPhaseCutsModel", name := "join", desc := "(IIZI)V" } : Jvm.MethodName) prog_8_method_17_code (7 : Nat) (Option.none : Option Jvm.ClassFile.FieldType)) ∈ tw_tbl := tw_of 527 (by decide +kernel) (by decide +kernel)
theorem tw_528 : (Jvm.Cond.methodLink "TwoPhaseCutsModel" (122 : Nat) ({ cls := "TwoPhaseCutsModel", name := "asks", desc := "(II)Z" } : Jvm.MethodName)) ∈ tw_tbl := tw_of 528 (by decide +kernel) (by decide +kernel)
theorem tw_530 : (Jvm.Cond.instanceMethod ({ cls := "TwoPhaseCutsModel", name := "asks", desc := "(II)Z" } : Jvm.MethodName)) ∈ tw_tbl := tw_of 530 (by decide +kernel) (by decide +kernel)
theorem tw_531 : (Jvm.Cond.code ({ cls := "TwoPhaseCutsModel", name := "asks", desc := "(II)Z" } : Jvm.MethodName) prog_8_method_16_code (3 : Nat) (Option.some Jvm.ClassFile.FieldType.boolean)) ∈ tw_tbl := tw_of 531 (by decide +kernel) (by decide +kernel)
theorem tw_532 : (Jvm.Cond.methodLink "TwoPhaseCutsModel" (125 : Nat) ({ cls := "TwoPhaseCutsModel", name := "write", desc := "(IIII)V" } : Jvm.MethodName)) ∈ tw_tbl := tw_of 532 (by decide +kernel) (by decide +kernel)
theorem tw_534 : (Jvm.Cond.instanceMethod ({ cls := "TwoPhaseCutsModel", name := "write", desc := "(IIII)V" } : Jvm.MethodName)) ∈ tw_tbl := tw_of 534 (by decide +kernel) (by decide +kernel)
theorem tw_535 : (Jvm.Cond.code ({ cls := "TwoPhaseCutsModel", name := "write", desc := "(IIII)V" } : Jvm.MethodName) prog_8_method_15_code (5 : Nat) (Option.none : Option Jvm.ClassFile.FieldType)) ∈ tw_tbl := tw_of 535 (by decide +kernel) (by decide +kernel)
theorem tw_536 : (Jvm.Cond.methodLink "TwoPhaseCutsModel" (129 : Nat) ({ cls := "TwoPhaseCutsModel", name := "complete", desc := "(I)V" } : Jvm.MethodName)) ∈ tw_tbl := tw_of 536 (by decide +kernel) (by decide +kernel)
theorem tw_538 : (Jvm.Cond.instanceMethod ({ cls := "TwoPhaseCutsModel", name := "complete", desc := "(I)V" } : Jvm.MethodName)) ∈ tw_tbl := tw_of 538 (by decide +kernel) (by decide +kernel)
theorem tw_539 : (Jvm.Cond.code ({ cls := "TwoPhaseCutsModel", name := "complete", desc := "(I)V" } : Jvm.MethodName) prog_8_method_18_code (3 : Nat) (Option.none : Option Jvm.ClassFile.FieldType)) ∈ tw_tbl := tw_of 539 (by decide +kernel) (by decide +kernel)
theorem tw_540 : (Jvm.Cond.methodLink "TwoPhaseCutsModel" (133 : Nat) ({ cls := "TwoPhaseCutsModel", name := "follow", desc := "(IZ)V" } : Jvm.MethodName)) ∈ tw_tbl := tw_of 540 (by decide +kernel) (by decide +kernel)
theorem tw_542 : (Jvm.Cond.instanceMethod ({ cls := "TwoPhaseCutsModel", name := "follow", desc := "(IZ)V" } : Jvm.MethodName)) ∈ tw_tbl := tw_of 542 (by decide +kernel) (by decide +kernel)
theorem tw_543 : (Jvm.Cond.code ({ cls := "TwoPhaseCutsModel", name := "follow", desc := "(IZ)V" } : Jvm.MethodName) prog_8_method_19_code (4 : Nat) (Option.none : Option Jvm.ClassFile.FieldType)) ∈ tw_tbl := tw_of 543 (by decide +kernel) (by decide +kernel)
theorem tw_544 : (Jvm.Cond.methodLink "TwoPhaseCutsModel" (137 : Nat) ({ cls := "TwoPhaseCutsModel", name := "cut", desc := "(I)V" } : Jvm.MethodName)) ∈ tw_tbl := tw_of 544 (by decide +kernel) (by decide +kernel)
theorem tw_546 : (Jvm.Cond.instanceMethod ({ cls := "TwoPhaseCutsModel", name := "cut", desc := "(I)V" } : Jvm.MethodName)) ∈ tw_tbl := tw_of 546 (by decide +kernel) (by decide +kernel)
theorem tw_547 : (Jvm.Cond.code ({ cls := "TwoPhaseCutsModel", name := "cut", desc := "(I)V" } : Jvm.MethodName) prog_8_method_20_code (4 : Nat) (Option.none : Option Jvm.ClassFile.FieldType)) ∈ tw_tbl := tw_of 547 (by decide +kernel) (by decide +kernel)
theorem tw_552 : (Jvm.Cond.methodLink "TwoPhaseCutsModel" (156 : Nat) ({ cls := "TwoPhaseCutsModel", name := "begin", desc := "(IZ)I" } : Jvm.MethodName)) ∈ tw_tbl := tw_of 552 (by decide +kernel) (by decide +kernel)
theorem tw_554 : (Jvm.Cond.instanceMethod ({ cls := "TwoPhaseCutsModel", name := "begin", desc := "(IZ)I" } : Jvm.MethodName)) ∈ tw_tbl := tw_of 554 (by decide +kernel) (by decide +kernel)
theorem tw_555 : (Jvm.Cond.code ({ cls := "TwoPhaseCutsModel", name := "begin", desc := "(IZ)I" } : Jvm.MethodName) prog_8_method_25_code (3 : Nat) (Option.some Jvm.ClassFile.FieldType.int)) ∈ tw_tbl := tw_of 555 (by decide +kernel) (by decide +kernel)
theorem ts_0 : Cond.selects "TwoPhaseCuts" (⟨"TwoPhaseCuts", "isProcess", "(I)Z"⟩ : MethodName) (⟨"TwoPhaseCuts", "isProcess", "(I)Z"⟩ : MethodName) ∈ tw_tbl := tw_ofs 0 (by decide +kernel) (by decide +kernel)
theorem ts_1 : Cond.selects "TwoPhaseCuts" (⟨"TwoPhaseCuts", "isChannel", "(II)Z"⟩ : MethodName) (⟨"TwoPhaseCuts", "isChannel", "(II)Z"⟩ : MethodName) ∈ tw_tbl := tw_ofs 1 (by decide +kernel) (by decide +kernel)
theorem ts_2 : Cond.selects "TwoPhaseCuts" (⟨"TwoPhaseCuts", "channelOf", "(II)LTwoPhaseCuts$Channel;"⟩ : MethodName) (⟨"TwoPhaseCuts", "channelOf", "(II)LTwoPhaseCuts$Channel;"⟩ : MethodName) ∈ tw_tbl := tw_ofs 2 (by decide +kernel) (by decide +kernel)
theorem ts_3 : Cond.selects "TwoPhaseCuts" (⟨"TwoPhaseCuts", "begin", "(IZ)I"⟩ : MethodName) (⟨"TwoPhaseCuts", "begin", "(IZ)I"⟩ : MethodName) ∈ tw_tbl := tw_ofs 3 (by decide +kernel) (by decide +kernel)
theorem ts_4 : Cond.selects "TwoPhaseCuts" (⟨"TwoPhaseCuts", "join", "(III)V"⟩ : MethodName) (⟨"TwoPhaseCuts", "join", "(III)V"⟩ : MethodName) ∈ tw_tbl := tw_ofs 4 (by decide +kernel) (by decide +kernel)
theorem ts_5 : Cond.selects "TwoPhaseCuts$NoteLine" (⟨"TwoPhaseCuts$NoteLine", "wrapped", "(I)I"⟩ : MethodName) (⟨"TwoPhaseCuts$NoteLine", "wrapped", "(I)I"⟩ : MethodName) ∈ tw_tbl := tw_ofs 5 (by decide +kernel) (by decide +kernel)
theorem ts_6 : Cond.selects "TwoPhaseCuts" (⟨"TwoPhaseCuts", "concludeWhenAnswered", "(I)V"⟩ : MethodName) (⟨"TwoPhaseCuts", "concludeWhenAnswered", "(I)V"⟩ : MethodName) ∈ tw_tbl := tw_ofs 6 (by decide +kernel) (by decide +kernel)
theorem ts_7 : Cond.selects "TwoPhaseCuts" (⟨"TwoPhaseCuts", "follow", "(II)V"⟩ : MethodName) (⟨"TwoPhaseCuts", "follow", "(II)V"⟩ : MethodName) ∈ tw_tbl := tw_ofs 7 (by decide +kernel) (by decide +kernel)
theorem ts_8 : Cond.selects "TwoPhaseCuts" (⟨"TwoPhaseCuts", "rollBack", "(I)V"⟩ : MethodName) (⟨"TwoPhaseCuts", "rollBack", "(I)V"⟩ : MethodName) ∈ tw_tbl := tw_ofs 8 (by decide +kernel) (by decide +kernel)
theorem ts_9 : Cond.selects "TwoPhaseCuts" (⟨"TwoPhaseCuts", "deliver", "(LTwoPhaseCuts$Note;)V"⟩ : MethodName) (⟨"TwoPhaseCuts", "deliver", "(LTwoPhaseCuts$Note;)V"⟩ : MethodName) ∈ tw_tbl := tw_ofs 9 (by decide +kernel) (by decide +kernel)
theorem ts_10 : Cond.selects "TwoPhaseCuts" (⟨"TwoPhaseCuts", "hearRequest", "(LTwoPhaseCuts$Note;)V"⟩ : MethodName) (⟨"TwoPhaseCuts", "hearRequest", "(LTwoPhaseCuts$Note;)V"⟩ : MethodName) ∈ tw_tbl := tw_ofs 10 (by decide +kernel) (by decide +kernel)
theorem ts_11 : Cond.selects "TwoPhaseCuts" (⟨"TwoPhaseCuts", "reply", "(LTwoPhaseCuts$Note;I)V"⟩ : MethodName) (⟨"TwoPhaseCuts", "reply", "(LTwoPhaseCuts$Note;I)V"⟩ : MethodName) ∈ tw_tbl := tw_ofs 11 (by decide +kernel) (by decide +kernel)
theorem ts_12 : Cond.selects "TwoPhaseCuts" (⟨"TwoPhaseCuts", "hearAnswer", "(LTwoPhaseCuts$Note;)V"⟩ : MethodName) (⟨"TwoPhaseCuts", "hearAnswer", "(LTwoPhaseCuts$Note;)V"⟩ : MethodName) ∈ tw_tbl := tw_ofs 12 (by decide +kernel) (by decide +kernel)
theorem ts_13 : Cond.selects "TwoPhaseCuts" (⟨"TwoPhaseCuts", "hearDecision", "(LTwoPhaseCuts$Note;)V"⟩ : MethodName) (⟨"TwoPhaseCuts", "hearDecision", "(LTwoPhaseCuts$Note;)V"⟩ : MethodName) ∈ tw_tbl := tw_ofs 13 (by decide +kernel) (by decide +kernel)
theorem ts_14 : Cond.selects "TwoPhaseCutsModel" (⟨"TwoPhaseCutsModel", "is", "(I)Z"⟩ : MethodName) (⟨"TwoPhaseCutsModel", "is", "(I)Z"⟩ : MethodName) ∈ tw_tbl := tw_ofs 14 (by decide +kernel) (by decide +kernel)
theorem ts_15 : Cond.selects "TwoPhaseCutsModel" (⟨"TwoPhaseCutsModel", "stands", "(I)Z"⟩ : MethodName) (⟨"TwoPhaseCutsModel", "stands", "(I)Z"⟩ : MethodName) ∈ tw_tbl := tw_ofs 15 (by decide +kernel) (by decide +kernel)
theorem ts_16 : Cond.selects "TwoPhaseCutsModel" (⟨"TwoPhaseCutsModel", "note", "(IIIII)I"⟩ : MethodName) (⟨"TwoPhaseCutsModel", "note", "(IIIII)I"⟩ : MethodName) ∈ tw_tbl := tw_ofs 16 (by decide +kernel) (by decide +kernel)
theorem ts_17 : Cond.selects "TwoPhaseCutsModel" (⟨"TwoPhaseCutsModel", "pair", "(II)Z"⟩ : MethodName) (⟨"TwoPhaseCutsModel", "pair", "(II)Z"⟩ : MethodName) ∈ tw_tbl := tw_ofs 17 (by decide +kernel) (by decide +kernel)
theorem ts_18 : Cond.selects "TwoPhaseCutsModel" (⟨"TwoPhaseCutsModel", "inChannel", "(II)I"⟩ : MethodName) (⟨"TwoPhaseCutsModel", "inChannel", "(II)I"⟩ : MethodName) ∈ tw_tbl := tw_ofs 18 (by decide +kernel) (by decide +kernel)
theorem ts_19 : Cond.selects "TwoPhaseCutsModel" (⟨"TwoPhaseCutsModel", "sentAt", "(III)I"⟩ : MethodName) (⟨"TwoPhaseCutsModel", "sentAt", "(III)I"⟩ : MethodName) ∈ tw_tbl := tw_ofs 19 (by decide +kernel) (by decide +kernel)
theorem ts_20 : Cond.selects "TwoPhaseCutsModel" (⟨"TwoPhaseCutsModel", "sentWith", "(III)I"⟩ : MethodName) (⟨"TwoPhaseCutsModel", "sentWith", "(III)I"⟩ : MethodName) ∈ tw_tbl := tw_ofs 20 (by decide +kernel) (by decide +kernel)
theorem ts_21 : Cond.selects "TwoPhaseCutsModel" (⟨"TwoPhaseCutsModel", "valueAt", "(II)I"⟩ : MethodName) (⟨"TwoPhaseCutsModel", "valueAt", "(II)I"⟩ : MethodName) ∈ tw_tbl := tw_ofs 21 (by decide +kernel) (by decide +kernel)
theorem ts_22 : Cond.selects "TwoPhaseCutsModel" (⟨"TwoPhaseCutsModel", "deliver", "(I)V"⟩ : MethodName) (⟨"TwoPhaseCutsModel", "deliver", "(I)V"⟩ : MethodName) ∈ tw_tbl := tw_ofs 22 (by decide +kernel) (by decide +kernel)
theorem ts_23 : Cond.selects "TwoPhaseCutsModel" (⟨"TwoPhaseCutsModel", "request", "(I)V"⟩ : MethodName) (⟨"TwoPhaseCutsModel", "request", "(I)V"⟩ : MethodName) ∈ tw_tbl := tw_ofs 23 (by decide +kernel) (by decide +kernel)
theorem ts_24 : Cond.selects "TwoPhaseCutsModel" (⟨"TwoPhaseCutsModel", "concerned", "(II)Z"⟩ : MethodName) (⟨"TwoPhaseCutsModel", "concerned", "(II)Z"⟩ : MethodName) ∈ tw_tbl := tw_ofs 24 (by decide +kernel) (by decide +kernel)
theorem ts_25 : Cond.selects "TwoPhaseCutsModel" (⟨"TwoPhaseCutsModel", "receivedAt", "(III)I"⟩ : MethodName) (⟨"TwoPhaseCutsModel", "receivedAt", "(III)I"⟩ : MethodName) ∈ tw_tbl := tw_ofs 25 (by decide +kernel) (by decide +kernel)
theorem ts_26 : Cond.selects "TwoPhaseCutsModel" (⟨"TwoPhaseCutsModel", "join", "(IIZI)V"⟩ : MethodName) (⟨"TwoPhaseCutsModel", "join", "(IIZI)V"⟩ : MethodName) ∈ tw_tbl := tw_ofs 26 (by decide +kernel) (by decide +kernel)
theorem ts_27 : Cond.selects "TwoPhaseCutsModel" (⟨"TwoPhaseCutsModel", "asks", "(II)Z"⟩ : MethodName) (⟨"TwoPhaseCutsModel", "asks", "(II)Z"⟩ : MethodName) ∈ tw_tbl := tw_ofs 27 (by decide +kernel) (by decide +kernel)
theorem ts_28 : Cond.selects "TwoPhaseCutsModel" (⟨"TwoPhaseCutsModel", "write", "(IIII)V"⟩ : MethodName) (⟨"TwoPhaseCutsModel", "write", "(IIII)V"⟩ : MethodName) ∈ tw_tbl := tw_ofs 28 (by decide +kernel) (by decide +kernel)
theorem ts_29 : Cond.selects "TwoPhaseCutsModel" (⟨"TwoPhaseCutsModel", "complete", "(I)V"⟩ : MethodName) (⟨"TwoPhaseCutsModel", "complete", "(I)V"⟩ : MethodName) ∈ tw_tbl := tw_ofs 29 (by decide +kernel) (by decide +kernel)
theorem ts_30 : Cond.selects "TwoPhaseCutsModel" (⟨"TwoPhaseCutsModel", "follow", "(IZ)V"⟩ : MethodName) (⟨"TwoPhaseCutsModel", "follow", "(IZ)V"⟩ : MethodName) ∈ tw_tbl := tw_ofs 30 (by decide +kernel) (by decide +kernel)
theorem ts_31 : Cond.selects "TwoPhaseCutsModel" (⟨"TwoPhaseCutsModel", "cut", "(I)V"⟩ : MethodName) (⟨"TwoPhaseCutsModel", "cut", "(I)V"⟩ : MethodName) ∈ tw_tbl := tw_ofs 31 (by decide +kernel) (by decide +kernel)
theorem ts_32 : Cond.selects "TwoPhaseCutsModel" (⟨"TwoPhaseCutsModel", "begin", "(IZ)I"⟩ : MethodName) (⟨"TwoPhaseCutsModel", "begin", "(IZ)I"⟩ : MethodName) ∈ tw_tbl := tw_ofs 32 (by decide +kernel) (by decide +kernel)
