abbrev badp (n : Nat) (a : Int32) : Prop := a < 0 ∨ nI n ≤ a
abbrev badc (n : Nat) (a b : Int32) : Prop := badp n a ∨ badp n b ∨ a = b
theorem bad_or (n : Nat) (hn : n ≤ 5) (a : Int32) : badp n a ∨ ∃ p, p < n ∧ a = nI p := by
  rcases pk_ix a (show n < 2 ^ 31 by omega) with z | z | z
  · exact Or.inl (Or.inl z)
  · exact Or.inl (Or.inr z)
  · exact Or.inr z
theorem badc_or (n : Nat) (hn : n ≤ 5) (a b : Int32) : badc n a b ∨ ∃ p q, p < n ∧ q < n ∧ p ≠ q ∧ a = nI p ∧ b = nI q := by
  rcases bad_or n hn a with h | ⟨p, hp, rfl⟩
  · exact Or.inl (Or.inl h)
  · rcases bad_or n hn b with h | ⟨q, hq, rfl⟩
    · exact Or.inl (Or.inr (Or.inl h))
    · by_cases hpq : p = q
      · exact Or.inl (Or.inr (Or.inr (by rw [hpq])))
      · exact Or.inr ⟨p, q, hp, hq, hpq, rfl, rfl⟩
section CB
variable {F n f : Nat} {g : sg} {σ : mm_M}
theorem kb_work (h0 : σ 0 0 0 = nI n) {a : Int32} (h : badp n a) (x : Int32) : f_X_work F n σ a x = some (-1, σ) := by
  unfold f_X_work; rw [k_noproc F n σ a h0 h]; rfl
theorem kb_send (hn : n ≤ 5) (h0 : σ 0 0 0 = nI n) {a b : Int32} (h : badc n a b) : f_X_send F n σ a b = some (-1, σ) := by
  unfold f_X_send; rw [k_nochan F n σ a b hn h0 h]; rfl
theorem kb_receive (hn : n ≤ 5) (h0 : σ 0 0 0 = nI n) {a b : Int32} (h : badc n a b) : f_X_receive F n σ a b = some (-1, σ) := by
  unfold f_X_receive; rw [k_nochan F n σ a b hn h0 h]; rfl
theorem kb_lose (hn : n ≤ 5) (h0 : σ 0 0 0 = nI n) {a b : Int32} (h : badc n a b) : f_X_lose F n σ a b = some (-1, σ) := by
  unfold f_X_lose; rw [k_nochan F n σ a b hn h0 h]; rfl
theorem kb_checkpoint (h0 : σ 0 0 0 = nI n) {a : Int32} (h : badp n a) : f_X_checkpoint F n σ a = some (-1, σ) := by
  unfold f_X_checkpoint; rw [k_noproc F n σ a h0 h]; rfl
theorem kb_crash (h0 : σ 0 0 0 = nI n) {a : Int32} (h : badp n a) : f_X_crash F n σ a = some (-1, σ) := by
  unfold f_X_crash; rw [k_noproc F n σ a h0 h]; rfl
theorem kb_restart (h0 : σ 0 0 0 = nI n) {a : Int32} (h : badp n a) : f_X_restart F n σ a = some (-1, σ) := by
  unfold f_X_restart; rw [k_noproc F n σ a h0 h]; rfl
theorem kb_value (h0 : σ 0 0 0 = nI n) {a : Int32} (h : badp n a) : f_X_value F n σ a = some 0 := by
  unfold f_X_value; rw [k_noproc F n σ a h0 h]; rfl
theorem kb_kept (h0 : σ 0 0 0 = nI n) {a : Int32} (h : badp n a) : f_X_kept F n σ a = some 0 := by
  unfold f_X_kept; rw [k_noproc F n σ a h0 h]; rfl
theorem kb_label (hn : n ≤ 5) (h0 : σ 0 0 0 = nI n) {a b : Int32} (h : badc n a b) (w : Int32) : f_X_label F n σ a b w = some (-1) := by
  unfold f_X_label; rw [k_nochan F n σ a b hn h0 h]; rfl
theorem kb_waiting (hn : n ≤ 5) (h0 : σ 0 0 0 = nI n) {a b : Int32} (h : badc n a b) : f_X_waiting F n σ a b = some (-1) := by
  unfold f_X_waiting; rw [k_nochan F n σ a b hn h0 h]; rfl
theorem kb_down (h0 : σ 0 0 0 = nI n) {a : Int32} (h : badp n a) : f_X_down F n σ a = some 0 := by
  unfold f_X_down; rw [k_noproc F n σ a h0 h]; rfl
theorem kb_instance (h0 : σ 0 0 0 = nI n) {a : Int32} (h : badp n a) : f_X_instance F n σ a = some (-1) := by
  unfold f_X_instance; rw [k_noproc F n σ a h0 h]; rfl
theorem kb_times (h0 : σ 0 0 0 = nI n) {a : Int32} (h : badp n a) (w : Int32) : f_X_times F n σ a w = some (-1) := by
  unfold f_X_times; rw [k_noproc F n σ a h0 h]; rfl
theorem k_value (hw : gw n g) (h : rc n [] g f σ) {p : Nat} (hp : p < n) : f_X_value F n σ (nI p) = some (g.2.1 0 (3 * p) 0) := by
  have hn := hw.2.1
  unfold f_X_value
  rw [k_proc F n σ p hn hp h.1.1, Option.bind_some, if_neg (by decide), if_pos (nn_in hp (by omega)), nn_c (by omega), h.2.1.1 _ (by omega)]
  rfl
theorem k_kept (hw : gw n g) (h : rc n [] g f σ) {p : Nat} (hp : p < n) : f_X_kept F n σ (nI p) = some (g.2.1 0 (3 * p + 1) 0) := by
  have hn := hw.2.1
  unfold f_X_kept
  rw [k_proc F n σ p hn hp h.1.1, Option.bind_some, if_neg (by decide), if_pos (nn_in hp (by omega)), nn_c (by omega), h.2.1.1 _ (by omega)]
  rfl
def s_label (g : sg) (p q : Nat) (w : Int32) : Int32 := if w = 0 then g.2.1 1 (3 * p) q else if w = 1 then g.2.1 2 (3 * p) q else if w = 2 then g.2.1 1 (3 * p + 1) q else if w = 3 then g.2.1 2 (3 * p + 1) q else -1
theorem k_label (hw : gw n g) (h : rc n [] g f σ) {p q : Nat} (hp : p < n) (hq : q < n) (hpq : p ≠ q) (w : Int32) : f_X_label F n σ (nI p) (nI q) w = some (s_label g p q w) := by
  have hn := hw.2.1
  have e0 := h.2.1.2 (3 * p) q (by omega) hq
  have e1 := h.2.1.2 (3 * p + 1) q (by omega) hq
  have ip := nn_in hp (show n ≤ 100000 by omega)
  have iq := nn_in hq (show n ≤ 100000 by omega)
  unfold f_X_label s_label
  rw [k_chan F n σ p q hn hp hq hpq h.1.1, Option.bind_some, if_neg (by decide), nn_c (by omega), nn_c (by omega), e0.1, e0.2, e1.1, e1.2]
  by_cases h0 : w = 0
  · rw [if_pos h0, if_pos ip, if_pos iq, if_pos h0]
  · rw [if_neg h0, if_neg h0]
    by_cases h1 : w = 1
    · rw [if_pos h1, if_pos ip, if_pos iq, if_pos h1]
    · rw [if_neg h1, if_neg h1]
      by_cases h2 : w = 2
      · rw [if_pos h2, if_pos ip, if_pos iq, if_pos h2]
      · rw [if_neg h2, if_neg h2]
        by_cases h3 : w = 3
        · rw [if_pos h3, if_pos ip, if_pos iq, if_pos h3]
        · rw [if_neg h3, if_neg h3]
theorem k_waiting (hw : gw n g) (h : rc n [] g f σ) {p q : Nat} (hp : p < n) (hq : q < n) (hpq : p ≠ q) : f_X_waiting F n σ (nI p) (nI q) = some (nI (g.2.2.1 p q).length) := by
  have hn := hw.2.1
  unfold f_X_waiting
  rw [k_chan F n σ p q hn hp hq hpq h.1.1, Option.bind_some, if_neg (by decide), k_channelOf F n σ p q hn hp hq h.1.1, Option.bind_some, (h.2.2.1 p q hp hq).1]
  rfl
theorem k_down (hw : gw n g) (h : rc n [] g f σ) {p : Nat} (hp : p < n) : f_X_down F n σ (nI p) = some (nI (g.1 6 p 0)) := by
  have hn := hw.2.1
  have hd := (hw.2.2.2.1 p).1
  unfold f_X_down
  rw [k_proc F n σ p hn hp h.1.1, Option.bind_some, if_neg (by decide), if_pos (nn_in hp (by omega)), nn_c (by omega), (h.1.2.2.2.1 p hp).1]
  rcases (show g.1 6 p 0 = 0 ∨ g.1 6 p 0 = 1 by omega) with e | e <;> rw [e] <;> rfl
theorem k_instance (hw : gw n g) (h : rc n [] g f σ) {p : Nat} (hp : p < n) : f_X_instance F n σ (nI p) = some (nI (g.1 0 p 0)) := by
  have hn := hw.2.1
  unfold f_X_instance
  rw [k_proc F n σ p hn hp h.1.1, Option.bind_some, if_neg (by decide), if_pos (nn_in hp (by omega)), nn_c (by omega), (h.1.2.2.2.1 p hp).2.2.2.1]
  rfl
def s_decision (g : sg) (a : Int32) : Int32 := if a < 1 then -1 else if nI (gInst g) < a then -1 else nI (g.1 4 a.toNatClampNeg 0)
theorem k_decision (hw : gw n g) (h : rc n [] g f σ) (a : Int32) : f_X_decision F n σ a = some (s_decision g a) := by
  have hi : gInst g ≤ 512 := hw.2.2.1
  have e5 : σ 0 0 6 = nI (gInst g) := h.1.2.1
  unfold f_X_decision s_decision
  rw [e5]
  by_cases h1 : a < 1
  · rw [if_pos h1, if_pos h1]; rfl
  · rw [if_neg h1, if_neg h1]
    by_cases h2 : nI (gInst g) < a
    · rw [if_pos h2, if_pos h2]; rfl
    · rw [if_neg h2, if_neg h2]
      have h3 : ∃ j : Nat, j ≤ 512 ∧ a = nI j := by
        have h4 : ¬ a < 0 := fun z => h1 (Int32.lt_trans z (by decide))
        obtain ⟨j, hj, rfl⟩ := nI_of h4
        refine ⟨j, ?_, rfl⟩
        have := Int32.not_lt.mp h2
        have := (nI_leI hj (show gInst g < 2 ^ 31 by omega)).mp this
        omega
      obtain ⟨j, hj, rfl⟩ := h3
      rw [if_pos (nn_in (show j < 513 by omega) (by omega)), nn_c (by omega), (h.1.2.2.1 j hj).2]
      rfl
theorem k_notes (h : rc n [] g f σ) : f_X_notes F n σ = some (nI g.2.2.2.length) := by
  unfold f_X_notes
  have := h.2.2.2.2.2.1
  have this : σ 3 0 2 = nI g.2.2.2.length := this
  rw [this]
def s_times (g : sg) (p : Nat) (w : Int32) : Int32 := if w = 0 then nI (g.1 8 p 0) else if w = 1 then nI (g.1 9 p 0) else -1
theorem k_times (hw : gw n g) (h : rc n [] g f σ) {p : Nat} (hp : p < n) (w : Int32) : f_X_times F n σ (nI p) w = some (s_times g p w) := by
  have hn := hw.2.1
  have ip := nn_in hp (show n ≤ 100000 by omega)
  obtain ⟨B1, B2, B3, -⟩ := h.1.2.2.2.1 p hp
  unfold f_X_times s_times
  rw [k_proc F n σ p hn hp h.1.1, Option.bind_some, if_neg (by decide), nn_c (by omega), B2, B3]
  by_cases h0 : w = 0
  · rw [if_pos h0, if_pos ip, if_pos h0]
  · rw [if_neg h0, if_neg h0]
    by_cases h1 : w = 1
    · rw [if_pos h1, if_pos ip, if_pos h1]
    · rw [if_neg h1, if_neg h1]
end CB
