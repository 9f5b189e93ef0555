/-! the reference's logs -/
def l_v (e3 e4 e6 : Nat → Int32) (p : Nat) : Nat → Int32
  | 0 => 0
  | k + 1 => if e3 (512 * p + k) = 0 then 31 * l_v e3 e4 e6 p k + e4 (512 * p + k) else if e3 (512 * p + k) = 2 then 17 * l_v e3 e4 e6 p k + e6 (512 * p + k) + 1 else l_v e3 e4 e6 p k
def l_s (e3 e4 : Nat → Int32) (p q : Nat) : Nat → Nat
  | 0 => 0
  | k + 1 => l_s e3 e4 p q k + (if e3 (512 * p + k) = 1 ∧ e4 (512 * p + k) = nI q then 1 else 0)
def l_r (e3 e4 e5 : Nat → Int32) (p q : Nat) : Nat → Int32
  | 0 => 0
  | k + 1 => if e3 (512 * p + k) = 2 ∧ e4 (512 * p + k) = nI q then e5 (512 * p + k) else l_r e3 e4 e5 p q k
theorem l_s_le (e3 e4 : Nat → Int32) (p q : Nat) : ∀ k, l_s e3 e4 p q k ≤ k := by
  intro k
  induction k with
  | zero => exact Nat.le_refl _
  | succ k ih =>
    rw [l_s]
    split <;> omega
theorem l_s_mono (e3 e4 : Nat → Int32) (p q : Nat) {a b : Nat} (h : a ≤ b) : l_s e3 e4 p q a ≤ l_s e3 e4 p q b := by
  induction b with
  | zero => have : a = 0 := by omega
            subst this; exact Nat.le_refl _
  | succ b ih =>
    by_cases hab : a = b + 1
    · subst hab; exact Nat.le_refl _
    · have := ih (by omega)
      rw [l_s]
      omega
theorem l_512 (p m : Nat) : (512 : Int32) * nI p + nI m = nI (512 * p + m) := by
  rw [show (512 : Int32) = nI 512 from rfl, pk_mul, nI_add]
theorem r_value_l (F n p m : Nat) (ρ : mm_M) (hp : p < 5) (hm : m ≤ 512) : ∀ (r k K : Nat), k + r = m → r < K →
    f_R_valueAt_l9 F n ρ (nI p) (nI m) K (l_v (ρ 3 0) (ρ 4 0) (ρ 6 0) p k) (nI (512 * p + k)) = some (l_v (ρ 3 0) (ρ 4 0) (ρ 6 0) p m) := by
  intro r
  induction r with
  | zero =>
    intro k K hk hK
    obtain ⟨K, rfl⟩ : ∃ K', K = K' + 1 := ⟨K - 1, by omega⟩
    have hk : k = m := by omega
    subst hk
    rw [f_R_valueAt_l9, l_512, if_pos ((nn_le (by omega) (by omega)).mpr (by omega))]
  | succ r ih =>
    intro k K hk hK
    obtain ⟨K, rfl⟩ : ∃ K', K = K' + 1 := ⟨K - 1, by omega⟩
    rw [f_R_valueAt_l9, l_512, if_neg (by rw [nn_le (by omega) (by omega)]; omega), if_pos (nn_in (show 512 * p + k < 2560 by omega) (by omega)), nn_c (by omega)]
    have e : (if ρ 3 0 (512 * p + k) = (0 : Int32) then some ((31 : Int32) * l_v (ρ 3 0) (ρ 4 0) (ρ 6 0) p k + ρ 4 0 (512 * p + k)) else if ρ 3 0 (512 * p + k) = (2 : Int32) then some ((17 : Int32) * l_v (ρ 3 0) (ρ 4 0) (ρ 6 0) p k + ρ 6 0 (512 * p + k) + (1 : Int32)) else some (l_v (ρ 3 0) (ρ 4 0) (ρ 6 0) p k)) = some (l_v (ρ 3 0) (ρ 4 0) (ρ 6 0) p (k + 1)) := by
      rw [l_v]
      split
      · rfl
      · split <;> rfl
    rw [e, Option.bind_some, nI_1]
    exact ih (k + 1) K (by omega) (by omega)
theorem r_value (F n p m : Nat) (ρ : mm_M) (hF : 1000 ≤ F) (hp : p < 5) (hm : m ≤ 512) : f_R_valueAt F n ρ (nI p) (nI m) = some (l_v (ρ 3 0) (ρ 4 0) (ρ 6 0) p m) := by
  unfold f_R_valueAt
  have h := r_value_l F n p m ρ hp hm m 0 F (by omega) (by omega)
  have e : (512 : Int32) * nI p = nI (512 * p + 0) := by rw [show (512 : Int32) = nI 512 from rfl, pk_mul]; rfl
  have h : f_R_valueAt_l9 F n ρ (nI p) (nI m) F (0 : Int32) (nI (512 * p + 0)) = _ := h
  rw [e, h]
  rfl
theorem r_sent_l (F n p q m : Nat) (ρ : mm_M) (hp : p < 5) (hm : m ≤ 512) : ∀ (r k K : Nat), k + r = m → r < K →
    f_R_sentAt_l10 F n ρ (nI p) (nI q) (nI m) K (nI (l_s (ρ 3 0) (ρ 4 0) p q k)) (nI (512 * p + k)) = some (nI (l_s (ρ 3 0) (ρ 4 0) p q m)) := by
  intro r
  induction r with
  | zero =>
    intro k K hk hK
    obtain ⟨K, rfl⟩ : ∃ K', K = K' + 1 := ⟨K - 1, by omega⟩
    have hk : k = m := by omega
    subst hk
    rw [f_R_sentAt_l10, l_512, if_pos ((nn_le (by omega) (by omega)).mpr (by omega))]
  | succ r ih =>
    intro k K hk hK
    obtain ⟨K, rfl⟩ : ∃ K', K = K' + 1 := ⟨K - 1, by omega⟩
    rw [f_R_sentAt_l10, l_512, if_neg (by rw [nn_le (by omega) (by omega)]; omega), if_pos (nn_in (show 512 * p + k < 2560 by omega) (by omega)), nn_c (by omega)]
    have e : (if ρ 3 0 (512 * p + k) = (1 : Int32) then if ρ 4 0 (512 * p + k) = nI q then some (1 : Int32) else some (0 : Int32) else some (0 : Int32)) = some (nI (if ρ 3 0 (512 * p + k) = 1 ∧ ρ 4 0 (512 * p + k) = nI q then 1 else 0)) := by
      by_cases h1 : ρ 3 0 (512 * p + k) = (1 : Int32)
      · by_cases h2 : ρ 4 0 (512 * p + k) = nI q
        · rw [if_pos h1, if_pos h2, if_pos ⟨h1, h2⟩]; rfl
        · rw [if_pos h1, if_neg h2, if_neg (fun z => h2 z.2)]; rfl
      · rw [if_neg h1, if_neg (fun z => h1 z.1)]; rfl
    rw [e, Option.bind_some, nI_1, nI_add]
    exact ih (k + 1) K (by omega) (by omega)
theorem r_sent (F n p q m : Nat) (ρ : mm_M) (hF : 1000 ≤ F) (hp : p < 5) (hm : m ≤ 512) : f_R_sentAt F n ρ (nI p) (nI q) (nI m) = some (nI (l_s (ρ 3 0) (ρ 4 0) p q m)) := by
  unfold f_R_sentAt
  have h := r_sent_l F n p q m ρ hp hm m 0 F (by omega) (by omega)
  have e : (512 : Int32) * nI p = nI (512 * p + 0) := by rw [show (512 : Int32) = nI 512 from rfl, pk_mul]; rfl
  have h : f_R_sentAt_l10 F n ρ (nI p) (nI q) (nI m) F (0 : Int32) (nI (512 * p + 0)) = _ := h
  rw [e, h]
  rfl
theorem r_recv_l (F n p q m : Nat) (ρ : mm_M) (hp : p < 5) (hm : m ≤ 512) : ∀ (r k K : Nat), k + r = m → r < K →
    f_R_receivedAt_l10 F n ρ (nI p) (nI q) (nI m) K (l_r (ρ 3 0) (ρ 4 0) (ρ 5 0) p q k) (nI (512 * p + k)) = some (l_r (ρ 3 0) (ρ 4 0) (ρ 5 0) p q m) := by
  intro r
  induction r with
  | zero =>
    intro k K hk hK
    obtain ⟨K, rfl⟩ : ∃ K', K = K' + 1 := ⟨K - 1, by omega⟩
    have hk : k = m := by omega
    subst hk
    rw [f_R_receivedAt_l10, l_512, if_pos ((nn_le (by omega) (by omega)).mpr (by omega))]
  | succ r ih =>
    intro k K hk hK
    obtain ⟨K, rfl⟩ : ∃ K', K = K' + 1 := ⟨K - 1, by omega⟩
    rw [f_R_receivedAt_l10, l_512, if_neg (by rw [nn_le (by omega) (by omega)]; omega), if_pos (nn_in (show 512 * p + k < 2560 by omega) (by omega)), nn_c (by omega)]
    have e : (if ρ 3 0 (512 * p + k) = (2 : Int32) then if ρ 4 0 (512 * p + k) = nI q then some (ρ 5 0 (512 * p + k)) else some (l_r (ρ 3 0) (ρ 4 0) (ρ 5 0) p q k) else some (l_r (ρ 3 0) (ρ 4 0) (ρ 5 0) p q k)) = some (l_r (ρ 3 0) (ρ 4 0) (ρ 5 0) p q (k + 1)) := by
      rw [l_r]
      by_cases h1 : ρ 3 0 (512 * p + k) = (2 : Int32)
      · by_cases h2 : ρ 4 0 (512 * p + k) = nI q
        · rw [if_pos h1, if_pos h2, if_pos ⟨h1, h2⟩]
        · rw [if_pos h1, if_neg h2, if_neg (fun z => h2 z.2)]
      · rw [if_neg h1, if_neg (fun z => h1 z.1)]
    rw [e, Option.bind_some, nI_1]
    exact ih (k + 1) K (by omega) (by omega)
theorem r_recv (F n p q m : Nat) (ρ : mm_M) (hF : 1000 ≤ F) (hp : p < 5) (hm : m ≤ 512) : f_R_receivedAt F n ρ (nI p) (nI q) (nI m) = some (l_r (ρ 3 0) (ρ 4 0) (ρ 5 0) p q m) := by
  unfold f_R_receivedAt
  have h := r_recv_l F n p q m ρ hp hm m 0 F (by omega) (by omega)
  have e : (512 : Int32) * nI p = nI (512 * p + 0) := by rw [show (512 : Int32) = nI 512 from rfl, pk_mul]; rfl
  have h : f_R_receivedAt_l10 F n ρ (nI p) (nI q) (nI m) F (0 : Int32) (nI (512 * p + 0)) = _ := h
  rw [e, h]
  rfl
theorem r_with_l (F n p q ln j w : Nat) (ρ : mm_M) (hp : p < 5) (hl : ln ≤ 512) (h2 : ρ 2 0 p = nI ln) (hj : j < ln) (h3 : ρ 3 0 (512 * p + j) = 1) (h4 : ρ 4 0 (512 * p + j) = nI q) (hw : l_s (ρ 3 0) (ρ 4 0) p q j + 1 = w) :
    ∀ (r k K : Nat) (v : Int32), k + r = j → r + 2 ≤ K → f_R_sentWith_l9 F n ρ (nI p) (nI q) (nI w) K v (nI (l_s (ρ 3 0) (ρ 4 0) p q k)) (nI k) = some (nI j) := by
  have hjs := l_s_le (ρ 3 0) (ρ 4 0) p q j
  intro r
  induction r with
  | zero =>
    intro k K v hk hK
    obtain ⟨K, rfl⟩ : ∃ K', K = K' + 1 + 1 := ⟨K - 2, by omega⟩
    have hk : k = j := by omega
    subst hk
    rw [f_R_sentWith_l9, if_pos (nn_in hp (by omega)), nn_c (by omega), h2, if_neg (by rw [nn_le (by omega) (by omega)]; omega), if_neg (by rw [nn_le (by omega) (by omega)]; omega), l_512, if_pos (nn_in (show 512 * p + k < 2560 by omega) (by omega)), nn_c (by omega), if_pos h3, if_pos h4, Option.bind_some, nI_1, nI_1, hw]
    rw [f_R_sentWith_l9, if_pos (nn_in hp (by omega)), nn_c (by omega), h2]
    by_cases h5 : nI ln ≤ nI (k + 1)
    · rw [if_pos h5]
    · rw [if_neg h5, if_pos ((nn_le (by omega) (by omega)).mpr (by omega))]
  | succ r ih =>
    intro k K v hk hK
    obtain ⟨K, rfl⟩ : ∃ K', K = K' + 1 := ⟨K - 1, by omega⟩
    have hks := l_s_mono (ρ 3 0) (ρ 4 0) p q (show k ≤ j by omega)
    rw [f_R_sentWith_l9, if_pos (nn_in hp (by omega)), nn_c (by omega), h2, if_neg (by rw [nn_le (by omega) (by omega)]; omega), if_neg (by rw [nn_le (by omega) (by omega)]; omega), l_512, if_pos (nn_in (show 512 * p + k < 2560 by omega) (by omega)), nn_c (by omega)]
    have e : (if ρ 3 0 (512 * p + k) = (1 : Int32) then if ρ 4 0 (512 * p + k) = nI q then some (1 : Int32) else some (0 : Int32) else some (0 : Int32)) = some (nI (if ρ 3 0 (512 * p + k) = 1 ∧ ρ 4 0 (512 * p + k) = nI q then 1 else 0)) := by
      by_cases h1 : ρ 3 0 (512 * p + k) = (1 : Int32)
      · by_cases h2 : ρ 4 0 (512 * p + k) = nI q
        · rw [if_pos h1, if_pos h2, if_pos ⟨h1, h2⟩]; rfl
        · rw [if_pos h1, if_neg h2, if_neg (fun z => h2 z.2)]; rfl
      · rw [if_neg h1, if_neg (fun z => h1 z.1)]; rfl
    rw [e, Option.bind_some, nI_1, nI_add]
    exact ih (k + 1) K (nI k) (by omega) (by omega)
theorem r_with (F n p q ln j w : Nat) (ρ : mm_M) (hF : 1000 ≤ F) (hp : p < 5) (hl : ln ≤ 512) (h2 : ρ 2 0 p = nI ln) (hj : j < ln) (h3 : ρ 3 0 (512 * p + j) = 1) (h4 : ρ 4 0 (512 * p + j) = nI q) (hw : l_s (ρ 3 0) (ρ 4 0) p q j + 1 = w) :
    f_R_sentWith F n ρ (nI p) (nI q) (nI w) = some (l_v (ρ 3 0) (ρ 4 0) (ρ 6 0) p j) := by
  unfold f_R_sentWith
  have h := r_with_l F n p q ln j w ρ hp hl h2 hj h3 h4 hw j 0 F (nI 0) (by omega) (by omega)
  have h : f_R_sentWith_l9 F n ρ (nI p) (nI q) (nI w) F (0 : Int32) (0 : Int32) (0 : Int32) = _ := h
  rw [h, Option.bind_some, r_value F n p j ρ hF hp (by omega)]
  rfl
theorem l_v_c {e3 e4 e6 e3' e4' e6' : Nat → Int32} {p : Nat} : ∀ m, (∀ k, k < m → e3' (512 * p + k) = e3 (512 * p + k) ∧ e4' (512 * p + k) = e4 (512 * p + k) ∧ e6' (512 * p + k) = e6 (512 * p + k)) → l_v e3' e4' e6' p m = l_v e3 e4 e6 p m := by
  intro m
  induction m with
  | zero => intro _; rfl
  | succ m ih =>
    intro h
    obtain ⟨h1, h2, h3⟩ := h m (by omega)
    rw [l_v, l_v, ih (fun k hk => h k (by omega)), h1, h2, h3]
theorem l_s_c {e3 e4 e3' e4' : Nat → Int32} {p q : Nat} : ∀ m, (∀ k, k < m → e3' (512 * p + k) = e3 (512 * p + k) ∧ e4' (512 * p + k) = e4 (512 * p + k)) → l_s e3' e4' p q m = l_s e3 e4 p q m := by
  intro m
  induction m with
  | zero => intro _; rfl
  | succ m ih =>
    intro h
    obtain ⟨h1, h2⟩ := h m (by omega)
    rw [l_s, l_s, ih (fun k hk => h k (by omega)), h1, h2]
theorem l_r_c {e3 e4 e5 e3' e4' e5' : Nat → Int32} {p q : Nat} : ∀ m, (∀ k, k < m → e3' (512 * p + k) = e3 (512 * p + k) ∧ e4' (512 * p + k) = e4 (512 * p + k) ∧ e5' (512 * p + k) = e5 (512 * p + k)) → l_r e3' e4' e5' p q m = l_r e3 e4 e5 p q m := by
  intro m
  induction m with
  | zero => intro _; rfl
  | succ m ih =>
    intro h
    obtain ⟨h1, h2, h3⟩ := h m (by omega)
    rw [l_r, l_r, ih (fun k hk => h k (by omega)), h1, h2, h3]
/-! sets of processes as bits -/
def bm : Nat → (Nat → Bool) → Nat
  | 0, _ => 0
  | k + 1, c => bm k c + (if c k then 2 ^ k else 0)
theorem bm_c {n : Nat} {c d : Nat → Bool} (h : ∀ q, q < n → c q = d q) : bm n c = bm n d := by
  induction n with
  | zero => rfl
  | succ n ih => rw [bm, bm, ih (fun q hq => h q (by omega)), h n (by omega)]
theorem bm_lt (n : Nat) (c : Nat → Bool) : bm n c < 2 ^ n := by
  induction n with
  | zero => exact Nat.one_pos
  | succ n ih =>
    rw [bm, Nat.pow_succ]
    split <;> omega
theorem bm_bit (n : Nat) (c : Nat → Bool) {q : Nat} : (bm n c).testBit q = (decide (q < n) && c q) := by
  induction n with
  | zero => simp [bm]
  | succ n ih =>
    have hlt := bm_lt n c
    rw [bm]
    by_cases hc : c n = true
    · rw [if_pos hc, Nat.add_comm]
      by_cases hq : q = n
      · subst hq
        rw [Nat.testBit_two_pow_add_eq, Nat.testBit_lt_two_pow hlt]
        simp [hc]
      · by_cases hlt2 : q < n
        · rw [Nat.testBit_two_pow_add_gt hlt2, ih]
          have : q < n + 1 := by omega
          simp [hlt2, this]
        · have h1 : 2 ^ n + bm n c < 2 ^ q := by
            have : 2 ^ (n + 1) ≤ 2 ^ q := Nat.pow_le_pow_right (by decide) (by omega)
            rw [Nat.pow_succ] at this
            omega
          rw [Nat.testBit_lt_two_pow h1]
          have : ¬ q < n + 1 := by omega
          simp [this]
    · rw [if_neg hc, Nat.add_zero, ih]
      by_cases hq : q = n
      · subst hq
        simp [hc]
      · have : q < n + 1 ↔ q < n := by omega
        simp [this]
theorem bm_or {n : Nat} (c : Nat → Bool) {q : Nat} (hq : q < n) : bm n c ||| 2 ^ q = bm n (fun r => c r || r == q) := by
  apply Nat.eq_of_testBit_eq
  intro i
  rw [Nat.testBit_or, bm_bit, bm_bit, Nat.testBit_two_pow]
  by_cases hi : q = i
  · subst hi
    simp [hq]
  · have : i ≠ q := fun z => hi z.symm
    simp [hi, pv_bf this]
theorem bm_eq {n : Nat} {c d : Nat → Bool} : bm n c = bm n d ↔ ∀ q, q < n → c q = d q := by
  constructor
  · intro h q hq
    have e1 := bm_bit n c (q := q)
    have e2 := bm_bit n d (q := q)
    rw [h, e2] at e1
    simpa [hq] using e1.symm
  · exact bm_c
theorem i_or : ∀ m, m < 32 → ∀ q, q < 5 → nI m ||| ((1 : Int32) <<< (nI q &&& 31)) = nI (m ||| 2 ^ q) := by decide +kernel
theorem i_bit : ∀ m, m < 32 → ∀ q, q < 5 → ((((nI m) >>> (nI q &&& 31)) &&& (1 : Int32)) = (1 : Int32) ↔ m.testBit q = true) := by decide +kernel
theorem bm_32 {n : Nat} (hn : n ≤ 5) (c : Nat → Bool) : bm n c < 32 := Nat.lt_of_lt_of_le (bm_lt n c) (Nat.pow_le_pow_right (by decide) hn)
