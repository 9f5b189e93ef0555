/-! the protocol, apart from both programs: who is involved, whose answers are awaited, which notes are under way -/
abbrev pv_N : Type := Nat × Nat × Nat × Nat × Int32
def pv_c (k a b : Nat) (l : List pv_N) : Nat := l.countP (fun m => m.1 == k && m.2.2.1 == a && m.2.2.2.1 == b)
theorem pv_c_nil (k a b : Nat) : pv_c k a b [] = 0 := rfl
theorem pv_c_app (k a b : Nat) (l r : List pv_N) : pv_c k a b (l ++ r) = pv_c k a b l + pv_c k a b r := by
  simp [pv_c]
theorem pv_c_cons (k a b : Nat) (m : pv_N) (l : List pv_N) : pv_c k a b (m :: l) = pv_c k a b l + (if m.1 = k ∧ m.2.2.1 = a ∧ m.2.2.2.1 = b then 1 else 0) := by
  simp [pv_c, List.countP_cons, and_assoc]
theorem pv_c_pos {k a b : Nat} {l : List pv_N} {m : pv_N} (h : m ∈ l) (h1 : m.1 = k) (h2 : m.2.2.1 = a) (h3 : m.2.2.2.1 = b) : 0 < pv_c k a b l := by
  unfold pv_c
  rw [List.countP_pos_iff]
  exact ⟨m, h, by simp [h1, h2, h3]⟩
def pv_op (n : Nat) (U : Nat → Nat → Bool) (q : Nat) : Bool := (List.range n).any (U q)
theorem pv_op_iff {n : Nat} {U : Nat → Nat → Bool} {q : Nat} : pv_op n U q = true ↔ ∃ r, r < n ∧ U q r = true := by
  simp [pv_op]
theorem pv_op_f {n : Nat} {U : Nat → Nat → Bool} {q : Nat} (h : pv_op n U q = false) {r : Nat} (hr : r < n) : U q r = false := by
  cases hu : U q r with
  | false => rfl
  | true => rw [pv_op_iff.mpr ⟨r, hr, hu⟩] at h; cases h
def pv_ow (n : Nat) (I : Nat → Nat) (U : Nat → Nat → Bool) (Pa : Nat → Option Nat) (w p q : Nat) : Bool := (I q != 0) && (Pa q == some p) && (pv_op n U q || q == w)
theorem pv_ow_iff {n : Nat} {I : Nat → Nat} {U : Nat → Nat → Bool} {Pa : Nat → Option Nat} {w p q : Nat} : pv_ow n I U Pa w p q = true ↔ I q ≠ 0 ∧ Pa q = some p ∧ (pv_op n U q = true ∨ q = w) := by
  simp [pv_ow, and_assoc]
def pv_J (n : Nat) (I : Nat → Nat) (C U : Nat → Nat → Bool) (Pa : Nat → Option Nat) (dec : Nat → Bool) (inst w : Nat) (D N : List pv_N) : Prop :=
  (∀ m ∈ D ++ N, m.1 ≤ 2 ∧ m.2.2.1 < n ∧ m.2.2.2.1 < n ∧ m.2.2.1 ≠ m.2.2.2.1 ∧ 1 ≤ m.2.1 ∧ m.2.1 ≤ inst) ∧
  (∀ p q, p < n → q < n → pv_c 0 p q (D ++ N) + pv_c 1 q p (D ++ N) + (pv_ow n I U Pa w p q).toNat = (U p q).toNat) ∧
  (∀ p q, p < n → q < n → U p q = true → C p q = true ∧ p ≠ q ∧ I p ≠ 0) ∧
  (∀ m ∈ D ++ N, (m.1 = 0 → I m.2.2.1 = m.2.1) ∧ (m.1 = 1 → I m.2.2.2.1 = m.2.1) ∧ (m.1 = 2 → dec m.2.1 = true)) ∧
  (∀ p q, p < n → q < n → pv_ow n I U Pa w p q = true → I q = I p) ∧
  (∃ rk : Nat → Nat, ∀ p q, p < n → q < n → pv_ow n I U Pa w p q = true → rk p < rk q) ∧
  (∀ p q, p < n → q < n → I p ≠ 0 → I p = I q → Pa p = none → Pa q = none → p = q) ∧
  (∀ q, q < n → I q ≠ 0 → dec (I q) = true → pv_op n U q = false ∧ q ≠ w) ∧
  ((∀ q, q < n → I q ≤ inst) ∧ (∀ i, dec i = true → i ≤ inst)) ∧
  (∀ q p, q < n → Pa q = some p → I q ≠ 0 → p < n) ∧
  (∀ p q, p < n → q < n → pv_c 2 p q D ≤ 1 ∧ pv_c 2 p q N ≤ 1 ∧ (pv_c 2 p q N ≠ 0 → I p ≠ 0 → C p q = true → pv_c 0 p q N ≠ 0))
def pv_up {α : Type} (f : Nat → α) (p : Nat) (v : α) : Nat → α := fun x => if x = p then v else f x
theorem pv_up_s {α : Type} (f : Nat → α) (p : Nat) (v : α) : pv_up f p v p = v := by simp [pv_up]
theorem pv_up_n {α : Type} (f : Nat → α) {p x : Nat} (v : α) (h : x ≠ p) : pv_up f p v x = f x := by simp [pv_up, h]
theorem pv_op_c {n : Nat} {U U' : Nat → Nat → Bool} {q : Nat} (h : U' q = U q) : pv_op n U' q = pv_op n U q := by simp [pv_op, h]
theorem pv_bf {a b : Nat} (h : ¬ a = b) : (a == b) = false := by simp [h]
theorem pv_tN {b : Bool} (h : b.toNat = 1) : b = true := by cases b <;> simp_all
theorem pv_tZ {b : Bool} (h : b.toNat = 0) : b = false := by cases b <;> simp_all
section PV
variable {n : Nat} {I : Nat → Nat} {C U : Nat → Nat → Bool} {Pa : Nat → Option Nat} {dec : Nat → Bool} {inst : Nat} {D N : List pv_N}
/-- what a request, an answer under way or an owed answer says: it is awaited -/
theorem pv_J.U1 {w : Nat} (h : pv_J n I C U Pa dec inst w D N) {p q : Nat} (hp : p < n) (hq : q < n) (hc : pv_c 0 p q (D ++ N) ≠ 0 ∨ pv_c 1 q p (D ++ N) ≠ 0 ∨ pv_ow n I U Pa w p q = true) : U p q = true := by
  have e := h.2.1 p q hp hq
  cases hu : U p q with
  | true => rfl
  | false =>
    rw [hu] at e
    have e : pv_c 0 p q (D ++ N) + pv_c 1 q p (D ++ N) + (pv_ow n I U Pa w p q).toNat = 0 := e
    rcases hc with hc | hc | hc
    · omega
    · omega
    · rw [hc] at e
      have e : pv_c 0 p q (D ++ N) + pv_c 1 q p (D ++ N) + 1 = 0 := e
      omega
theorem pv_J.open_ {w : Nat} (h : pv_J n I C U Pa dec inst w D N) {m : pv_N} (hm : m ∈ D ++ N) : (m.1 = 0 → U m.2.2.1 m.2.2.2.1 = true) ∧ (m.1 = 1 → U m.2.2.2.1 m.2.2.1 = true) := by
  obtain ⟨h1, h2, h3, h4, h5, h6⟩ := h.1 m hm
  exact ⟨fun e => h.U1 h2 h3 (Or.inl (Nat.pos_iff_ne_zero.mp (pv_c_pos hm e rfl rfl))), fun e => h.U1 h3 h2 (Or.inr (Or.inl (Nat.pos_iff_ne_zero.mp (pv_c_pos hm e rfl rfl))))⟩
/-- one answer is heard -/
theorem pv_ans {i q p : Nat} {x : Int32} {D' : List pv_N} (h : pv_J n I C U Pa dec inst n ((1, i, q, p, x) :: D') N) : U p q = true ∧ I p = i ∧ p < n ∧ q < n ∧ pv_J n I C (pv_up U p (pv_up (U p) q false)) Pa dec inst p D' N := by
  have hm : ((1, i, q, p, x) : pv_N) ∈ ((1, i, q, p, x) :: D') ++ N := by simp
  obtain ⟨-, hq, hp, hqp, hi1, hi2⟩ := h.1 _ hm
  have hq : q < n := hq
  have hp : p < n := hp
  have hqp : q ≠ p := hqp
  have hU : U p q = true := (h.open_ hm).2 rfl
  have hIp : I p = i := (h.2.2.2.1 _ hm).2.1 rfl
  have hsub : ∀ m ∈ D' ++ N, m ∈ ((1, i, q, p, x) :: D') ++ N := fun m hm => by
    rw [List.cons_append]; exact List.mem_cons_of_mem _ hm
  have hopp : pv_op n U p = true := pv_op_iff.mpr ⟨q, hq, hU⟩
  have how : ∀ a b, b < n → pv_ow n I (pv_up U p (pv_up (U p) q false)) Pa p a b = pv_ow n I U Pa n a b := by
    intro a b hb
    by_cases hbp : b = p
    · subst hbp
      simp [pv_ow, hopp]
    · have hbn : b ≠ n := by omega
      have e1 : pv_op n (pv_up U p (pv_up (U p) q false)) b = pv_op n U b := pv_op_c (pv_up_n U _ hbp)
      simp [pv_ow, e1, pv_bf hbp, pv_bf hbn]
  refine ⟨hU, hIp, hp, hq, fun m hm => h.1 m (hsub m hm), fun a b ha hb => ?_, fun a b ha hb hu => ?_, fun m hm => h.2.2.2.1 m (hsub m hm), fun a b ha hb => ?_, ?_, h.2.2.2.2.2.2.1, fun b hb hI hd => ?_, h.2.2.2.2.2.2.2.2.1, h.2.2.2.2.2.2.2.2.2.1, fun a b ha hb => ?_⟩
  · have e := h.2.1 a b ha hb
    simp only [List.cons_append, pv_c_app, pv_c_cons, pv_c_nil] at e ⊢
    rw [how a b hb]
    by_cases hab : a = p ∧ b = q
    · obtain ⟨rfl, rfl⟩ := hab
      rw [pv_up_s, pv_up_s]
      rw [hU] at e
      simp at e
      rw [Bool.toNat_false]
      omega
    · have e2 : pv_up U p (pv_up (U p) q false) a b = U a b := by
        by_cases ha' : a = p
        · subst ha'
          rw [pv_up_s, pv_up_n _ _ (fun z => hab ⟨rfl, z⟩)]
        · rw [pv_up_n _ _ ha']
      rw [e2, ← e]
      have : ¬ (q = b ∧ p = a) := fun z => hab ⟨z.2.symm, z.1.symm⟩
      simp [this]
  · refine h.2.2.1 a b ha hb ?_
    by_cases ha' : a = p
    · subst ha'
      rw [pv_up_s] at hu
      by_cases hb' : b = q
      · subst hb'; rw [pv_up_s] at hu; cases hu
      · rw [pv_up_n _ _ hb'] at hu; exact hu
    · rw [pv_up_n _ _ ha'] at hu; exact hu
  · rw [how a b hb]; exact h.2.2.2.2.1 a b ha hb
  · obtain ⟨rk, hrk⟩ := h.2.2.2.2.2.1
    exact ⟨rk, fun a b ha hb => by rw [how a b hb]; exact hrk a b ha hb⟩
  · obtain ⟨g1, g2⟩ := h.2.2.2.2.2.2.2.1 b hb hI hd
    have hbp : b ≠ p := fun z => by subst z; rw [hopp] at g1; cases g1
    exact ⟨by rw [pv_op_c (pv_up_n U _ hbp)]; exact g1, hbp⟩
  · obtain ⟨g1, g2, g3⟩ := h.2.2.2.2.2.2.2.2.2.2 a b ha hb
    rw [pv_c_cons] at g1
    exact ⟨by omega, g2, g3⟩
/-- a process that has heard all but is still open stays as it is -/
theorem pv_concl_open {p : Nat} (hp : p < n) (h : pv_J n I C U Pa dec inst p D N) (ho : pv_op n U p = true) : pv_J n I C U Pa dec inst n D N := by
  have how : ∀ a b, b < n → pv_ow n I U Pa n a b = pv_ow n I U Pa p a b := by
    intro a b hb
    have hbn : b ≠ n := by omega
    by_cases hbp : b = p
    · subst hbp; simp [pv_ow, ho]
    · simp [pv_ow, pv_bf hbp, pv_bf hbn]
  obtain ⟨h1, h2, h3, h4, h5, ⟨rk, h6⟩, h7, h8, h9, h10, h11⟩ := h
  refine ⟨h1, fun a b ha hb => by rw [how a b hb]; exact h2 a b ha hb, h3, h4, fun a b ha hb => by rw [how a b hb]; exact h5 a b ha hb, ⟨rk, fun a b ha hb => by rw [how a b hb]; exact h6 a b ha hb⟩, h7, fun b hb hI hd => ⟨(h8 b hb hI hd).1, by omega⟩, h9, h10, h11⟩
/-- all answers are in, and there is a parent: it is answered -/
theorem pv_concl_up {p r : Nat} {y : Int32} (hp : p < n) (h : pv_J n I C U Pa dec inst p D N) (ho : pv_op n U p = false) (hI : I p ≠ 0) (hr : Pa p = some r) : r < n ∧ r ≠ p ∧ I r = I p ∧ pv_J n I C U Pa dec inst n D (N ++ [(1, I p, p, r, y)]) := by
  have hrn : r < n := h.2.2.2.2.2.2.2.2.2.1 p r hp hr hI
  have hown : pv_ow n I U Pa p r p = true := pv_ow_iff.mpr ⟨hI, hr, Or.inr rfl⟩
  have hUr : U r p = true := h.U1 hrn hp (Or.inr (Or.inr hown))
  have hne : r ≠ p := (h.2.2.1 r p hrn hp hUr).2.1
  have hIr : I r = I p := (h.2.2.2.2.1 r p hrn hp hown).symm
  have hownew : pv_ow n I U Pa n r p = false := by
    have : p ≠ n := by omega
    simp [pv_ow, ho, this]
  have how : ∀ a b, b < n → ¬ (a = r ∧ b = p) → pv_ow n I U Pa n a b = pv_ow n I U Pa p a b := by
    intro a b hb hab
    have hbn : b ≠ n := by omega
    by_cases hbp : b = p
    · subst hbp
      have e0 : (Pa b == some a) = false := by
        rw [hr]
        simp only [beq_eq_false_iff_ne, ne_eq, Option.some.injEq]
        exact fun z => hab ⟨z.symm, rfl⟩
      simp [pv_ow, e0]
    · simp [pv_ow, pv_bf hbp, pv_bf hbn]
  have hold : ∀ a b, b < n → pv_ow n I U Pa n a b = true → pv_ow n I U Pa p a b = true := by
    intro a b hb hh
    by_cases hab : a = r ∧ b = p
    · obtain ⟨rfl, rfl⟩ := hab; exact hown
    · rw [← how a b hb hab]; exact hh
  obtain ⟨h1, h2, h3, h4, h5, ⟨rk, h6⟩, h7, h8, h9, h10, h11⟩ := h
  refine ⟨hrn, hne, hIr, fun m hm => ?_, fun a b ha hb => ?_, h3, fun m hm => ?_, fun a b ha hb hh => h5 a b ha hb (hold a b hb hh), ⟨rk, fun a b ha hb hh => h6 a b ha hb (hold a b hb hh)⟩, h7, fun b hb hI' hd => ⟨(h8 b hb hI' hd).1, by omega⟩, h9, h10, fun a b ha hb => ?_⟩
  · rw [← List.append_assoc] at hm
    rcases List.mem_append.mp hm with hm | hm
    · exact h1 m hm
    · rw [List.mem_singleton.mp hm]
      exact ⟨show 1 ≤ 2 by decide, hp, hrn, hne.symm, by show 1 ≤ I p; omega, h9.1 p hp⟩
  · have e := h2 a b ha hb
    simp only [pv_c_app, pv_c_cons, pv_c_nil] at e ⊢
    by_cases hab : a = r ∧ b = p
    · obtain ⟨rfl, rfl⟩ := hab
      rw [hown] at e
      rw [hownew]
      simp at e ⊢
      omega
    · rw [how a b hb hab, ← e]
      have : ¬ (p = b ∧ r = a) := fun z => hab ⟨z.2.symm, z.1.symm⟩
      simp [this]
  · rw [← List.append_assoc] at hm
    rcases List.mem_append.mp hm with hm | hm
    · exact h4 m hm
    · rw [List.mem_singleton.mp hm]
      exact ⟨fun z => (by cases z), fun _ => hIr, fun z => (by cases z)⟩
  · obtain ⟨g1, g2, g3⟩ := h11 a b ha hb
    simp only [pv_c_app, pv_c_cons, pv_c_nil]
    simp
    refine ⟨g1, g2, fun z1 z2 z3 => ?_⟩
    exact g3 z1 z2 z3
/-- what a process sends to those of its cohort -/
def pv_sends (n k i p : Nat) (c : Nat → Bool) (x : Nat → Int32) : List pv_N := ((List.range n).filter c).map (fun q => (k, i, p, q, x q))
theorem pv_sends_mem {n k i p : Nat} {c : Nat → Bool} {x : Nat → Int32} {m : pv_N} : m ∈ pv_sends n k i p c x ↔ ∃ q, q < n ∧ c q = true ∧ m = (k, i, p, q, x q) := by
  simp only [pv_sends, List.mem_map, List.mem_filter, List.mem_range]
  constructor
  · rintro ⟨q, ⟨h1, h2⟩, h3⟩
    exact ⟨q, h1, h2, h3.symm⟩
  · rintro ⟨q, h1, h2, h3⟩
    exact ⟨q, ⟨h1, h2⟩, h3.symm⟩
theorem pv_sends_c (n k i p : Nat) (c : Nat → Bool) (x : Nat → Int32) (k' a b : Nat) : pv_c k' a b (pv_sends n k i p c x) = if k = k' ∧ p = a ∧ b < n ∧ c b = true then 1 else 0 := by
  induction n with
  | zero => simp [pv_sends, pv_c]
  | succ n ih =>
    have e : pv_sends (n + 1) k i p c x = pv_sends n k i p c x ++ (if c n = true then [(k, i, p, n, x n)] else []) := by
      unfold pv_sends
      rw [List.range_succ, List.filter_append, List.map_append]
      by_cases hc : c n = true
      · simp [hc]
      · simp [hc]
    rw [e, pv_c_app, ih]
    by_cases hc : c n = true
    · rw [if_pos hc, pv_c_cons, pv_c_nil]
      by_cases hb : b = n
      · subst hb
        simp [hc]
      · have : b < n + 1 ↔ b < n := by omega
        have h2 : n ≠ b := fun z => hb z.symm
        simp [this, h2]
    · rw [if_neg hc, pv_c_nil]
      by_cases hb : b = n
      · subst hb
        simp [hc]
      · have : b < n + 1 ↔ b < n := by omega
        simp [this]
end PV
