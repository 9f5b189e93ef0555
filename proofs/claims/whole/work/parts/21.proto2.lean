section PW
variable {n : Nat} {I : Nat → Nat} {C U : Nat → Nat → Bool} {Pa : Nat → Option Nat} {dec : Nat → Bool} {inst : Nat} {D N : List pv_N}
/-- a process follows a decision: it sends it on and leaves -/
theorem pv_follow {w p : Nat} {x : Nat → Int32} {dec' : Nat → Bool} (hp : p < n) (h : pv_J n I C U Pa dec inst w D N) (ho : pv_op n U p = false) (hI : I p ≠ 0) (hC : C p p = false)
    (hw : ∀ b, b < n → b ≠ p → b ≠ w) (hx : ∀ a, pv_ow n I U Pa w a p = false)
    (hd1 : ∀ j, dec j = true → dec' j = true) (hd2 : dec' (I p) = true) (hd3 : ∀ j, dec' j = true → dec j = true ∨ j = I p) (hd4 : ∀ q, q < n → q ≠ p → I q = I p → pv_op n U q = false) :
    pv_J n (pv_up I p 0) C U Pa dec' inst n D (N ++ pv_sends n 2 (I p) p (C p) x) := by
  have how : ∀ a b, b < n → pv_ow n (pv_up I p 0) U Pa n a b = pv_ow n I U Pa w a b := by
    intro a b hb
    have hbn : b ≠ n := by omega
    by_cases hbp : b = p
    · subst hbp
      rw [hx a]
      simp [pv_ow, pv_up_s]
    · have := hw b hb hbp
      simp [pv_ow, pv_up_n I 0 hbp, pv_bf hbn, pv_bf this]
  have hUp : ∀ q, q < n → U p q = false := fun q hq => pv_op_f ho hq
  have hout : ∀ m ∈ D ++ N, (m.1 = 0 → m.2.2.1 ≠ p) ∧ (m.1 = 1 → m.2.2.2.1 ≠ p) := by
    intro m hm
    obtain ⟨-, g2, g3, -⟩ := h.1 m hm
    obtain ⟨o1, o2⟩ := h.open_ hm
    refine ⟨fun e z => ?_, fun e z => ?_⟩
    · have := o1 e
      rw [z, hUp _ g3] at this
      cases this
    · have := o2 e
      rw [z, hUp _ g2] at this
      cases this
  have hpar : ∀ b, b < n → pv_ow n I U Pa w p b = false := by
    intro b hb
    cases hh : pv_ow n I U Pa w p b with
    | false => rfl
    | true => have := h.U1 hp hb (Or.inr (Or.inr hh)); rw [hUp b hb] at this; cases this
  have hnone : ∀ q, q < n → C p q = true → pv_c 2 p q N = 0 := by
    intro q hq hc
    by_cases z : pv_c 2 p q N = 0
    · exact z
    · have z2 := (h.2.2.2.2.2.2.2.2.2.2 p q hp hq).2.2 z hI hc
      have : U p q = true := h.U1 hp hq (Or.inl (by rw [pv_c_app]; omega))
      rw [hUp q hq] at this
      cases this
  obtain ⟨h1, h2, h3, h4, h5, ⟨rk, h6⟩, h7, h8, h9, h10, h11⟩ := h
  refine ⟨fun m hm => ?_, fun a b ha hb => ?_, fun a b ha hb hu => ?_, fun m hm => ?_, fun a b ha hb hh => ?_, ⟨rk, fun a b ha hb hh => h6 a b ha hb (by rw [← how a b hb]; exact hh)⟩, fun a b ha hb hIa hab hpa hpb => ?_, fun b hb hIb hdb => ?_, ⟨fun b hb => ?_, fun j hj => ?_⟩, fun b a hb hpa hIb => ?_, fun a b ha hb => ?_⟩
  · rw [← List.append_assoc] at hm
    rcases List.mem_append.mp hm with hm | hm
    · exact h1 m hm
    · obtain ⟨q, hq, hc, rfl⟩ := pv_sends_mem.mp hm
      refine ⟨show 2 ≤ 2 by decide, hp, hq, fun z => ?_, by show 1 ≤ I p; omega, h9.1 p hp⟩
      have z : p = q := z
      subst z
      rw [hC] at hc
      cases hc
  · rw [how a b hb, ← h2 a b ha hb]
    simp only [pv_c_app, pv_sends_c]
    simp
  · obtain ⟨g1, g2, g3⟩ := h3 a b ha hb hu
    have hap : a ≠ p := fun z => by subst z; rw [hUp b hb] at hu; cases hu
    exact ⟨g1, g2, by rw [pv_up_n I 0 hap]; exact g3⟩
  · rw [← List.append_assoc] at hm
    rcases List.mem_append.mp hm with hm | hm
    · obtain ⟨g1, g2, g3⟩ := h4 m hm
      obtain ⟨o1, o2⟩ := hout m hm
      exact ⟨fun e => by rw [pv_up_n I 0 (o1 e)]; exact g1 e, fun e => by rw [pv_up_n I 0 (o2 e)]; exact g2 e, fun e => hd1 _ (g3 e)⟩
    · obtain ⟨q, hq, hc, rfl⟩ := pv_sends_mem.mp hm
      exact ⟨fun e => (by cases e), fun e => (by cases e), fun _ => hd2⟩
  · rw [how a b hb] at hh
    have hap : a ≠ p := fun z => by subst z; rw [hpar b hb] at hh; cases hh
    have hbp : b ≠ p := fun z => by subst z; rw [hx a] at hh; cases hh
    rw [pv_up_n I 0 hap, pv_up_n I 0 hbp]
    exact h5 a b ha hb hh
  · have hap : a ≠ p := fun z => by subst z; rw [pv_up_s] at hIa; exact hIa rfl
    rw [pv_up_n I 0 hap] at hIa hab
    have hbp : b ≠ p := fun z => by subst z; rw [pv_up_s] at hab; exact hIa hab
    rw [pv_up_n I 0 hbp] at hab
    exact h7 a b ha hb hIa hab hpa hpb
  · have hbp : b ≠ p := fun z => by subst z; rw [pv_up_s] at hIb; exact hIb rfl
    rw [pv_up_n I 0 hbp] at hIb hdb
    refine ⟨?_, by omega⟩
    rcases hd3 _ hdb with g | g
    · exact (h8 b hb hIb g).1
    · exact hd4 b hb hbp g
  · by_cases hbp : b = p
    · subst hbp; rw [pv_up_s]; exact Nat.zero_le _
    · rw [pv_up_n I 0 hbp]; exact h9.1 b hb
  · rcases hd3 _ hj with g | g
    · exact h9.2 j g
    · rw [g]; exact h9.1 p hp
  · have hbp : b ≠ p := fun z => by subst z; rw [pv_up_s] at hIb; exact hIb rfl
    rw [pv_up_n I 0 hbp] at hIb
    exact h10 b a hb hpa hIb
  · obtain ⟨g1, g2, g3⟩ := h11 a b ha hb
    have e2 : pv_c 2 a b (N ++ pv_sends n 2 (I p) p (C p) x) = pv_c 2 a b N + (if p = a ∧ C p b = true then 1 else 0) := by
      rw [pv_c_app, pv_sends_c]
      simp [hb]
    have e0 : pv_c 0 a b (N ++ pv_sends n 2 (I p) p (C p) x) = pv_c 0 a b N := by
      rw [pv_c_app, pv_sends_c]
      simp
    rw [e2, e0]
    refine ⟨g1, ?_, fun z1 z2 z3 => ?_⟩
    · by_cases hap : p = a ∧ C p b = true
      · rw [if_pos hap]
        obtain ⟨rfl, hc⟩ := hap
        rw [hnone b hb hc]
        exact Nat.le_refl _
      · rw [if_neg hap]
        exact g2
    · have hap : a ≠ p := fun z => by subst z; rw [pv_up_s] at z2; exact z2 rfl
      rw [pv_up_n I 0 hap] at z2
      rw [if_neg (fun z => hap z.1.symm)] at z1
      exact g3 z1 z2 z3
/-- no one of an instance is open when its root has all answers -/
theorem pv_closed {w p : Nat} (hp : p < n) (h : pv_J n I C U Pa dec inst w D N) (ho : pv_op n U p = false) (hI : I p ≠ 0) (hr : Pa p = none) : ∀ q, q < n → I q = I p → pv_op n U q = false := by
  obtain ⟨rk, h6⟩ := h.2.2.2.2.2.1
  have key : ∀ k q, q < n → rk q ≤ k → I q = I p → pv_op n U q = true → False := by
    intro k
    induction k with
    | zero =>
      intro q hq hk hIq hoq
      cases hpq : Pa q with
      | none =>
        have := h.2.2.2.2.2.2.1 q p hq hp (by rw [hIq]; exact hI) hIq hpq hr
        subst this
        rw [ho] at hoq; cases hoq
      | some r =>
        have hIq0 : I q ≠ 0 := by rw [hIq]; exact hI
        have hrn := h.2.2.2.2.2.2.2.2.2.1 q r hq hpq hIq0
        have hw := (pv_ow_iff (w := w)).mpr ⟨hIq0, hpq, Or.inl hoq⟩
        have := h6 r q hrn hq hw
        omega
    | succ k ih =>
      intro q hq hk hIq hoq
      cases hpq : Pa q with
      | none =>
        have := h.2.2.2.2.2.2.1 q p hq hp (by rw [hIq]; exact hI) hIq hpq hr
        subst this
        rw [ho] at hoq; cases hoq
      | some r =>
        have hIq0 : I q ≠ 0 := by rw [hIq]; exact hI
        have hrn := h.2.2.2.2.2.2.2.2.2.1 q r hq hpq hIq0
        have hw := (pv_ow_iff (w := w)).mpr ⟨hIq0, hpq, Or.inl hoq⟩
        have hlt := h6 r q hrn hq hw
        have hIr := h.2.2.2.2.1 r q hrn hq hw
        have hu := h.U1 hrn hq (Or.inr (Or.inr hw))
        exact ih r hrn (by omega) (by rw [← hIr]; exact hIq) (pv_op_iff.mpr ⟨q, hq, hu⟩)
  intro q hq hIq
  cases hoq : pv_op n U q with
  | false => rfl
  | true => exact (key (rk q) q hq (Nat.le_refl _) hIq hoq).elim
/-- the root decides -/
theorem pv_root {p : Nat} {x : Nat → Int32} (hp : p < n) (h : pv_J n I C U Pa dec inst p D N) (ho : pv_op n U p = false) (hI : I p ≠ 0) (hr : Pa p = none) (hC : C p p = false) :
    pv_J n (pv_up I p 0) C U Pa (pv_up dec (I p) true) inst n D (N ++ pv_sends n 2 (I p) p (C p) x) := by
  refine pv_follow hp h ho hI hC (fun b _ hb => hb) (fun a => ?_) (fun j hj => ?_) (pv_up_s _ _ _) (fun j hj => ?_) (fun q hq _ hIq => pv_closed hp h ho hI hr q hq hIq)
  · simp [pv_ow, hr]
  · by_cases hji : j = I p
    · rw [hji, pv_up_s]
    · rw [pv_up_n _ _ hji]; exact hj
  · by_cases hji : j = I p
    · exact Or.inr hji
    · rw [pv_up_n _ _ hji] at hj; exact Or.inl hj
/-- a decision is heard by one of its instance -/
theorem pv_dec {p : Nat} {x : Nat → Int32} (hp : p < n) (h : pv_J n I C U Pa dec inst n D N) (hI : I p ≠ 0) (hd : dec (I p) = true) (hC : C p p = false) :
    pv_op n U p = false ∧ pv_J n (pv_up I p 0) C U Pa dec inst n D (N ++ pv_sends n 2 (I p) p (C p) x) := by
  have h8 := h.2.2.2.2.2.2.2.1
  have ho := (h8 p hp hI hd).1
  refine ⟨ho, pv_follow hp h ho hI hC (fun b hb _ => by omega) (fun a => ?_) (fun _ h => h) hd (fun _ h => Or.inl h) (fun q hq _ hIq => (h8 q hq (by rw [hIq]; exact hI) (by rw [hIq]; exact hd)).1)⟩
  have : p ≠ n := by omega
  simp [pv_ow, ho, this]
/-- a decision is taken off the line -/
theorem pv_pop2 {w i a b : Nat} {x : Int32} {D' : List pv_N} (h : pv_J n I C U Pa dec inst w ((2, i, a, b, x) :: D') N) : dec i = true ∧ b < n ∧ pv_J n I C U Pa dec inst w D' N := by
  have hm : ((2, i, a, b, x) : pv_N) ∈ ((2, i, a, b, x) :: D') ++ N := by simp
  have hsub : ∀ m ∈ D' ++ N, m ∈ ((2, i, a, b, x) :: D') ++ N := fun m hm => by
    rw [List.cons_append]; exact List.mem_cons_of_mem _ hm
  obtain ⟨h1, h2, h3, h4, h5, h6, h7, h8, h9, h10, h11⟩ := h
  refine ⟨(h4 _ hm).2.2 rfl, (h1 _ hm).2.2.1, fun m hm => h1 m (hsub m hm), fun p q hp hq => ?_, h3, fun m hm => h4 m (hsub m hm), h5, h6, h7, h8, h9, h10, fun p q hp hq => ?_⟩
  · have e := h2 p q hp hq
    simp only [List.cons_append, pv_c_app, pv_c_cons, pv_c_nil] at e ⊢
    simp at e
    exact e
  · obtain ⟨g1, g2, g3⟩ := h11 p q hp hq
    rw [pv_c_cons] at g1
    exact ⟨by omega, g2, g3⟩
/-- a request is answered at once -/
theorem pv_reply {i p q : Nat} {x y : Int32} {D' : List pv_N} (h : pv_J n I C U Pa dec inst n ((0, i, p, q, x) :: D') N) : p < n ∧ q < n ∧ p ≠ q ∧ I p = i ∧ i ≠ 0 ∧ pv_J n I C U Pa dec inst n D' (N ++ [(1, i, q, p, y)]) := by
  have hm : ((0, i, p, q, x) : pv_N) ∈ ((0, i, p, q, x) :: D') ++ N := by simp
  have hsub : ∀ m ∈ D' ++ N, m ∈ ((0, i, p, q, x) :: D') ++ N := fun m hm => by
    rw [List.cons_append]; exact List.mem_cons_of_mem _ hm
  obtain ⟨-, hp, hq, hpq, hi1, hi2⟩ := h.1 _ hm
  have hp : p < n := hp
  have hq : q < n := hq
  have hpq : p ≠ q := hpq
  have hi1 : 1 ≤ i := hi1
  have hi2 : i ≤ inst := hi2
  obtain ⟨h1, h2, h3, h4, h5, h6, h7, h8, h9, h10, h11⟩ := h
  have hIp : I p = i := (h4 _ hm).1 rfl
  refine ⟨hp, hq, hpq, hIp, by omega, fun m hm => ?_, fun a b ha hb => ?_, h3, fun m hm => ?_, h5, h6, h7, h8, h9, h10, fun a b ha hb => ?_⟩
  · rw [← List.append_assoc] at hm
    rcases List.mem_append.mp hm with hm | hm
    · exact h1 m (hsub m hm)
    · rw [List.mem_singleton.mp hm]
      exact ⟨show 1 ≤ 2 by decide, hq, hp, hpq.symm, hi1, hi2⟩
  · have e := h2 a b ha hb
    simp only [List.cons_append, pv_c_app, pv_c_cons, pv_c_nil] at e ⊢
    rw [← e]
    by_cases hab : a = p ∧ b = q
    · obtain ⟨rfl, rfl⟩ := hab
      simp
      omega
    · have e1 : ¬ (p = a ∧ q = b) := fun z => hab ⟨z.1.symm, z.2.symm⟩
      have e2 : ¬ (q = b ∧ p = a) := fun z => hab ⟨z.2.symm, z.1.symm⟩
      simp [e1, e2]
  · rw [← List.append_assoc] at hm
    rcases List.mem_append.mp hm with hm | hm
    · exact h4 m (hsub m hm)
    · rw [List.mem_singleton.mp hm]
      exact ⟨fun z => (by cases z), fun _ => hIp, fun z => (by cases z)⟩
  · obtain ⟨g1, g2, g3⟩ := h11 a b ha hb
    rw [pv_c_cons] at g1
    simp only [pv_c_app, pv_c_cons, pv_c_nil]
    simp
    exact ⟨by omega, g2, g3⟩
/-- a process enters an instance: what joining and beginning have in common -/
theorem pv_enter {i q : Nat} {π : Option Nat} {cq : Nat → Bool} {x : Nat → Int32} {inst' : Nat} {D0 : List pv_N}
    (h : pv_J n I C U Pa dec inst n D0 N) (hq : q < n) (hI : I q = 0) (hi : i ≠ 0) (hin : i ≤ inst') (hin2 : inst ≤ inst') (hcq : cq q = false) (hdi : dec i = false)
    (hπ : ∀ p, π = some p → p < n ∧ p ≠ q ∧ I p = i)
    (hroot : π = none → ∀ b, b < n → I b ≠ i)
    (hsub : ∀ m ∈ D, m ∈ D0) (hD : ∀ a b, a < n → b < n → pv_c 0 a b D0 = pv_c 0 a b D + (if π = some a ∧ b = q then 1 else 0)) (hD1 : ∀ a b, pv_c 1 a b D0 = pv_c 1 a b D) (hD2 : ∀ a b, pv_c 2 a b D0 = pv_c 2 a b D) :
    pv_J n (pv_up I q i) (pv_up C q cq) (pv_up U q cq) (pv_up Pa q π) dec inst' q D (N ++ pv_sends n 0 i q cq x) := by
  have hsub2 : ∀ m ∈ D ++ N, m ∈ D0 ++ N := fun m hm => by
    rcases List.mem_append.mp hm with g | g
    · exact List.mem_append_left _ (hsub m g)
    · exact List.mem_append_right _ g
  have hUq : ∀ r, r < n → U q r = false := fun r hr => by
    cases hu : U q r with
    | false => rfl
    | true => exact absurd hI (h.2.2.1 q r hq hr hu).2.2
  have hzero : ∀ r, r < n → pv_c 0 q r (D0 ++ N) = 0 ∧ pv_c 1 r q (D0 ++ N) = 0 ∧ pv_ow n I U Pa n q r = false := fun r hr => by
    have e := h.2.1 q r hq hr
    rw [hUq r hr] at e
    have e : pv_c 0 q r (D0 ++ N) + pv_c 1 r q (D0 ++ N) + (pv_ow n I U Pa n q r).toNat = 0 := e
    exact ⟨by omega, by omega, pv_tZ (by omega)⟩
  have hout : ∀ m ∈ D0 ++ N, (m.1 = 0 → m.2.2.1 ≠ q) ∧ (m.1 = 1 → m.2.2.2.1 ≠ q) := by
    intro m hm
    obtain ⟨-, g2, g3, -⟩ := h.1 m hm
    refine ⟨fun e z => ?_, fun e z => ?_⟩
    · have := pv_c_pos hm e z rfl
      have := (hzero _ g3).1
      omega
    · have := pv_c_pos hm e rfl z
      have := (hzero _ g2).2.1
      omega
  have howq : ∀ a, pv_ow n (pv_up I q i) (pv_up U q cq) (pv_up Pa q π) q a q = (π == some a) := by
    intro a
    have : (i != 0) = true := by simp [hi]
    simp [pv_ow, pv_up_s, this]
  have how : ∀ a b, b < n → b ≠ q → pv_ow n (pv_up I q i) (pv_up U q cq) (pv_up Pa q π) q a b = pv_ow n I U Pa n a b := by
    intro a b hb hbq
    have hbn : b ≠ n := by omega
    have e1 : pv_op n (pv_up U q cq) b = pv_op n U b := pv_op_c (pv_up_n U _ hbq)
    simp [pv_ow, pv_up_n I i hbq, pv_up_n Pa π hbq, e1, pv_bf hbq, pv_bf hbn]
  have holdq : ∀ a, pv_ow n I U Pa n a q = false := fun a => by simp [pv_ow, hI]
  obtain ⟨h1, h2, h3, h4, h5, ⟨rk, h6⟩, h7, h8, h9, h10, h11⟩ := h
  refine ⟨fun m hm => ?_, fun a b ha hb => ?_, fun a b ha hb hu => ?_, fun m hm => ?_, fun a b ha hb hh => ?_, ?_, fun a b ha hb hIa hab hpa hpb => ?_, fun b hb hIb hdb => ?_, ⟨fun b hb => ?_, fun j hj => Nat.le_trans (h9.2 j hj) hin2⟩, fun b a hb hpa hIb => ?_, fun a b ha hb => ?_⟩
  · rw [← List.append_assoc] at hm
    rcases List.mem_append.mp hm with hm | hm
    · obtain ⟨g1, g2, g3, g4, g5, g6⟩ := h1 m (hsub2 m hm)
      exact ⟨g1, g2, g3, g4, g5, Nat.le_trans g6 hin2⟩
    · obtain ⟨r, hr, hc, rfl⟩ := pv_sends_mem.mp hm
      refine ⟨show 0 ≤ 2 by decide, hq, hr, fun z => ?_, by show 1 ≤ i; omega, hin⟩
      have z : q = r := z
      subst z
      rw [hcq] at hc
      cases hc
  · have e := h2 a b ha hb
    simp only [pv_c_app, hD a b ha hb, hD1] at e
    simp only [pv_c_app, pv_sends_c]
    by_cases haq : a = q
    · subst haq
      obtain ⟨z1, z2, z3⟩ := hzero b hb
      rw [pv_c_app, hD a b ha hb] at z1
      rw [pv_c_app, hD1] at z2
      rw [pv_up_s]
      by_cases hbq : b = a
      · subst hbq
        rw [howq b]
        have e1 : (π == some b) = false := by
          cases hπ' : π with
          | none => rfl
          | some p0 =>
            have := (hπ p0 hπ').2.1
            simp [this]
        rw [e1, hcq]
        simp
        omega
      · rw [how a b hb hbq, z3]
        cases hc : cq b with
        | true => simp [hb]; omega
        | false => simp; omega
    · rw [pv_up_n U cq haq]
      have e1 : ¬ (True ∧ q = a ∧ b < n ∧ cq b = true) := fun z => haq z.2.1.symm
      have e2 : ¬ (0 = 1 ∧ q = b ∧ a < n ∧ cq a = true) := fun z => (by cases z.1)
      rw [if_neg e1, if_neg e2, ← e]
      by_cases hbq : b = q
      · subst hbq
        rw [howq a, holdq a]
        by_cases hpa : π = some a
        · simp [hpa]
          omega
        · have : (π == some a) = false := by simp [hpa]
          rw [this]
          simp [hpa]
      · rw [how a b hb hbq]
        simp [hbq]
  · by_cases haq : a = q
    · subst haq
      rw [pv_up_s] at hu ⊢
      rw [pv_up_s]
      exact ⟨hu, (fun z => by subst z; rw [hcq] at hu; cases hu), hi⟩
    · rw [pv_up_n _ _ haq] at hu ⊢
      rw [pv_up_n _ _ haq]
      exact h3 a b ha hb hu
  · rw [← List.append_assoc] at hm
    rcases List.mem_append.mp hm with hm | hm
    · obtain ⟨g1, g2, g3⟩ := h4 m (hsub2 m hm)
      obtain ⟨o1, o2⟩ := hout m (hsub2 m hm)
      exact ⟨fun e => by rw [pv_up_n I i (o1 e)]; exact g1 e, fun e => by rw [pv_up_n I i (o2 e)]; exact g2 e, g3⟩
    · obtain ⟨r, hr, hc, rfl⟩ := pv_sends_mem.mp hm
      exact ⟨fun _ => pv_up_s I q i, fun e => (by cases e), fun e => (by cases e)⟩
  · by_cases hbq : b = q
    · subst hbq
      rw [howq a] at hh
      have hpa : π = some a := by simpa using hh
      obtain ⟨g1, g2, g3⟩ := hπ a hpa
      rw [pv_up_s, pv_up_n I i g2, g3]
    · rw [how a b hb hbq] at hh
      have haq : a ≠ q := fun z => by subst z; rw [(hzero b hb).2.2] at hh; cases hh
      rw [pv_up_n I i haq, pv_up_n I i hbq]
      exact h5 a b ha hb hh
  · refine ⟨pv_up rk q (π.elim 0 (fun p => rk p + 1)), fun a b ha hb hh => ?_⟩
    by_cases hbq : b = q
    · subst hbq
      rw [howq a] at hh
      have hpa : π = some a := by simpa using hh
      obtain ⟨g1, g2, g3⟩ := hπ a hpa
      rw [pv_up_s, pv_up_n rk _ g2, hpa]
      show rk a < rk a + 1
      omega
    · rw [how a b hb hbq] at hh
      have haq : a ≠ q := fun z => by subst z; rw [(hzero b hb).2.2] at hh; cases hh
      rw [pv_up_n rk _ haq, pv_up_n rk _ hbq]
      exact h6 a b ha hb hh
  · by_cases haq : a = q
    · by_cases hbq : b = q
      · rw [haq, hbq]
      · subst haq
        rw [pv_up_s] at hpa hab
        rw [pv_up_n I i hbq] at hab
        exact absurd hab.symm (hroot hpa b hb)
    · rw [pv_up_n I i haq] at hIa hab
      rw [pv_up_n Pa π haq] at hpa
      by_cases hbq : b = q
      · subst hbq
        rw [pv_up_s] at hpb hab
        exact absurd hab (hroot hpb a ha)
      · rw [pv_up_n I i hbq] at hab
        rw [pv_up_n Pa π hbq] at hpb
        exact h7 a b ha hb hIa hab hpa hpb
  · by_cases hbq : b = q
    · subst hbq
      rw [pv_up_s, hdi] at hdb
      cases hdb
    · rw [pv_up_n I i hbq] at hIb hdb
      exact ⟨by rw [pv_op_c (pv_up_n U _ hbq)]; exact (h8 b hb hIb hdb).1, hbq⟩
  · by_cases hbq : b = q
    · subst hbq; rw [pv_up_s]; exact hin
    · rw [pv_up_n I i hbq]; exact Nat.le_trans (h9.1 b hb) hin2
  · by_cases hbq : b = q
    · subst hbq
      rw [pv_up_s] at hpa
      exact (hπ a hpa).1
    · rw [pv_up_n Pa π hbq] at hpa
      rw [pv_up_n I i hbq] at hIb
      exact h10 b a hb hpa hIb
  · obtain ⟨g1, g2, g3⟩ := h11 a b ha hb
    rw [hD2] at g1
    simp only [pv_c_app, pv_sends_c]
    have e1 : ¬ (0 = 2 ∧ q = a ∧ b < n ∧ cq b = true) := fun z => (by cases z.1)
    rw [if_neg e1]
    refine ⟨g1, g2, fun z1 z2 z3 => ?_⟩
    by_cases haq : a = q
    · subst haq
      rw [pv_up_s] at z3
      simp [hb, z3]
    · rw [pv_up_n I i haq] at z2
      rw [pv_up_n C cq haq] at z3
      have := g3 z1 z2 z3
      omega
/-- a request is heard, and joined -/
theorem pv_join {i p q : Nat} {x : Int32} {xs : Nat → Int32} {cq : Nat → Bool} {D' : List pv_N} (h : pv_J n I C U Pa dec inst n ((0, i, p, q, x) :: D') N) (hI : I q = 0) (hcq : cq q = false) :
    pv_J n (pv_up I q i) (pv_up C q cq) (pv_up U q cq) (pv_up Pa q (some p)) dec inst q D' (N ++ pv_sends n 0 i q cq xs) := by
  have hm : ((0, i, p, q, x) : pv_N) ∈ ((0, i, p, q, x) :: D') ++ N := by simp
  obtain ⟨-, hp, hq, hpq, hi1, hi2⟩ := h.1 _ hm
  have hp : p < n := hp
  have hq : q < n := hq
  have hpq : p ≠ q := hpq
  have hi1 : 1 ≤ i := hi1
  have hIp : I p = i := (h.2.2.2.1 _ hm).1 rfl
  have hU : U p q = true := (h.open_ hm).1 rfl
  have hdi : dec i = false := by
    cases hd : dec i with
    | false => rfl
    | true =>
      have := (h.2.2.2.2.2.2.2.1 p hp (by omega) (by rw [hIp]; exact hd)).1
      rw [pv_op_iff.mpr ⟨q, hq, hU⟩] at this
      cases this
  refine pv_enter h hq hI (by omega) hi2 (Nat.le_refl _) hcq hdi (fun a ha => ?_) (fun z => (by cases z)) (fun m hm => List.mem_cons_of_mem _ hm) (fun a b _ _ => ?_) (fun a b => ?_) (fun a b => ?_)
  · cases ha; exact ⟨hp, hpq, hIp⟩
  · rw [pv_c_cons]
    by_cases hab : p = a ∧ q = b
    · obtain ⟨rfl, rfl⟩ := hab
      simp
    · have e1 : ¬ (some p = some a ∧ b = q) := fun z => hab ⟨Option.some.inj z.1, z.2.symm⟩
      have e2 : ¬ (0 = 0 ∧ p = a ∧ q = b) := fun z => hab z.2
      rw [if_neg e1]
      show _ + (if 0 = 0 ∧ p = a ∧ q = b then 1 else 0) = _
      rw [if_neg e2]
  · rw [pv_c_cons]; simp
  · rw [pv_c_cons]; simp
/-- a new instance begins -/
theorem pv_begin {p : Nat} {xs : Nat → Int32} {cq : Nat → Bool} (h : pv_J n I C U Pa dec inst n D N) (hp : p < n) (hI : I p = 0) (hcq : cq p = false) :
    pv_J n (pv_up I p (inst + 1)) (pv_up C p cq) (pv_up U p cq) (pv_up Pa p none) dec (inst + 1) p D (N ++ pv_sends n 0 (inst + 1) p cq xs) := by
  have h9 := h.2.2.2.2.2.2.2.2.1
  refine pv_enter h hp hI (by omega) (Nat.le_refl _) (by omega) hcq ?_ (fun a ha => (by cases ha)) (fun _ b hb z => ?_) (fun m hm => hm) (fun a b _ _ => by simp) (fun a b => rfl) (fun a b => rfl)
  · cases hd : dec (inst + 1) with
    | false => rfl
    | true => have := h9.2 _ hd; omega
  · have := h9.1 b hb; omega
theorem pv_tick {I : Nat → Nat} (h : pv_J n I C U Pa dec inst n [] N) : pv_J n I C U Pa dec inst n N [] := by
  obtain ⟨h1, h2, h3, h4, h5, h6, h7, h8, h9, h10, h11⟩ := h
  simp only [List.nil_append] at h1 h2 h4
  refine ⟨by simpa using h1, by simpa using h2, h3, by simpa using h4, h5, h6, h7, h8, h9, h10, fun p q hp hq => ?_⟩
  obtain ⟨g1, g2, g3⟩ := h11 p q hp hq
  exact ⟨g2, by simp [pv_c_nil], fun z => absurd (pv_c_nil 2 p q) z⟩
/-- the keys of a list, each at most once, all below m: its length -/
theorem pv_pigeon : ∀ (m : Nat) (l : List Nat), (∀ a ∈ l, a < m) → (∀ a, l.countP (· == a) ≤ 1) → l.length ≤ m
  | 0, l, h, _ => by
    cases l with
    | nil => simp
    | cons a l => exact absurd (h a (by simp)) (by omega)
  | m + 1, l, h, h1 => by
    have h2 : (l.filter (fun x => !(x == m))).length ≤ m := by
      refine pv_pigeon m _ (fun a ha => ?_) (fun a => ?_)
      · have := List.mem_filter.mp ha
        have h3 := h a this.1
        have h4 : a ≠ m := by simpa using this.2
        omega
      · refine Nat.le_trans ?_ (h1 a)
        rw [List.countP_filter]
        exact List.countP_mono_left (fun x _ hx => by simp at hx ⊢; exact hx.1)
    have h3 : l.length = (l.filter (fun x => !(x == m))).length + l.countP (· == m) := by
      have := List.length_eq_countP_add_countP (p := fun x : Nat => !(x == m)) (l := l)
      rw [this, List.countP_eq_length_filter]
      congr 1
      apply List.countP_congr
      intro x _
      simp
    have := h1 m
    omega
def pv_key (n a b : Nat) : Nat := a * (n - 1) + (if b < a then b else b - 1)
theorem pv_key_lt {n a b : Nat} (ha : a < n) (hb : b < n) (hab : a ≠ b) : pv_key n a b < n * (n - 1) := by
  have h1 : (if b < a then b else b - 1) < n - 1 := by split <;> omega
  have h2 : a * (n - 1) + (n - 1) ≤ n * (n - 1) := by
    have : (a + 1) * (n - 1) ≤ n * (n - 1) := Nat.mul_le_mul_right _ (by omega)
    rw [Nat.add_mul, Nat.one_mul] at this
    exact this
  unfold pv_key
  omega
theorem pv_key_inj {n a b a' b' : Nat} (hb : b < n) (hab : a ≠ b) (hb' : b' < n) (hab' : a' ≠ b') (ha : a < n) (ha' : a' < n) (h : pv_key n a b = pv_key n a' b') : a = a' ∧ b = b' := by
  have h1 : (if b < a then b else b - 1) < n - 1 := by split <;> omega
  have h2 : (if b' < a' then b' else b' - 1) < n - 1 := by split <;> omega
  unfold pv_key at h
  have h3 : a = a' := by
    have e1 : (a * (n - 1) + (if b < a then b else b - 1)) / (n - 1) = a := by
      rw [Nat.mul_comm, Nat.mul_add_div (by omega), Nat.div_eq_of_lt h1]; rfl
    have e2 : (a' * (n - 1) + (if b' < a' then b' else b' - 1)) / (n - 1) = a' := by
      rw [Nat.mul_comm, Nat.mul_add_div (by omega), Nat.div_eq_of_lt h2]; rfl
    rw [h, e2] at e1
    exact e1.symm
  subst h3
  have h4 : (if b < a then b else b - 1) = (if b' < a then b' else b' - 1) := by omega
  refine ⟨rfl, ?_⟩
  split at h4 <;> split at h4 <;> omega
end PW
section PX
variable {n : Nat} {I : Nat → Nat} {C U : Nat → Nat → Bool} {Pa : Nat → Option Nat} {dec : Nat → Bool} {inst : Nat} {D N : List pv_N}
theorem pv_len {n : Nat} (l : List pv_N) (f : pv_N → Nat × Nat) (hr : ∀ m ∈ l, (f m).1 < n ∧ (f m).2 < n ∧ (f m).1 ≠ (f m).2) (hc : ∀ p q, p < n → q < n → l.countP (fun m => decide (f m = (p, q))) ≤ 1) : l.length ≤ n * (n - 1) := by
  have h := pv_pigeon (n * (n - 1)) (l.map (fun m => pv_key n (f m).1 (f m).2)) (fun a ha => by
    obtain ⟨m, hm, rfl⟩ := List.mem_map.mp ha
    obtain ⟨h1, h2, h3⟩ := hr m hm
    exact pv_key_lt h1 h2 h3) (fun a => by
    rw [List.countP_map]
    by_cases hz : List.countP ((fun x => x == a) ∘ fun m => pv_key n (f m).1 (f m).2) l = 0
    · omega
    · obtain ⟨m0, hm0, hk0⟩ := List.countP_pos_iff.mp (Nat.pos_of_ne_zero hz)
      have hk0 : pv_key n (f m0).1 (f m0).2 = a := by simpa using hk0
      obtain ⟨g1, g2, g3⟩ := hr m0 hm0
      refine Nat.le_trans (List.countP_mono_left (fun m hm hx => ?_)) (hc (f m0).1 (f m0).2 g1 g2)
      have hx : pv_key n (f m).1 (f m).2 = a := by simpa using hx
      obtain ⟨k1, k2, k3⟩ := hr m hm
      have := pv_key_inj k2 k3 g2 g3 k1 g1 (hx.trans hk0.symm)
      simp only [decide_eq_true_eq]
      exact Prod.ext this.1 this.2)
  simpa using h
theorem pv_J.cap {w : Nat} (h : pv_J n I C U Pa dec inst w D N) : D.length + N.length ≤ 3 * (n * (n - 1)) := by
  obtain ⟨h1, h2, h3, h4, h5, h6, h7, h8, h9, h10, h11⟩ := h
  have key2 : ∀ l : List pv_N, (∀ m ∈ l, m ∈ D ++ N) → (∀ p q, p < n → q < n → pv_c 2 p q l ≤ 1) → (l.filter (fun m => m.1 == 2)).length ≤ n * (n - 1) := by
    intro l hl hc
    refine pv_len _ (fun m => (m.2.2.1, m.2.2.2.1)) (fun m hm => ?_) (fun p q hp hq => ?_)
    · obtain ⟨-, g2, g3, g4, -⟩ := h1 m (hl m (List.mem_filter.mp hm).1)
      exact ⟨g2, g3, g4⟩
    · refine Nat.le_trans (Nat.le_of_eq ?_) (hc p q hp hq)
      rw [List.countP_filter]
      apply List.countP_congr
      intro m _
      simp [and_comm, and_left_comm, and_assoc]
  have k1 := key2 D (fun m hm => List.mem_append_left _ hm) (fun p q hp hq => (h11 p q hp hq).1)
  have k2 := key2 N (fun m hm => List.mem_append_right _ hm) (fun p q hp hq => (h11 p q hp hq).2.1)
  have k3 : ((D ++ N).filter (fun m => !(m.1 == 2))).length ≤ n * (n - 1) := by
    refine pv_len _ (fun m => if m.1 = 0 then (m.2.2.1, m.2.2.2.1) else (m.2.2.2.1, m.2.2.1)) (fun m hm => ?_) (fun p q hp hq => ?_)
    · obtain ⟨-, g2, g3, g4, -⟩ := h1 m (List.mem_filter.mp hm).1
      by_cases hm0 : m.1 = 0
      · simp only [hm0, if_true]; exact ⟨g2, g3, g4⟩
      · simp only [hm0, if_false]; exact ⟨g3, g2, g4.symm⟩
    · have e := h2 p q hp hq
      have hu : (U p q).toNat ≤ 1 := by cases U p q <;> decide
      have : List.countP (fun m => decide ((if m.1 = 0 then (m.2.2.1, m.2.2.2.1) else (m.2.2.2.1, m.2.2.1)) = (p, q))) ((D ++ N).filter (fun m => !(m.1 == 2))) ≤ pv_c 0 p q (D ++ N) + pv_c 1 q p (D ++ N) := by
        clear e
        rw [List.countP_filter]
        have hr : ∀ m ∈ D ++ N, m.1 ≤ 2 := fun m hm => (h1 m hm).1
        generalize D ++ N = l at hr ⊢
        induction l with
        | nil => simp
        | cons m l ih =>
          have ih := ih (fun m hm => hr m (List.mem_cons_of_mem _ hm))
          have hm := hr m List.mem_cons_self
          rw [List.countP_cons, pv_c_cons, pv_c_cons]
          obtain ⟨k, i, a, b, x⟩ := m
          have hm : k ≤ 2 := hm
          rcases (show k = 0 ∨ k = 1 ∨ k = 2 by omega) with rfl | rfl | rfl
          · by_cases hab : a = p ∧ b = q
            · obtain ⟨rfl, rfl⟩ := hab
              simp
              omega
            · simp [hab]
              omega
          · by_cases hab : b = p ∧ a = q
            · obtain ⟨rfl, rfl⟩ := hab
              simp
              omega
            · have hab2 : ¬ (a = q ∧ b = p) := fun z => hab ⟨z.2, z.1⟩
              simp [hab, hab2]
              omega
          · simp
            omega
      omega
  have e1 : ∀ l : List pv_N, l.length = (l.filter (fun m => m.1 == 2)).length + (l.filter (fun m => !(m.1 == 2))).length := by
    intro l
    have := List.length_eq_countP_add_countP (p := fun m : pv_N => m.1 == 2) (l := l)
    rw [this, List.countP_eq_length_filter, List.countP_eq_length_filter]
    congr 2
    apply List.filter_congr
    intro m _
    by_cases h : m.1 = 2 <;> simp [h]
  have e2 := e1 D
  have e3 := e1 N
  rw [List.filter_append, List.length_append] at k3
  omega
end PX
