section TG
variable {F n k : Nat} {σ ρ : mm_M}
theorem t_value (hF : 1000 ≤ F) (hk : k ≤ 512) (h : REL n k σ ρ) (a : Int32) : ∃ r, f_X_value F n σ a = some r ∧ f_R_value F n ρ a = some r := by
  obtain ⟨g, f, N, hv, hc, hr, hi⟩ := h
  rcases bad_or n hv.1.2.1 a with hb | ⟨p, hp, rfl⟩
  · refine ⟨0, kb_value hc.1.1 hb, ?_⟩
    unfold f_R_value; rw [q_noproc F n ρ a (rr_0 hr) hb]; rfl
  · exact ⟨_, k_value hv.1 hc hp, q_value hF hk hv.1 hr hp⟩
theorem t_kept (hF : 1000 ≤ F) (hk : k ≤ 512) (h : REL n k σ ρ) (a : Int32) : ∃ r, f_X_kept F n σ a = some r ∧ f_R_kept F n ρ a = some r := by
  obtain ⟨g, f, N, hv, hc, hr, hi⟩ := h
  rcases bad_or n hv.1.2.1 a with hb | ⟨p, hp, rfl⟩
  · refine ⟨0, kb_kept hc.1.1 hb, ?_⟩
    unfold f_R_kept; rw [q_noproc F n ρ a (rr_0 hr) hb]; rfl
  · exact ⟨_, k_kept hv.1 hc hp, q_kept hF hk hv.1 hr hp⟩
theorem t_label (hF : 1000 ≤ F) (hk : k ≤ 512) (h : REL n k σ ρ) (a b w : Int32) : ∃ r, f_X_label F n σ a b w = some r ∧ f_R_label F n ρ a b w = some r := by
  obtain ⟨g, f, N, hv, hc, hr, hi⟩ := h
  rcases badc_or n hv.1.2.1 a b with hb | ⟨p, q, hp, hq, hpq, rfl, rfl⟩
  · refine ⟨-1, kb_label hv.1.2.1 hc.1.1 hb w, ?_⟩
    unfold f_R_label; rw [q_nochan F n ρ a b hv.1.2.1 (rr_0 hr) hb]; rfl
  · exact ⟨_, k_label hv.1 hc hp hq hpq w, q_label hF hk hv.1 hr hp hq hpq w⟩
theorem t_waiting (hF : 1000 ≤ F) (hk : k ≤ 512) (h : REL n k σ ρ) (a b : Int32) : ∃ r, f_X_waiting F n σ a b = some r ∧ f_R_waiting F n ρ a b = some r := by
  obtain ⟨g, f, N, hv, hc, hr, hi⟩ := h
  rcases badc_or n hv.1.2.1 a b with hb | ⟨p, q, hp, hq, hpq, rfl, rfl⟩
  · refine ⟨-1, kb_waiting hv.1.2.1 hc.1.1 hb, ?_⟩
    unfold f_R_waiting; rw [q_nochan F n ρ a b hv.1.2.1 (rr_0 hr) hb]; rfl
  · exact ⟨_, k_waiting hv.1 hc hp hq hpq, q_waiting hF hk hv.1 hr hp hq hpq⟩
theorem t_down (hk : k ≤ 512) (h : REL n k σ ρ) (a : Int32) : ∃ r, f_X_down F n σ a = some r ∧ f_R_down F n ρ a = some r := by
  obtain ⟨g, f, N, hv, hc, hr, hi⟩ := h
  rcases bad_or n hv.1.2.1 a with hb | ⟨p, hp, rfl⟩
  · refine ⟨0, kb_down hc.1.1 hb, ?_⟩
    unfold f_R_down; rw [q_noproc F n ρ a (rr_0 hr) hb]; rfl
  · exact ⟨_, k_down hv.1 hc hp, q_down hv.1 hr hp⟩
theorem t_instance (hk : k ≤ 512) (h : REL n k σ ρ) (a : Int32) : ∃ r, f_X_instance F n σ a = some r ∧ f_R_instance F n ρ a = some r := by
  obtain ⟨g, f, N, hv, hc, hr, hi⟩ := h
  rcases bad_or n hv.1.2.1 a with hb | ⟨p, hp, rfl⟩
  · refine ⟨-1, kb_instance hc.1.1 hb, ?_⟩
    unfold f_R_instance; rw [q_noproc F n ρ a (rr_0 hr) hb]; rfl
  · exact ⟨_, k_instance hv.1 hc hp, q_instance hv.1 hr hp⟩
theorem t_decision (hk : k ≤ 512) (h : REL n k σ ρ) (a : Int32) : ∃ r, f_X_decision F n σ a = some r ∧ f_R_decision F n ρ a = some r := by
  obtain ⟨g, f, N, hv, hc, hr, hi⟩ := h
  exact ⟨_, k_decision hv.1 hc a, q_decision hv.1 hr a⟩
theorem t_notes (h : REL n k σ ρ) : ∃ r, f_X_notes F n σ = some r ∧ f_R_notes F n ρ = some r := by
  obtain ⟨g, f, N, hv, hc, hr, hi⟩ := h
  exact ⟨_, k_notes hc, q_notes hr⟩
theorem t_times (hk : k ≤ 512) (h : REL n k σ ρ) (a w : Int32) : ∃ r, f_X_times F n σ a w = some r ∧ f_R_times F n ρ a w = some r := by
  obtain ⟨g, f, N, hv, hc, hr, hi⟩ := h
  rcases bad_or n hv.1.2.1 a with hb | ⟨p, hp, rfl⟩
  · refine ⟨-1, kb_times hc.1.1 hb w, ?_⟩
    unfold f_R_times; rw [q_noproc F n ρ a (rr_0 hr) hb]; rfl
  · exact ⟨_, k_times hv.1 hc hp w, q_times hv.1 hr hp w⟩
end TG
/-- the memory behind the constructors: all nothing, but the number of processes -/
def m_0 (n : Nat) : mm_M := fun k i j => if k = 0 ∧ i = 0 ∧ j = 0 then nI n else 0
def g_0 : sg := (fun k _ _ => if k = 3 then 1 else 0, fun _ _ _ => 0, fun _ _ => [], [])
theorem gv_0 {n : Nat} (h1 : 2 ≤ n) (h2 : n ≤ 5) : gv n g_0 [] [] := by
  refine ⟨⟨h1, h2, by simp [gInst, g_0], fun p => by simp [g_0], fun i => by simp [g_0], fun p q => by simp [g_0], fun p => by simp [g_0], fun p _ h => by simp [gI, g_0] at h, fun p _ => by simp [g_0]; omega, fun p _ => by simp [gI, g_0]⟩, rfl, ⟨fun m hm => by simp at hm, fun p q hp hq => ?_, fun p q _ _ h => by simp [gU, g_0] at h, fun m hm => by simp at hm, fun p q _ _ h => ?_, ⟨fun _ => 0, fun p q _ _ h => ?_⟩, fun p q _ _ h => by simp [gI, g_0] at h, fun q _ h => by simp [gI, g_0] at h, ⟨fun q _ => by simp [gI, g_0], fun i h => by simp [gDec, g_0] at h⟩, fun q p _ _ h => by simp [gI, g_0] at h, fun p q _ _ => by simp [pv_c]⟩, fun m hm => by simp at hm⟩
  · simp [pv_c, pv_ow, gI, gU, g_0]
  · simp [pv_ow, gI, g_0] at h
  · simp [pv_ow, gI, g_0] at h
theorem REL_0 {n : Nat} (h1 : 2 ≤ n) (h2 : n ≤ 5) : REL n 0 (m_0 n) (m_0 n) := by
  have hcap : 0 < 4 * n * (n - 1) := Nat.mul_pos (by omega) (by omega)
  refine ⟨g_0, 0, [], gv_0 h1 h2, ⟨⟨by simp [m_0], by simp [m_0, g_0]; rfl, fun i _ => by simp [m_0, g_0]; rfl, fun p hp => ?_, fun p q _ _ => by simp [m_0, g_0]; rfl⟩, ⟨fun j _ => by simp [m_0, g_0], fun j q _ _ => by simp [m_0, g_0]⟩, fun p q _ _ => ⟨by simp [m_0, g_0]; rfl, by simp [g_0], fun j hj => by simp [g_0] at hj⟩, ⟨hcap, by simp [m_0]; rfl, by simp [m_0, g_0]; rfl, by simp [g_0], fun j m hm => by simp [g_0] at hm⟩⟩, ⟨⟨fun _ => 0, fun _ => 0, fun _ => 0, fun _ _ => 0, ⟨by simp [m_0], by simp [m_0, gInst, g_0]; rfl, fun i _ => by simp [m_0, g_0]; rfl⟩, fun p hp => ?_, fun p hp => ?_, fun p hp => ?_, fun p hp => ?_, fun p q hp hq hpq => ?_⟩, ?_⟩, by simp [gInst, g_0]⟩
  · have haw : s_aw n g_0.1 p = 0 := by simp [s_aw, g_0]
    rw [haw]
    simp [m_0, g_0, s_pn]
    rfl
  · simp [m_0, g_0, s_pn]
    rfl
  · have e1 : bm n (gC g_0 p) = 0 := bm_0 (fun q _ => by simp [gC, g_0])
    have e2 : bm n (fun q => gC g_0 p q && !gU g_0 p q) = 0 := bm_0 (fun q _ => by simp [gC, g_0])
    rw [e1, e2]
    refine ⟨by simp [m_0]; rfl, by simp [m_0]; rfl, 0, by omega, by simp [m_0]; rfl, fun h => by simp [g_0] at h⟩
  · refine ⟨by simp [m_0]; rfl, by simp [m_0]; rfl, by simp [m_0]; rfl, Nat.le_refl _, Nat.le_refl _⟩
  · refine ⟨⟨rfl, fun q _ => ⟨rfl, rfl⟩⟩, ⟨rfl, fun q _ => ⟨rfl, rfl⟩⟩, fun h => by simp [g_0] at h⟩
  · exact ⟨by simp [m_0]; rfl, Nat.zero_le _, rfl, by simp [g_0], fun j hj => by simp [g_0] at hj⟩
  · exact ⟨by simp [m_0, g_0]; rfl, by simp [g_0], fun j m hm => by simp [g_0] at hm⟩
