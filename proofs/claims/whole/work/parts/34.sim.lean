/-! SIMULATION, 1: calls that read, calls that are refused, small changes -/
section SIM
variable {d : Nat} {Ls : sm_K} {H : sm_H} {S : sm_E} {fmt : Bool} {L : Nat} {xs : Nat → Int32}
theorem HR.same {H H' : sm_H} {b : Nat} {r r' : Int → Int} (h : HR H b r) (e : ∀ a : Nat, b ≤ a → a ≤ b + 11 → H' a = H a) (hr : ∀ i, i < 220 → r' i = r i) : HR H' b r' := by
  obtain ⟨ha, hb, hc, hd⟩ := h
  have e0 : H' b = H b := e b (by omega) (by omega)
  refine ⟨ha.congr (by rw [e0]) (e _ (by omega) (by omega)) (e _ (by omega) (by omega)) (e _ (by omega) (by omega)) (e _ (by omega) (by omega)) (fun i h => hr i (by omega)), hb.congr (by rw [e0]) (by rw [e0]) (by rw [e0]) (e _ (by omega) (by omega)) (fun i h => hr i (by omega)), hc.congr (e _ (by omega) (by omega)) (e _ (by omega) (by omega)) (fun i h => hr i (by omega)), hd.congr (by rw [e0]) (by rw [e0]) (by rw [e0]) (by rw [e0]) (e _ (by omega) (by omega)) (e _ (by omega) (by omega)) (e _ (by omega) (by omega)) (by rw [hr 0 (by omega)]; exact Int.le_refl _) (fun i h => hr i (by omega))⟩
theorem u_row {H : sm_H} {a b : Nat} {i v : Int} (h : b ≠ a) : sm_u H a i v b = H b := by funext j; simp [sm_u, h]
/-- a call that only reads -/
theorem good_read (hS : SR H) (hH : HR H 33 (H 82)) : Good H (sm_u H 80 0 0) := by
  refine ⟨hS.congr (by simp [sm_u]) (by simp [sm_u]) (u_row (by omega)) (u_row (by omega)) (by simp [sm_u]) (by simp [sm_u]) (by simp [sm_u]) (by simp [sm_u]) (by simpa [sm_u] using hS.2.2.2.2.1) (fun k k1 k2 => by simpa [sm_u] using hS.2.2.2.2.2.1 k k1 k2) (by simp [sm_u]) (by simp [sm_u]) (u_row (by omega)) (u_row (by omega)) (by simpa [sm_u] using hS.2.2.2.2.2.2.2.2), hH.same (fun a h1 h2 => u_row (by omega)) (fun i _ => by simp [sm_u]), fun a h => u_row (by omega), ⟨by simp [sm_u], by simp [sm_u], fun i _ => by simp [sm_u]⟩, fun k _ => by simp [sm_u], fun k hk => by simp [sm_u]; omega, Or.inr ⟨by simp [sm_u], fun i _ => by simp [sm_u]⟩, Or.inr ⟨by simp [sm_u], fun i _ => by simp [sm_u]⟩⟩
/-- both refuse -/
theorem good_ref (hS : SR H) (hH : HR H 33 (H 82)) {v : Int} (hv : -6 ≤ v ∧ v < 0) : Good H (t_ref (sm_u (c_ref H v) 80 0 0) v) := by
  have hr := hS.2.2.2.2.2.1
  refine ⟨hS.congr (by simp [t_ref, c_ref, sm_u]) (by simp [t_ref, c_ref, sm_u]) (by funext j; simp [t_ref, c_ref, sm_u]) (by funext j; simp [t_ref, c_ref, sm_u]) (by simp [t_ref, c_ref, sm_u]) (by simp [t_ref, c_ref, sm_u]) (by simp [t_ref, c_ref, sm_u]) (by simp [t_ref, c_ref, sm_u]) (by simp [t_ref, c_ref, sm_u]) (fun k k1 k2 => ?_) (by simp [t_ref, c_ref, sm_u]) (by simp [t_ref, c_ref, sm_u]) (by funext j; simp [t_ref, c_ref, sm_u]) (by funext j; simp [t_ref, c_ref, sm_u]) (by simp [t_ref, c_ref, sm_u]; omega), hH.same (fun a h1 h2 => ?_) (fun i _ => by simp [t_ref, c_ref, sm_u]), fun a h => ?_, ⟨by simp [t_ref, c_ref, sm_u], by simp [t_ref, c_ref, sm_u], fun i _ => by simp [t_ref, c_ref, sm_u]⟩, fun k _ => by simp [t_ref, c_ref, sm_u], fun k hk => ?_, Or.inr ⟨by simp [t_ref, c_ref, sm_u], fun i _ => by simp [t_ref, c_ref, sm_u]⟩, ?_⟩
  · by_cases hk : k = -v
    · subst hk
      have := hr (-v) k1 k2
      simp [t_ref, c_ref, sm_u, this]
    · have := hr k k1 k2
      have h2 : ¬ (k - 1 = -v - 1) := by omega
      simp [t_ref, c_ref, sm_u, this, hk, h2]
  · funext j; simp [t_ref, c_ref, sm_u, show ¬ a = 80 by omega, show ¬ a = 81 by omega, show ¬ a = 79 by omega, show ¬ a = 32 by omega]
  · funext j; simp [t_ref, c_ref, sm_u, show ¬ a = 80 by omega, show ¬ a = 81 by omega, show ¬ a = 79 by omega, show ¬ a = 32 by omega]
  · simp [t_ref, c_ref, sm_u, show ¬ k = 0 by omega, show ¬ k = 1 by omega, show ¬ k = 39 by omega]
  · by_cases h39 : H 80 39 = 0
    · exact Or.inl (by simp [t_ref, c_ref, sm_u, h39])
    · have h1 : H 80 39 = 1 := hS.2.2.2.2.2.2.2.2.resolve_left h39
      exact Or.inr ⟨by simp [t_ref, c_ref, sm_u, h1], fun i _ => by simp [t_ref, c_ref, sm_u]⟩
theorem s_status (hS : SR H) (hH : HR H 33 (H 82)) : Sim S (d + 1) Ls H 134 253 [] (Good H) := by
  unfold Sim
  rw [b_status]
  refine ⟨_, _, rfl, ?_⟩
  rw [m_status]
  exact ⟨_, by rw [hS.2.2.2.2.1], good_read hS hH⟩
theorem s_lost (hS : SR H) (hH : HR H 33 (H 82)) : Sim S (d + 1) Ls H 101 162 [] (Good H) := by
  unfold Sim
  rw [b_lost]
  refine ⟨_, _, rfl, ?_⟩
  rw [m_lost]
  exact ⟨_, by rw [hS.2.2.1], good_read hS hH⟩
theorem s_fault (hS : SR H) (hH : HR H 33 (H 82)) : Sim S (d + 1) Ls H 104 176 [] (Good H) := by
  unfold Sim
  rw [b_fault]
  refine ⟨_, _, rfl, ?_⟩
  rw [m_fault]
  exact ⟨_, by rw [hS.2.2.2.1], good_read hS hH⟩
end SIM
