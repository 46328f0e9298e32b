/-! cells that no call leaves anything in for a later one -/
def Scr (a : Nat) (i : Int) : Prop := (47 ≤ a ∧ a ≤ 58 ∧ ¬ (a = 47 ∧ i = 0)) ∨ (66 ≤ a ∧ a ≤ 77) ∨ a = 85 ∨ (87 ≤ a ∧ a ≤ 91) ∨ (94 ≤ a ∧ a ≤ 97) ∨ (105 ≤ a ∧ a ≤ 112) ∨ (a = 80 ∧ (i = 0 ∨ i = 8 ∨ (11 ≤ i ∧ i ≤ 14) ∨ (16 ≤ i ∧ i ≤ 38) ∨ (49 ≤ i ∧ i ≤ 60)))
section SCR
variable {H H2 M : sm_H}
theorem Good.scr (hG : Good H M) (e : ∀ a i, ¬ Scr a i → H2 a i = M a i) : Good H H2 := by
  obtain ⟨hS, hH, h1, ⟨h2, h3, h4⟩, h5, h6, h7, h8⟩ := hG
  have er : ∀ a : Nat, a ≠ 80 → ¬ (47 ≤ a ∧ a ≤ 58) → ¬ (66 ≤ a ∧ a ≤ 77) → a ≠ 85 → ¬ (87 ≤ a ∧ a ≤ 91) → ¬ (94 ≤ a ∧ a ≤ 97) → ¬ (105 ≤ a ∧ a ≤ 112) → H2 a = M a := fun a _ _ _ _ _ _ _ => by
    funext i
    exact e a i (by unfold Scr; omega)
  have e82 : H2 82 = M 82 := er 82 (by omega) (by omega) (by omega) (by omega) (by omega) (by omega) (by omega)
  refine ⟨hS.congr (e _ _ (by unfold Scr; omega)) (e _ _ (by unfold Scr; omega)) (er _ (by omega) (by omega) (by omega) (by omega) (by omega) (by omega) (by omega)) (er _ (by omega) (by omega) (by omega) (by omega) (by omega) (by omega) (by omega)) (e _ _ (by unfold Scr; omega)) (e _ _ (by unfold Scr; omega)) (e _ _ (by unfold Scr; omega)) (e _ _ (by unfold Scr; omega)) ?_ (fun k k1 k2 => ?_) (e _ _ (by unfold Scr; omega)) (e _ _ (by unfold Scr; omega)) (er _ (by omega) (by omega) (by omega) (by omega) (by omega) (by omega) (by omega)) (er _ (by omega) (by omega) (by omega) (by omega) (by omega) (by omega) (by omega)) ?_, ?_, fun a h => ?_, ⟨?_, ?_, fun i hi => ?_⟩, fun k hk => ?_, fun k hk => ?_, ?_, ?_⟩
  · rw [e 32 17 (by unfold Scr; omega), e 80 1 (by unfold Scr; omega)]; exact hS.2.2.2.2.1
  · rw [e 79 _ (by unfold Scr; omega), e 81 _ (by unfold Scr; omega)]; exact hS.2.2.2.2.2.1 k k1 k2
  · rw [e 80 39 (by unfold Scr; omega)]; exact hS.2.2.2.2.2.2.2.2
  · rw [e82]
    exact hH.same (fun a h1 h2 => er a (by omega) (by omega) (by omega) (by omega) (by omega) (by omega) (by omega)) (fun i _ => rfl)
  · rw [er a (by omega) (by omega) (by omega) (by omega) (by omega) (by omega) (by omega)]; exact h1 a h
  · rw [e _ _ (by unfold Scr; omega)]; exact h2
  · rw [e _ _ (by unfold Scr; omega)]; exact h3
  · rw [e _ _ (by unfold Scr; omega)]; exact h4 i hi
  · rw [e _ _ (by unfold Scr; omega)]; exact h5 k hk
  · rw [e _ _ (by unfold Scr; omega)]; exact h6 k hk
  · rw [e 59 0 (by unfold Scr; omega)]
    rcases h7 with z | ⟨z, z'⟩
    · exact Or.inl z
    · exact Or.inr ⟨z, fun i hi => by rw [e82]; exact z' i hi⟩
  · rw [e 80 39 (by unfold Scr; omega), e82]
    exact h8
/-- a call that reads, and scribbles -/
theorem good_scr (hS : SR H) (hH : HR H 33 (H 82)) (e : ∀ a i, ¬ Scr a i → H2 a i = H a i) : Good H H2 := by
  refine (good_read hS hH).scr (fun a i h => ?_)
  rw [e a i h, ev_u4 (by unfold Scr at h; omega)]
/-- a call that is refused, and scribbles -/
theorem good_rsc (hS : SR H) (hH : HR H 33 (H 82)) {v : Int} (hv : -6 ≤ v ∧ v < 0) (e : ∀ a i, ¬ Scr a i → H2 a i = t_ref (c_ref H v) v a i) : Good H H2 := by
  refine (good_ref hS hH hv).scr (fun a i h => ?_)
  rw [e a i h]
  simp only [t_ref, sm_u]
  unfold Scr at h
  grind
/-- a call that is taken, and scribbles -/
theorem good_tsc (hS : SR H) (e : ∀ a i, ¬ (Scr a i ∨ Tch a i) → H2 a i = H a i) (z1 : H2 32 17 = H2 80 1) (z2 : H2 59 0 = 1) (z4 : H2 80 39 = 0) (hH : HR H2 33 (H2 82)) : Good H H2 := by
  have hM : ∃ M : sm_H, (∀ a i, ¬ Scr a i → H2 a i = M a i) ∧ (∀ a i, Scr a i → M a i = H a i) := by
    classical
    exact ⟨fun a i => if Scr a i then H a i else H2 a i, fun a i h => by simp [h], fun a i h => by simp [h]⟩
  obtain ⟨M, h1, h2⟩ := hM
  refine Good.scr (M := M) (good_tak hS (fun a i h => ?_) ?_ ?_ ?_ ?_) h1
  · by_cases hs : Scr a i
    · exact h2 a i hs
    · rw [← h1 a i hs]; exact e a i (fun h' => h'.elim hs h)
  · rw [← h1 32 17 (by unfold Scr; omega), ← h1 80 1 (by unfold Scr; omega)]; exact z1
  · rw [← h1 59 0 (by unfold Scr; omega)]; exact z2
  · rw [← h1 80 39 (by unfold Scr; omega)]; exact z4
  · have e82 : M 82 = H2 82 := by funext i; exact (h1 82 i (by unfold Scr; omega)).symm
    rw [e82]
    exact hH.same (fun a k1 k2 => by funext i; exact (h1 a i (by unfold Scr; omega)).symm) (fun i _ => rfl)
end SCR
