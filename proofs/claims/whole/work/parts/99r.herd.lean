/-! a Herd at any address -/
def hfin (b : Nat) : List Nat := [0, b + 1, b + 2, b + 3, b + 4, 0, 0, b + 5, 0, b + 6, b + 7, 0, b + 8, 0, 0, b + 9, 0, b + 10, b + 11]
/-- a Herd and its rows stand at b and behind it -/
def HK (K : sm_K) (b : Nat) : Prop := sm_kd K b = some (2, (19, hfin b)) ∧ sm_kd K (b + 1) = some (20, (25, [])) ∧ sm_kd K (b + 2) = some (20, (45, [])) ∧ sm_kd K (b + 3) = some (20, (5, [])) ∧ sm_kd K (b + 4) = some (20, (5, [])) ∧ sm_kd K (b + 5) = some (20, (5, [])) ∧ sm_kd K (b + 6) = some (20, (120, [])) ∧ sm_kd K (b + 7) = some (20, (5, [])) ∧ sm_kd K (b + 8) = some (34, (6, [])) ∧ sm_kd K (b + 9) = some (20, (5, [])) ∧ sm_kd K (b + 10) = some (20, (20, [])) ∧ sm_kd K (b + 11) = some (20, (20, []))
section HERD
variable {d : Nat} {S : sm_E} {K : sm_K} {H : sm_H} {b c : Nat} {Q : sm_O → Prop}
theorem HK.ge (h : HK K b) : 32 ≤ b := (kd_lt h.1).1
theorem hk_g0 (h : HK K b) (κ : sm_V → Prop) : wgtf 2 0 K H b κ ↔ κ (.inl (H b 0)) := by unfold wgtf; rw [h.1]; exact Iff.rfl
theorem hk_p0 {o q : Nat} (h : HK K b) (x : Int) (κ : sm_K → sm_H → Prop) : wptf o q 2 0 K H b (.inl x) κ ↔ κ K (sm_u H b 0 x) := by unfold wptf; rw [h.1]; exact Iff.rfl
theorem hk_g1 (h : HK K b) (κ : sm_V → Prop) : wgtf 2 1 K H b κ ↔ κ (.inr (.inr (b + 1))) := by unfold wgtf; rw [h.1]; exact Iff.rfl
theorem hk_g2 (h : HK K b) (κ : sm_V → Prop) : wgtf 2 2 K H b κ ↔ κ (.inr (.inr (b + 2))) := by unfold wgtf; rw [h.1]; exact Iff.rfl
theorem hk_g3 (h : HK K b) (κ : sm_V → Prop) : wgtf 2 3 K H b κ ↔ κ (.inr (.inr (b + 3))) := by unfold wgtf; rw [h.1]; exact Iff.rfl
theorem hk_g4 (h : HK K b) (κ : sm_V → Prop) : wgtf 2 4 K H b κ ↔ κ (.inr (.inr (b + 4))) := by unfold wgtf; rw [h.1]; exact Iff.rfl
theorem hk_g5 (h : HK K b) (κ : sm_V → Prop) : wgtf 2 5 K H b κ ↔ κ (.inl (H b 5)) := by unfold wgtf; rw [h.1]; exact Iff.rfl
theorem hk_p5 {o q : Nat} (h : HK K b) (x : Int) (κ : sm_K → sm_H → Prop) : wptf o q 2 5 K H b (.inl x) κ ↔ κ K (sm_u H b 5 x) := by unfold wptf; rw [h.1]; exact Iff.rfl
theorem hk_g6 (h : HK K b) (κ : sm_V → Prop) : wgtf 2 6 K H b κ ↔ κ (.inl (H b 6)) := by unfold wgtf; rw [h.1]; exact Iff.rfl
theorem hk_p6 {o q : Nat} (h : HK K b) (x : Int) (κ : sm_K → sm_H → Prop) : wptf o q 2 6 K H b (.inl x) κ ↔ κ K (sm_u H b 6 x) := by unfold wptf; rw [h.1]; exact Iff.rfl
theorem hk_g7 (h : HK K b) (κ : sm_V → Prop) : wgtf 2 7 K H b κ ↔ κ (.inr (.inr (b + 5))) := by unfold wgtf; rw [h.1]; exact Iff.rfl
theorem hk_g8 (h : HK K b) (κ : sm_V → Prop) : wgtf 2 8 K H b κ ↔ κ (.inl (H b 8)) := by unfold wgtf; rw [h.1]; exact Iff.rfl
theorem hk_p8 {o q : Nat} (h : HK K b) (x : Int) (κ : sm_K → sm_H → Prop) : wptf o q 2 8 K H b (.inl x) κ ↔ κ K (sm_u H b 8 x) := by unfold wptf; rw [h.1]; exact Iff.rfl
theorem hk_g9 (h : HK K b) (κ : sm_V → Prop) : wgtf 2 9 K H b κ ↔ κ (.inr (.inr (b + 6))) := by unfold wgtf; rw [h.1]; exact Iff.rfl
theorem hk_g10 (h : HK K b) (κ : sm_V → Prop) : wgtf 2 10 K H b κ ↔ κ (.inr (.inr (b + 7))) := by unfold wgtf; rw [h.1]; exact Iff.rfl
theorem hk_g11 (h : HK K b) (κ : sm_V → Prop) : wgtf 2 11 K H b κ ↔ κ (.inl (H b 11)) := by unfold wgtf; rw [h.1]; exact Iff.rfl
theorem hk_p11 {o q : Nat} (h : HK K b) (x : Int) (κ : sm_K → sm_H → Prop) : wptf o q 2 11 K H b (.inl x) κ ↔ κ K (sm_u H b 11 x) := by unfold wptf; rw [h.1]; exact Iff.rfl
theorem hk_g12 (h : HK K b) (κ : sm_V → Prop) : wgtf 2 12 K H b κ ↔ κ (.inr (.inr (b + 8))) := by unfold wgtf; rw [h.1]; exact Iff.rfl
theorem hk_g13 (h : HK K b) (κ : sm_V → Prop) : wgtf 2 13 K H b κ ↔ κ (.inl (H b 13)) := by unfold wgtf; rw [h.1]; exact Iff.rfl
theorem hk_p13 {o q : Nat} (h : HK K b) (x : Int) (κ : sm_K → sm_H → Prop) : wptf o q 2 13 K H b (.inl x) κ ↔ κ K (sm_u H b 13 x) := by unfold wptf; rw [h.1]; exact Iff.rfl
theorem hk_g14 (h : HK K b) (κ : sm_V → Prop) : wgtf 2 14 K H b κ ↔ κ (.inl (H b 14)) := by unfold wgtf; rw [h.1]; exact Iff.rfl
theorem hk_p14 {o q : Nat} (h : HK K b) (x : Int) (κ : sm_K → sm_H → Prop) : wptf o q 2 14 K H b (.inl x) κ ↔ κ K (sm_u H b 14 x) := by unfold wptf; rw [h.1]; exact Iff.rfl
theorem hk_g15 (h : HK K b) (κ : sm_V → Prop) : wgtf 2 15 K H b κ ↔ κ (.inr (.inr (b + 9))) := by unfold wgtf; rw [h.1]; exact Iff.rfl
theorem hk_g16 (h : HK K b) (κ : sm_V → Prop) : wgtf 2 16 K H b κ ↔ κ (.inl (H b 16)) := by unfold wgtf; rw [h.1]; exact Iff.rfl
theorem hk_p16 {o q : Nat} (h : HK K b) (x : Int) (κ : sm_K → sm_H → Prop) : wptf o q 2 16 K H b (.inl x) κ ↔ κ K (sm_u H b 16 x) := by unfold wptf; rw [h.1]; exact Iff.rfl
theorem hk_g17 (h : HK K b) (κ : sm_V → Prop) : wgtf 2 17 K H b κ ↔ κ (.inr (.inr (b + 10))) := by unfold wgtf; rw [h.1]; exact Iff.rfl
theorem hk_g18 (h : HK K b) (κ : sm_V → Prop) : wgtf 2 18 K H b κ ↔ κ (.inr (.inr (b + 11))) := by unfold wgtf; rw [h.1]; exact Iff.rfl
theorem hk_n1 (h : HK K b) (κ : Int → Prop) : wlen S K (b + 1) κ ↔ κ 25 := by have hb := h.ge; exact len_dyn (n := 25) (k := 20) (x := []) (by omega) (by omega) (by omega) (h.2.1)
theorem hk_c1 (h : HK K b) (h2 : HK K c) (κ : sm_H → Prop) : wcp K H (c + 1) 0 (b + 1) 0 25 κ ↔ κ (sm_cp H (c + 1) 0 (b + 1) 0 25) := by
  unfold wcp
  rw [h2.2.1, h.2.1]
  exact ⟨fun q => q.2, fun q => ⟨⟨rfl, Or.inl rfl, by omega, by omega, by omega, by simp, by simp, fun h => absurd h (by decide)⟩, q⟩⟩
theorem hk_n2 (h : HK K b) (κ : Int → Prop) : wlen S K (b + 2) κ ↔ κ 45 := by have hb := h.ge; exact len_dyn (n := 45) (k := 20) (x := []) (by omega) (by omega) (by omega) (h.2.2.1)
theorem hk_c2 (h : HK K b) (h2 : HK K c) (κ : sm_H → Prop) : wcp K H (c + 2) 0 (b + 2) 0 45 κ ↔ κ (sm_cp H (c + 2) 0 (b + 2) 0 45) := by
  unfold wcp
  rw [h2.2.2.1, h.2.2.1]
  exact ⟨fun q => q.2, fun q => ⟨⟨rfl, Or.inl rfl, by omega, by omega, by omega, by simp, by simp, fun h => absurd h (by decide)⟩, q⟩⟩
theorem hk_c3 (h : HK K b) (h2 : HK K c) (κ : sm_H → Prop) : wcp K H (c + 3) 0 (b + 3) 0 5 κ ↔ κ (sm_cp H (c + 3) 0 (b + 3) 0 5) := by
  unfold wcp
  rw [h2.2.2.2.1, h.2.2.2.1]
  exact ⟨fun q => q.2, fun q => ⟨⟨rfl, Or.inl rfl, by omega, by omega, by omega, by simp, by simp, fun h => absurd h (by decide)⟩, q⟩⟩
theorem hk_c4 (h : HK K b) (h2 : HK K c) (κ : sm_H → Prop) : wcp K H (c + 4) 0 (b + 4) 0 5 κ ↔ κ (sm_cp H (c + 4) 0 (b + 4) 0 5) := by
  unfold wcp
  rw [h2.2.2.2.2.1, h.2.2.2.2.1]
  exact ⟨fun q => q.2, fun q => ⟨⟨rfl, Or.inl rfl, by omega, by omega, by omega, by simp, by simp, fun h => absurd h (by decide)⟩, q⟩⟩
theorem hk_c7 (h : HK K b) (h2 : HK K c) (κ : sm_H → Prop) : wcp K H (c + 5) 0 (b + 5) 0 5 κ ↔ κ (sm_cp H (c + 5) 0 (b + 5) 0 5) := by
  unfold wcp
  rw [h2.2.2.2.2.2.1, h.2.2.2.2.2.1]
  exact ⟨fun q => q.2, fun q => ⟨⟨rfl, Or.inl rfl, by omega, by omega, by omega, by simp, by simp, fun h => absurd h (by decide)⟩, q⟩⟩
theorem hk_n9 (h : HK K b) (κ : Int → Prop) : wlen S K (b + 6) κ ↔ κ 120 := by have hb := h.ge; exact len_dyn (n := 120) (k := 20) (x := []) (by omega) (by omega) (by omega) (h.2.2.2.2.2.2.1)
theorem hk_c9 (h : HK K b) (h2 : HK K c) (κ : sm_H → Prop) : wcp K H (c + 6) 0 (b + 6) 0 120 κ ↔ κ (sm_cp H (c + 6) 0 (b + 6) 0 120) := by
  unfold wcp
  rw [h2.2.2.2.2.2.2.1, h.2.2.2.2.2.2.1]
  exact ⟨fun q => q.2, fun q => ⟨⟨rfl, Or.inl rfl, by omega, by omega, by omega, by simp, by simp, fun h => absurd h (by decide)⟩, q⟩⟩
theorem hk_n10 (h : HK K b) (κ : Int → Prop) : wlen S K (b + 7) κ ↔ κ 5 := by have hb := h.ge; exact len_dyn (n := 5) (k := 20) (x := []) (by omega) (by omega) (by omega) (h.2.2.2.2.2.2.2.1)
theorem hk_c10 (h : HK K b) (h2 : HK K c) (κ : sm_H → Prop) : wcp K H (c + 7) 0 (b + 7) 0 5 κ ↔ κ (sm_cp H (c + 7) 0 (b + 7) 0 5) := by
  unfold wcp
  rw [h2.2.2.2.2.2.2.2.1, h.2.2.2.2.2.2.2.1]
  exact ⟨fun q => q.2, fun q => ⟨⟨rfl, Or.inl rfl, by omega, by omega, by omega, by simp, by simp, fun h => absurd h (by decide)⟩, q⟩⟩
theorem hk_c12 (h : HK K b) (h2 : HK K c) (hq : ∀ t : Nat, t < 6 → sm_lawq K (H (c + 8) t).toNat = true) (κ : sm_H → Prop) : wcp K H (c + 8) 0 (b + 8) 0 6 κ ↔ κ (sm_cp H (c + 8) 0 (b + 8) 0 6) := by
  unfold wcp
  rw [h2.2.2.2.2.2.2.2.2.1, h.2.2.2.2.2.2.2.2.1]
  refine ⟨fun q => q.2, fun q => ⟨⟨rfl, Or.inr (Or.inr rfl), by omega, by omega, by omega, by simp, by simp, fun _ => ?_⟩, q⟩⟩
  rw [List.all_eq_true]
  intro t ht
  rw [List.mem_range] at ht
  rw [Int.zero_add]
  exact hq t (by simpa using ht)
theorem hk_c15 (h : HK K b) (h2 : HK K c) (κ : sm_H → Prop) : wcp K H (c + 9) 0 (b + 9) 0 5 κ ↔ κ (sm_cp H (c + 9) 0 (b + 9) 0 5) := by
  unfold wcp
  rw [h2.2.2.2.2.2.2.2.2.2.1, h.2.2.2.2.2.2.2.2.2.1]
  exact ⟨fun q => q.2, fun q => ⟨⟨rfl, Or.inl rfl, by omega, by omega, by omega, by simp, by simp, fun h => absurd h (by decide)⟩, q⟩⟩
theorem hk_c17 (h : HK K b) (h2 : HK K c) (κ : sm_H → Prop) : wcp K H (c + 10) 0 (b + 10) 0 20 κ ↔ κ (sm_cp H (c + 10) 0 (b + 10) 0 20) := by
  unfold wcp
  rw [h2.2.2.2.2.2.2.2.2.2.2.1, h.2.2.2.2.2.2.2.2.2.2.1]
  exact ⟨fun q => q.2, fun q => ⟨⟨rfl, Or.inl rfl, by omega, by omega, by omega, by simp, by simp, fun h => absurd h (by decide)⟩, q⟩⟩
theorem hk_c18 (h : HK K b) (h2 : HK K c) (κ : sm_H → Prop) : wcp K H (c + 11) 0 (b + 11) 0 20 κ ↔ κ (sm_cp H (c + 11) 0 (b + 11) 0 20) := by
  unfold wcp
  rw [h2.2.2.2.2.2.2.2.2.2.2.2, h.2.2.2.2.2.2.2.2.2.2.2]
  exact ⟨fun q => q.2, fun q => ⟨⟨rfl, Or.inl rfl, by omega, by omega, by omega, by simp, by simp, fun h => absurd h (by decide)⟩, q⟩⟩
theorem cph_eq {H : sm_H} {a b : Nat} {n k : Int} (h : 0 ≤ k ∧ k < n) : sm_cp H a 0 b 0 n b k = H a k := by rw [cpz_at, if_pos ⟨rfl, h⟩]
theorem cph_ne {H : sm_H} {a b x : Nat} {n k : Int} (h : x ≠ b) : sm_cp H a 0 b 0 n x k = H x k := by rw [cpz_at, if_neg (fun q => h q.1)]
/-- the herd at b is as that at c -/
def Bec (H H' : sm_H) (b c : Nat) : Prop := (∀ i : Int, i = 0 ∨ i = 5 ∨ i = 6 ∨ i = 8 ∨ i = 11 ∨ i = 13 ∨ i = 14 ∨ i = 16 → H' b i = H c i) ∧ (∀ i : Int, 0 ≤ i → i < 25 → H' (b + 1) i = H (c + 1) i) ∧ (∀ i : Int, 0 ≤ i → i < 45 → H' (b + 2) i = H (c + 2) i) ∧ (∀ i : Int, 0 ≤ i → i < 5 → H' (b + 3) i = H (c + 3) i) ∧ (∀ i : Int, 0 ≤ i → i < 5 → H' (b + 4) i = H (c + 4) i) ∧ (∀ i : Int, 0 ≤ i → i < 5 → H' (b + 5) i = H (c + 5) i) ∧ (∀ i : Int, 0 ≤ i → i < 120 → H' (b + 6) i = H (c + 6) i) ∧ (∀ i : Int, 0 ≤ i → i < 5 → H' (b + 7) i = H (c + 7) i) ∧ (∀ i : Int, 0 ≤ i → i < 6 → H' (b + 8) i = H (c + 8) i) ∧ (∀ i : Int, 0 ≤ i → i < 5 → H' (b + 9) i = H (c + 9) i) ∧ (∀ i : Int, 0 ≤ i → i < 20 → H' (b + 10) i = H (c + 10) i) ∧ (∀ i : Int, 0 ≤ i → i < 20 → H' (b + 11) i = H (c + 11) i)
theorem b_become (h : HK K b) (h2 : HK K c) (hbc : b + 12 ≤ c ∨ c + 12 ≤ b) (hq : ∀ t : Nat, t < 6 → sm_lawq K (H (c + 8) t).toNat = true) (hQ : ∀ H', Bec H H' b c → (∀ x i, ¬ (b ≤ x ∧ x ≤ b + 11) → H' x i = H x i) → Q (K, (H', none))) : Ru S (d + 1) 15 [.inr (.inr b), .inr (.inr c)] K H Q := by
  have hb := h.ge
  have hcc := h2.ge
  have hq12 : ∀ t : Nat, t < 6 → sm_lawq K ((sm_u (sm_cp (sm_cp (sm_u (sm_cp (sm_u (sm_u (sm_cp (sm_cp (sm_cp (sm_cp (sm_u (H) b 0 (H c 0)) (c + 1) 0 (b + 1) 0 25) (c + 2) 0 (b + 2) 0 45) (c + 3) 0 (b + 3) 0 5) (c + 4) 0 (b + 4) 0 5) b 5 (H c 5)) b 6 (H c 6)) (c + 5) 0 (b + 5) 0 5) b 8 (H c 8)) (c + 6) 0 (b + 6) 0 120) (c + 7) 0 (b + 7) 0 5) b 11 (H c 11)) (c + 8) t).toNat = true := fun t ht => by
    rw [show (sm_u (sm_cp (sm_cp (sm_u (sm_cp (sm_u (sm_u (sm_cp (sm_cp (sm_cp (sm_cp (sm_u (H) b 0 (H c 0)) (c + 1) 0 (b + 1) 0 25) (c + 2) 0 (b + 2) 0 45) (c + 3) 0 (b + 3) 0 5) (c + 4) 0 (b + 4) 0 5) b 5 (H c 5)) b 6 (H c 6)) (c + 5) 0 (b + 5) 0 5) b 8 (H c 8)) (c + 6) 0 (b + 6) 0 120) (c + 7) 0 (b + 7) 0 5) b 11 (H c 11)) (c + 8) t = H (c + 8) t by simp (disch := omega) only [cph_ne, ev_u2]]
    exact hq t ht
  have hc12 := hk_c12 (H := sm_u (sm_cp (sm_cp (sm_u (sm_cp (sm_u (sm_u (sm_cp (sm_cp (sm_cp (sm_cp (sm_u (H) b 0 (H c 0)) (c + 1) 0 (b + 1) 0 25) (c + 2) 0 (b + 2) 0 45) (c + 3) 0 (b + 3) 0 5) (c + 4) 0 (b + 4) 0 5) b 5 (H c 5)) b 6 (H c 6)) (c + 5) 0 (b + 5) 0 5) b 8 (H c 8)) (c + 6) 0 (b + 6) 0 120) (c + 7) 0 (b + 7) 0 5) b 11 (H c 11)) h h2 hq12
  have key := hQ (sm_cp (sm_cp (sm_u (sm_cp (sm_u (sm_u (sm_cp (sm_u (sm_cp (sm_cp (sm_u (sm_cp (sm_u (sm_u (sm_cp (sm_cp (sm_cp (sm_cp (sm_u (H) b 0 (H c 0)) (c + 1) 0 (b + 1) 0 25) (c + 2) 0 (b + 2) 0 45) (c + 3) 0 (b + 3) 0 5) (c + 4) 0 (b + 4) 0 5) b 5 (H c 5)) b 6 (H c 6)) (c + 5) 0 (b + 5) 0 5) b 8 (H c 8)) (c + 6) 0 (b + 6) 0 120) (c + 7) 0 (b + 7) 0 5) b 11 (H c 11)) (c + 8) 0 (b + 8) 0 6) b 13 (H c 13)) b 14 (H c 14)) (c + 9) 0 (b + 9) 0 5) b 16 (H c 16)) (c + 10) 0 (b + 10) 0 20) (c + 11) 0 (b + 11) 0 20) ⟨?_, ?_, ?_, ?_, ?_, ?_, ?_, ?_, ?_, ?_, ?_, ?_⟩ ?_
  · simp (disch := omega) only [r15, x15_0, x15_1, x15_2, x15_5, x15_8, x15_9, x15_12, x15_13, x15_14, x15_17, x15_18, x15_19, x15_22, x15_23, x15_26, x15_27, x15_30, x15_31, x15_32, x15_35, x15_36, x15_37, x15_40, x15_41, x15_44, x15_45, x15_48, x15_49, x15_50, x15_53, x15_54, x15_55, x15_58, x15_59, x15_62, x15_63, x15_64, x15_67, x15_68, x15_69, x15_72, x15_73, x15_74, x15_77, x15_80, x15_81, x15_82, x15_85, x15_88, x15_89, x15_92, x15_93, x15_94, x15_97, x15_98, x15_99, x15_102, x15_103, x15_104, x15_107, x15_110, x15_111, x15_114, x15_115, x15_116, x15_119, x15_120, x15_121, x15_124, x15_125, x15_128, x15_129, x15_132, x15_133, x15_134, x15_137, x15_138, x15_139, x15_142, x15_143, x15_146, x15_147, x15_148, x15_151, x15_154, x15_155, x15_158, x15_159, x15_160, x15_163, x15_164, x15_166, x15_169, x15_170, x15_171, x15_174, x15_177, x15_178, x15_179, x15_182, x15_185, x15_186, x15_189, x15_190, x15_191, x15_194, x15_195, x15_196, x15_199, x15_200, x15_201, x15_204, x15_207, x15_208, x15_211, x15_212, x15_213, x15_216, x15_217, x15_219, x15_222, x15_223, x15_226, x15_227, x15_228, x15_231, x15_232, x15_234, x15_237, ct_c, ct_z, cat_I, cat_J, cat_A, lq_I, lq_A, lq_n, Nat.reduceAdd, Nat.reduceLeDiff, true_and, and_true, true_or, or_true, ev_b, eq_self, Option.toList_some, Option.toList_none, List.cons_append, List.nil_append, rc32, rc33, n34, n35, n36, n37, n38, n39, n40, n41, n42, n43, n44, n45, n46, rc47, n48, n49, rc50, n51, n52, rc53, n54, n55, n56, n57, n58, rc59, n60, n61, n62, n63, n64, n65, rc66, n67, n68, rc69, n70, n71, rc72, n73, n74, n75, n76, n77, n78, n79, rc80, n81, n82, n83, n84, n85, n86, n87, n88, n89, n90, n91, n92, n93, n94, n95, n96, n97, n98, n99, n100, n101, n102, n103, n104, n105, n106, n107, n108, n109, n110, n111, n112, n113, g32_0, g32_1, g32_2, g32_3, g32_4, g32_5, g32_6, g32_7, g32_8, g32_9, g32_10, g32_11, g32_12, g32_13, g32_14, g32_15, g32_16, g32_17, g33_0, g33_1, g33_2, g33_3, g33_4, g33_5, g33_6, g33_7, g33_8, g33_9, g33_10, g33_11, g33_12, g33_13, g33_14, g33_15, g33_16, g33_17, g33_18, g47_0, g47_1, g47_2, g47_3, g47_4, g47_5, g47_6, g47_7, g47_8, g47_9, g47_10, g50_0, g50_1, g50_2, g53_0, g53_1, g53_2, g53_3, g53_4, g53_5, g53_6, g53_7, g53_8, g53_9, g53_10, g53_11, g59_0, g59_1, g59_2, g59_3, g59_4, g59_5, g59_6, g59_7, g59_8, g59_9, g59_10, g59_11, g59_12, g66_0, g66_1, g66_2, g66_3, g66_4, g66_5, g69_0, g69_1, g69_2, g69_3, g72_0, g72_1, g72_2, g80_0, g80_1, g80_2, g80_3, g80_4, g80_5, g80_6, g80_7, g80_8, g80_9, g80_10, g80_11, g80_12, g80_13, g80_14, g80_15, g80_16, g80_17, g80_18, g80_19, g80_20, g80_21, g80_22, g80_23, g80_24, g80_25, g80_26, g80_27, g80_28, g80_29, g80_30, g80_31, g80_32, g80_33, g80_34, g80_35, g80_36, g80_37, g80_38, g80_39, g80_40, g80_41, g80_42, g80_43, g80_44, g80_45, g80_46, g80_47, g80_48, g80_49, g80_50, g80_51, g80_52, g80_53, g80_54, g80_55, g80_56, g80_57, g80_58, g80_59, g80_60, g80_61, p32_3, p32_14, p32_15, p32_17, p33_0, p33_5, p33_6, p33_8, p33_11, p33_13, p33_14, p33_16, p47_0, p47_1, p47_2, p47_3, p47_4, p47_5, p47_6, p47_7, p47_10, p50_2, p53_1, p53_2, p53_3, p53_5, p53_6, p53_7, p59_0, p59_1, p59_2, p59_3, p59_6, p59_7, p59_8, p59_9, p66_0, p66_1, p66_4, p66_5, p69_0, p69_1, p80_0, p80_1, p80_6, p80_8, p80_10, p80_11, p80_12, p80_13, p80_14, p80_15, p80_16, p80_17, p80_19, p80_22, p80_25, p80_26, p80_29, p80_32, p80_33, p80_34, p80_37, p80_38, p80_39, p80_47, p80_48, p80_50, p80_51, p80_59, p80_61, l34, l35, l36, l37, l38, l39, l40, l41, l42, l43, l44, l45, l46, l48, l49, l51, l52, l54, l55, l56, l57, l58, l60, l61, l62, l63, l64, l65, l67, l68, l70, l71, l73, l74, l75, l76, l77, l78, l79, l81, l82, l83, l84, l85, l86, l87, l88, l89, l90, l91, l92, l93, l94, l95, l96, l97, l98, l99, l100, l101, l102, l103, l104, l105, l106, l107, l108, l109, l110, l111, l112, l113, s34, s35, s36, s37, s38, s39, s40, s42, s43, s44, s46, s48, s49, s51, s52, s54, s55, s56, s57, s58, s60, s61, s62, s63, s64, s65, s67, s68, s70, s71, s73, s74, s75, s76, s77, s78, s79, s81, s82, s83, s84, s85, s86, s87, s88, s89, s90, s91, s92, s93, s94, s95, s96, s97, s98, s99, s100, s101, s102, s103, s104, s105, s106, s107, s108, s109, s110, s111, s112, s113, sw_id, sq_id, ev_u1, ev_u2, ev_u3, ↓ok_imp, ↓no_imp, ↓ok_and, Int.reduceAdd, Int.reduceSub, Int.reduceMul, Int.reduceNeg, false_implies, true_implies, not_true_eq_false, not_false_eq_true, hk_g0 h, hk_g1 h, hk_g2 h, hk_g3 h, hk_g4 h, hk_g5 h, hk_g6 h, hk_g7 h, hk_g8 h, hk_g9 h, hk_g10 h, hk_g11 h, hk_g12 h, hk_g13 h, hk_g14 h, hk_g15 h, hk_g16 h, hk_g17 h, hk_g18 h, hk_g0 h2, hk_g1 h2, hk_g2 h2, hk_g3 h2, hk_g4 h2, hk_g5 h2, hk_g6 h2, hk_g7 h2, hk_g8 h2, hk_g9 h2, hk_g10 h2, hk_g11 h2, hk_g12 h2, hk_g13 h2, hk_g14 h2, hk_g15 h2, hk_g16 h2, hk_g17 h2, hk_g18 h2, hk_p0 h, hk_p5 h, hk_p6 h, hk_p8 h, hk_p11 h, hk_p13 h, hk_p14 h, hk_p16 h, hk_n1 h, hk_n2 h, hk_n9 h, hk_n10 h, hk_c1 h h2, hk_c2 h h2, hk_c3 h h2, hk_c4 h h2, hk_c7 h h2, hk_c9 h h2, hk_c10 h h2, hk_c15 h h2, hk_c17 h h2, hk_c18 h h2, hc12, cph_ne, ev_u2]
    exact key
  · intro i hi
    rcases hi with rfl | rfl | rfl | rfl | rfl | rfl | rfl | rfl <;> simp (disch := omega) only [cph_ne, ev_u1, ev_u3]
  · intro i i0 i1
    simp (disch := omega) only [cph_ne, cph_eq, ev_u2]
  · intro i i0 i1
    simp (disch := omega) only [cph_ne, cph_eq, ev_u2]
  · intro i i0 i1
    simp (disch := omega) only [cph_ne, cph_eq, ev_u2]
  · intro i i0 i1
    simp (disch := omega) only [cph_ne, cph_eq, ev_u2]
  · intro i i0 i1
    simp (disch := omega) only [cph_ne, cph_eq, ev_u2]
  · intro i i0 i1
    simp (disch := omega) only [cph_ne, cph_eq, ev_u2]
  · intro i i0 i1
    simp (disch := omega) only [cph_ne, cph_eq, ev_u2]
  · intro i i0 i1
    simp (disch := omega) only [cph_ne, cph_eq, ev_u2]
  · intro i i0 i1
    simp (disch := omega) only [cph_ne, cph_eq, ev_u2]
  · intro i i0 i1
    simp (disch := omega) only [cph_ne, cph_eq, ev_u2]
  · intro i i0 i1
    simp (disch := omega) only [cph_ne, cph_eq, ev_u2]
  · intro x i hx
    simp (disch := omega) only [cph_ne, ev_u2]
end HERD
