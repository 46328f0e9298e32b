/-! THE STRUCTURE after the two constructors (by program), and what an access at its places is -/
def kk0 : sm_K := [(9, (18, [33, 45, 46, 0, 47, 50, 53, 59, 66, 69, 72, 76, 77, 78, 0, 0, 79, 0])), (2, (19, [0, 34, 35, 36, 37, 0, 0, 38, 0, 39, 40, 0, 41, 0, 0, 42, 0, 43, 44])), (20, (25, [])), (20, (45, [])), (20, (5, [])), (20, (5, [])), (20, (5, [])), (20, (120, [])), (20, (5, [])), (34, (6, [])), (20, (5, [])), (20, (20, [])), (20, (20, [])), (32, (2, [])), (20, (400, [])), (8, (11, [0, 0, 0, 0, 0, 0, 0, 0, 48, 49, 0])), (20, (48, [])), (20, (400, [])), (3, (3, [51, 52, 0])), (20, (10, [])), (21, (64, [])), (7, (12, [54, 0, 0, 0, 50, 0, 0, 0, 55, 56, 57, 58])), (20, (5, [])), (20, (50, [])), (20, (50, [])), (20, (5, [])), (20, (1500, [])), (0, (13, [0, 0, 0, 0, 60, 53, 0, 0, 0, 0, 63, 64, 65])), (20, (45, [])), (20, (0, [])), (20, (0, [])), (20, (46, [])), (20, (46, [])), (20, (46, [])), (1, (6, [0, 0, 67, 68, 0, 0])), (20, (5, [])), (20, (5, [])), (5, (4, [0, 0, 70, 71])), (20, (325, [])), (20, (325, [])), (6, (3, [73, 74, 75])), (21, (6, [])), (21, (6, [])), (21, (6, [])), (20, (5, [])), (21, (5, [])), (20, (5, [])), (20, (6, [])), (10, (62, [0, 0, 81, 82, 83, 84, 0, 85, 0, 86, 0, 0, 0, 0, 0, 0, 0, 0, 87, 0, 88, 89, 0, 90, 91, 0, 0, 92, 93, 0, 94, 95, 0, 0, 0, 96, 97, 0, 0, 0, 98, 99, 100, 101, 102, 103, 104, 0, 0, 105, 0, 0, 106, 107, 108, 109, 110, 111, 112, 0, 113, 0])), (20, (7, [])), (20, (5620, [])), (20, (11240, [])), (22, (2, [])), (20, (24, [])), (20, (400, [])), (20, (96, [])), (20, (400, [])), (20, (400, [])), (20, (400, [])), (20, (400, [])), (21, (10, [])), (21, (5, [])), (21, (13, [])), (21, (400, [])), (20, (5, [])), (21, (5, [])), (20, (6, [])), (20, (500000, [])), (20, (100000, [])), (20, (100000, [])), (20, (100000, [])), (20, (100000, [])), (22, (100000, [])), (20, (12, [])), (20, (5, [])), (20, (5, [])), (20, (325, [])), (21, (325, [])), (21, (8, [])), (21, (8, [])), (21, (8, [])), (20, (5, []))]
theorem kk0_len : kk0.length = 82 := by decide +kernel
theorem wk_putZ {o q c k a : Nat} {ce : sm_C} {K : sm_K} {H : sm_H} {x : Int} {κ : sm_K → sm_H → Prop} (hk : sm_kd K a = some ce) (hc : ce.1 = c) (ht : sm_ft c k = 4 ∧ sm_fin c k = false) : wptf o q c k K H a (.inl x) κ ↔ (x = 0 ∨ x = 1) ∧ κ K (sm_u H a k x) := by
  unfold wptf
  rw [hk]
  simp only
  rw [if_pos ⟨hc, fun h => by rw [ht.2] at h; cases h⟩]
  unfold sm_wr
  simp only [ht.1]
  by_cases h : x = 0 ∨ x = 1
  · simp [h]
  · simp [h]
theorem rc32 {Ls : sm_K} : (sm_rcv (kk0 ++ Ls) 9 (some (.inr (.inr 32))) = true) ↔ True := iff_true_intro rfl
theorem g32_0 {Ls : sm_K} {H : sm_H} {κ : sm_V → Prop} : wgtf 9 0 (kk0 ++ Ls) H 32 κ ↔ κ (.inr (.inr 33)) := Iff.rfl
theorem g32_1 {Ls : sm_K} {H : sm_H} {κ : sm_V → Prop} : wgtf 9 1 (kk0 ++ Ls) H 32 κ ↔ κ (.inr (.inr 45)) := Iff.rfl
theorem g32_2 {Ls : sm_K} {H : sm_H} {κ : sm_V → Prop} : wgtf 9 2 (kk0 ++ Ls) H 32 κ ↔ κ (.inr (.inr 46)) := Iff.rfl
theorem g32_3 {Ls : sm_K} {H : sm_H} {κ : sm_V → Prop} : wgtf 9 3 (kk0 ++ Ls) H 32 κ ↔ κ (.inl (H 32 3)) := Iff.rfl
theorem p32_3 {o q : Nat} {Ls : sm_K} {H : sm_H} {x : Int} {κ : sm_K → sm_H → Prop} : wptf o q 9 3 (kk0 ++ Ls) H 32 (.inl x) κ ↔ κ (kk0 ++ Ls) (sm_u H 32 3 x) := Iff.rfl
theorem g32_4 {Ls : sm_K} {H : sm_H} {κ : sm_V → Prop} : wgtf 9 4 (kk0 ++ Ls) H 32 κ ↔ κ (.inr (.inr 47)) := Iff.rfl
theorem g32_5 {Ls : sm_K} {H : sm_H} {κ : sm_V → Prop} : wgtf 9 5 (kk0 ++ Ls) H 32 κ ↔ κ (.inr (.inr 50)) := Iff.rfl
theorem g32_6 {Ls : sm_K} {H : sm_H} {κ : sm_V → Prop} : wgtf 9 6 (kk0 ++ Ls) H 32 κ ↔ κ (.inr (.inr 53)) := Iff.rfl
theorem g32_7 {Ls : sm_K} {H : sm_H} {κ : sm_V → Prop} : wgtf 9 7 (kk0 ++ Ls) H 32 κ ↔ κ (.inr (.inr 59)) := Iff.rfl
theorem g32_8 {Ls : sm_K} {H : sm_H} {κ : sm_V → Prop} : wgtf 9 8 (kk0 ++ Ls) H 32 κ ↔ κ (.inr (.inr 66)) := Iff.rfl
theorem g32_9 {Ls : sm_K} {H : sm_H} {κ : sm_V → Prop} : wgtf 9 9 (kk0 ++ Ls) H 32 κ ↔ κ (.inr (.inr 69)) := Iff.rfl
theorem g32_10 {Ls : sm_K} {H : sm_H} {κ : sm_V → Prop} : wgtf 9 10 (kk0 ++ Ls) H 32 κ ↔ κ (.inr (.inr 72)) := Iff.rfl
theorem g32_11 {Ls : sm_K} {H : sm_H} {κ : sm_V → Prop} : wgtf 9 11 (kk0 ++ Ls) H 32 κ ↔ κ (.inr (.inr 76)) := Iff.rfl
theorem g32_12 {Ls : sm_K} {H : sm_H} {κ : sm_V → Prop} : wgtf 9 12 (kk0 ++ Ls) H 32 κ ↔ κ (.inr (.inr 77)) := Iff.rfl
theorem g32_13 {Ls : sm_K} {H : sm_H} {κ : sm_V → Prop} : wgtf 9 13 (kk0 ++ Ls) H 32 κ ↔ κ (.inr (.inr 78)) := Iff.rfl
theorem g32_14 {Ls : sm_K} {H : sm_H} {κ : sm_V → Prop} : wgtf 9 14 (kk0 ++ Ls) H 32 κ ↔ κ (.inl (H 32 14)) := Iff.rfl
theorem p32_14 {o q : Nat} {Ls : sm_K} {H : sm_H} {x : Int} {κ : sm_K → sm_H → Prop} : wptf o q 9 14 (kk0 ++ Ls) H 32 (.inl x) κ ↔ κ (kk0 ++ Ls) (sm_u H 32 14 x) := Iff.rfl
theorem g32_15 {Ls : sm_K} {H : sm_H} {κ : sm_V → Prop} : wgtf 9 15 (kk0 ++ Ls) H 32 κ ↔ κ (.inl (H 32 15)) := Iff.rfl
theorem p32_15 {o q : Nat} {Ls : sm_K} {H : sm_H} {x : Int} {κ : sm_K → sm_H → Prop} : wptf o q 9 15 (kk0 ++ Ls) H 32 (.inl x) κ ↔ κ (kk0 ++ Ls) (sm_u H 32 15 x) := Iff.rfl
theorem g32_16 {Ls : sm_K} {H : sm_H} {κ : sm_V → Prop} : wgtf 9 16 (kk0 ++ Ls) H 32 κ ↔ κ (.inr (.inr 79)) := Iff.rfl
theorem g32_17 {Ls : sm_K} {H : sm_H} {κ : sm_V → Prop} : wgtf 9 17 (kk0 ++ Ls) H 32 κ ↔ κ (.inl (H 32 17)) := Iff.rfl
theorem p32_17 {o q : Nat} {Ls : sm_K} {H : sm_H} {x : Int} {κ : sm_K → sm_H → Prop} : wptf o q 9 17 (kk0 ++ Ls) H 32 (.inl x) κ ↔ κ (kk0 ++ Ls) (sm_u H 32 17 x) := Iff.rfl
theorem rc33 {Ls : sm_K} : (sm_rcv (kk0 ++ Ls) 2 (some (.inr (.inr 33))) = true) ↔ True := iff_true_intro rfl
theorem g33_0 {Ls : sm_K} {H : sm_H} {κ : sm_V → Prop} : wgtf 2 0 (kk0 ++ Ls) H 33 κ ↔ κ (.inl (H 33 0)) := Iff.rfl
theorem p33_0 {o q : Nat} {Ls : sm_K} {H : sm_H} {x : Int} {κ : sm_K → sm_H → Prop} : wptf o q 2 0 (kk0 ++ Ls) H 33 (.inl x) κ ↔ κ (kk0 ++ Ls) (sm_u H 33 0 x) := Iff.rfl
theorem g33_1 {Ls : sm_K} {H : sm_H} {κ : sm_V → Prop} : wgtf 2 1 (kk0 ++ Ls) H 33 κ ↔ κ (.inr (.inr 34)) := Iff.rfl
theorem g33_2 {Ls : sm_K} {H : sm_H} {κ : sm_V → Prop} : wgtf 2 2 (kk0 ++ Ls) H 33 κ ↔ κ (.inr (.inr 35)) := Iff.rfl
theorem g33_3 {Ls : sm_K} {H : sm_H} {κ : sm_V → Prop} : wgtf 2 3 (kk0 ++ Ls) H 33 κ ↔ κ (.inr (.inr 36)) := Iff.rfl
theorem g33_4 {Ls : sm_K} {H : sm_H} {κ : sm_V → Prop} : wgtf 2 4 (kk0 ++ Ls) H 33 κ ↔ κ (.inr (.inr 37)) := Iff.rfl
theorem g33_5 {Ls : sm_K} {H : sm_H} {κ : sm_V → Prop} : wgtf 2 5 (kk0 ++ Ls) H 33 κ ↔ κ (.inl (H 33 5)) := Iff.rfl
theorem p33_5 {o q : Nat} {Ls : sm_K} {H : sm_H} {x : Int} {κ : sm_K → sm_H → Prop} : wptf o q 2 5 (kk0 ++ Ls) H 33 (.inl x) κ ↔ κ (kk0 ++ Ls) (sm_u H 33 5 x) := Iff.rfl
theorem g33_6 {Ls : sm_K} {H : sm_H} {κ : sm_V → Prop} : wgtf 2 6 (kk0 ++ Ls) H 33 κ ↔ κ (.inl (H 33 6)) := Iff.rfl
theorem p33_6 {o q : Nat} {Ls : sm_K} {H : sm_H} {x : Int} {κ : sm_K → sm_H → Prop} : wptf o q 2 6 (kk0 ++ Ls) H 33 (.inl x) κ ↔ κ (kk0 ++ Ls) (sm_u H 33 6 x) := Iff.rfl
theorem g33_7 {Ls : sm_K} {H : sm_H} {κ : sm_V → Prop} : wgtf 2 7 (kk0 ++ Ls) H 33 κ ↔ κ (.inr (.inr 38)) := Iff.rfl
theorem g33_8 {Ls : sm_K} {H : sm_H} {κ : sm_V → Prop} : wgtf 2 8 (kk0 ++ Ls) H 33 κ ↔ κ (.inl (H 33 8)) := Iff.rfl
theorem p33_8 {o q : Nat} {Ls : sm_K} {H : sm_H} {x : Int} {κ : sm_K → sm_H → Prop} : wptf o q 2 8 (kk0 ++ Ls) H 33 (.inl x) κ ↔ κ (kk0 ++ Ls) (sm_u H 33 8 x) := Iff.rfl
theorem g33_9 {Ls : sm_K} {H : sm_H} {κ : sm_V → Prop} : wgtf 2 9 (kk0 ++ Ls) H 33 κ ↔ κ (.inr (.inr 39)) := Iff.rfl
theorem g33_10 {Ls : sm_K} {H : sm_H} {κ : sm_V → Prop} : wgtf 2 10 (kk0 ++ Ls) H 33 κ ↔ κ (.inr (.inr 40)) := Iff.rfl
theorem g33_11 {Ls : sm_K} {H : sm_H} {κ : sm_V → Prop} : wgtf 2 11 (kk0 ++ Ls) H 33 κ ↔ κ (.inl (H 33 11)) := Iff.rfl
theorem p33_11 {o q : Nat} {Ls : sm_K} {H : sm_H} {x : Int} {κ : sm_K → sm_H → Prop} : wptf o q 2 11 (kk0 ++ Ls) H 33 (.inl x) κ ↔ κ (kk0 ++ Ls) (sm_u H 33 11 x) := Iff.rfl
theorem g33_12 {Ls : sm_K} {H : sm_H} {κ : sm_V → Prop} : wgtf 2 12 (kk0 ++ Ls) H 33 κ ↔ κ (.inr (.inr 41)) := Iff.rfl
theorem g33_13 {Ls : sm_K} {H : sm_H} {κ : sm_V → Prop} : wgtf 2 13 (kk0 ++ Ls) H 33 κ ↔ κ (.inl (H 33 13)) := Iff.rfl
theorem p33_13 {o q : Nat} {Ls : sm_K} {H : sm_H} {x : Int} {κ : sm_K → sm_H → Prop} : wptf o q 2 13 (kk0 ++ Ls) H 33 (.inl x) κ ↔ κ (kk0 ++ Ls) (sm_u H 33 13 x) := Iff.rfl
theorem g33_14 {Ls : sm_K} {H : sm_H} {κ : sm_V → Prop} : wgtf 2 14 (kk0 ++ Ls) H 33 κ ↔ κ (.inl (H 33 14)) := Iff.rfl
theorem p33_14 {o q : Nat} {Ls : sm_K} {H : sm_H} {x : Int} {κ : sm_K → sm_H → Prop} : wptf o q 2 14 (kk0 ++ Ls) H 33 (.inl x) κ ↔ κ (kk0 ++ Ls) (sm_u H 33 14 x) := Iff.rfl
theorem g33_15 {Ls : sm_K} {H : sm_H} {κ : sm_V → Prop} : wgtf 2 15 (kk0 ++ Ls) H 33 κ ↔ κ (.inr (.inr 42)) := Iff.rfl
theorem g33_16 {Ls : sm_K} {H : sm_H} {κ : sm_V → Prop} : wgtf 2 16 (kk0 ++ Ls) H 33 κ ↔ κ (.inl (H 33 16)) := Iff.rfl
theorem p33_16 {o q : Nat} {Ls : sm_K} {H : sm_H} {x : Int} {κ : sm_K → sm_H → Prop} : wptf o q 2 16 (kk0 ++ Ls) H 33 (.inl x) κ ↔ κ (kk0 ++ Ls) (sm_u H 33 16 x) := Iff.rfl
theorem g33_17 {Ls : sm_K} {H : sm_H} {κ : sm_V → Prop} : wgtf 2 17 (kk0 ++ Ls) H 33 κ ↔ κ (.inr (.inr 43)) := Iff.rfl
theorem g33_18 {Ls : sm_K} {H : sm_H} {κ : sm_V → Prop} : wgtf 2 18 (kk0 ++ Ls) H 33 κ ↔ κ (.inr (.inr 44)) := Iff.rfl
theorem n34 {S : sm_E} {Ls : sm_K} {κ : Int → Prop} : wlen S (kk0 ++ Ls) 34 κ ↔ κ 25 := ⟨fun h => h.2, fun h => ⟨by decide, h⟩⟩
theorem l34 {S : sm_E} {Ls : sm_K} {H : sm_H} {i : Int} {κ : Int → Prop} : wldI S (kk0 ++ Ls) H 34 i κ ↔ (0 ≤ i ∧ i < 25) ∧ κ (H 34 i) := Iff.rfl
theorem s34 {Ls : sm_K} {H : sm_H} {i x : Int} {κ : sm_H → Prop} : wstK 20 (kk0 ++ Ls) H 34 i x κ ↔ (0 ≤ i ∧ i < 25) ∧ κ (sm_u H 34 i x) := Iff.rfl
theorem n35 {S : sm_E} {Ls : sm_K} {κ : Int → Prop} : wlen S (kk0 ++ Ls) 35 κ ↔ κ 45 := ⟨fun h => h.2, fun h => ⟨by decide, h⟩⟩
theorem l35 {S : sm_E} {Ls : sm_K} {H : sm_H} {i : Int} {κ : Int → Prop} : wldI S (kk0 ++ Ls) H 35 i κ ↔ (0 ≤ i ∧ i < 45) ∧ κ (H 35 i) := Iff.rfl
theorem s35 {Ls : sm_K} {H : sm_H} {i x : Int} {κ : sm_H → Prop} : wstK 20 (kk0 ++ Ls) H 35 i x κ ↔ (0 ≤ i ∧ i < 45) ∧ κ (sm_u H 35 i x) := Iff.rfl
theorem n36 {S : sm_E} {Ls : sm_K} {κ : Int → Prop} : wlen S (kk0 ++ Ls) 36 κ ↔ κ 5 := ⟨fun h => h.2, fun h => ⟨by decide, h⟩⟩
theorem l36 {S : sm_E} {Ls : sm_K} {H : sm_H} {i : Int} {κ : Int → Prop} : wldI S (kk0 ++ Ls) H 36 i κ ↔ (0 ≤ i ∧ i < 5) ∧ κ (H 36 i) := Iff.rfl
theorem s36 {Ls : sm_K} {H : sm_H} {i x : Int} {κ : sm_H → Prop} : wstK 20 (kk0 ++ Ls) H 36 i x κ ↔ (0 ≤ i ∧ i < 5) ∧ κ (sm_u H 36 i x) := Iff.rfl
theorem n37 {S : sm_E} {Ls : sm_K} {κ : Int → Prop} : wlen S (kk0 ++ Ls) 37 κ ↔ κ 5 := ⟨fun h => h.2, fun h => ⟨by decide, h⟩⟩
theorem l37 {S : sm_E} {Ls : sm_K} {H : sm_H} {i : Int} {κ : Int → Prop} : wldI S (kk0 ++ Ls) H 37 i κ ↔ (0 ≤ i ∧ i < 5) ∧ κ (H 37 i) := Iff.rfl
theorem s37 {Ls : sm_K} {H : sm_H} {i x : Int} {κ : sm_H → Prop} : wstK 20 (kk0 ++ Ls) H 37 i x κ ↔ (0 ≤ i ∧ i < 5) ∧ κ (sm_u H 37 i x) := Iff.rfl
theorem n38 {S : sm_E} {Ls : sm_K} {κ : Int → Prop} : wlen S (kk0 ++ Ls) 38 κ ↔ κ 5 := ⟨fun h => h.2, fun h => ⟨by decide, h⟩⟩
theorem l38 {S : sm_E} {Ls : sm_K} {H : sm_H} {i : Int} {κ : Int → Prop} : wldI S (kk0 ++ Ls) H 38 i κ ↔ (0 ≤ i ∧ i < 5) ∧ κ (H 38 i) := Iff.rfl
theorem s38 {Ls : sm_K} {H : sm_H} {i x : Int} {κ : sm_H → Prop} : wstK 20 (kk0 ++ Ls) H 38 i x κ ↔ (0 ≤ i ∧ i < 5) ∧ κ (sm_u H 38 i x) := Iff.rfl
theorem n39 {S : sm_E} {Ls : sm_K} {κ : Int → Prop} : wlen S (kk0 ++ Ls) 39 κ ↔ κ 120 := ⟨fun h => h.2, fun h => ⟨by decide, h⟩⟩
theorem l39 {S : sm_E} {Ls : sm_K} {H : sm_H} {i : Int} {κ : Int → Prop} : wldI S (kk0 ++ Ls) H 39 i κ ↔ (0 ≤ i ∧ i < 120) ∧ κ (H 39 i) := Iff.rfl
theorem s39 {Ls : sm_K} {H : sm_H} {i x : Int} {κ : sm_H → Prop} : wstK 20 (kk0 ++ Ls) H 39 i x κ ↔ (0 ≤ i ∧ i < 120) ∧ κ (sm_u H 39 i x) := Iff.rfl
theorem n40 {S : sm_E} {Ls : sm_K} {κ : Int → Prop} : wlen S (kk0 ++ Ls) 40 κ ↔ κ 5 := ⟨fun h => h.2, fun h => ⟨by decide, h⟩⟩
theorem l40 {S : sm_E} {Ls : sm_K} {H : sm_H} {i : Int} {κ : Int → Prop} : wldI S (kk0 ++ Ls) H 40 i κ ↔ (0 ≤ i ∧ i < 5) ∧ κ (H 40 i) := Iff.rfl
theorem s40 {Ls : sm_K} {H : sm_H} {i x : Int} {κ : sm_H → Prop} : wstK 20 (kk0 ++ Ls) H 40 i x κ ↔ (0 ≤ i ∧ i < 5) ∧ κ (sm_u H 40 i x) := Iff.rfl
theorem n41 {S : sm_E} {Ls : sm_K} {κ : Int → Prop} : wlen S (kk0 ++ Ls) 41 κ ↔ κ 6 := ⟨fun h => h.2, fun h => ⟨by decide, h⟩⟩
theorem l41 {Ls : sm_K} {H : sm_H} {i : Int} {κ : Nat → Prop} : waa (kk0 ++ Ls) H 41 i κ ↔ (0 ≤ i ∧ i < 6) ∧ κ (H 41 i).toNat := ⟨fun h => ⟨h.1.2, h.2⟩, fun h => ⟨⟨by simp, h.1⟩, h.2⟩⟩
theorem n42 {S : sm_E} {Ls : sm_K} {κ : Int → Prop} : wlen S (kk0 ++ Ls) 42 κ ↔ κ 5 := ⟨fun h => h.2, fun h => ⟨by decide, h⟩⟩
theorem l42 {S : sm_E} {Ls : sm_K} {H : sm_H} {i : Int} {κ : Int → Prop} : wldI S (kk0 ++ Ls) H 42 i κ ↔ (0 ≤ i ∧ i < 5) ∧ κ (H 42 i) := Iff.rfl
theorem s42 {Ls : sm_K} {H : sm_H} {i x : Int} {κ : sm_H → Prop} : wstK 20 (kk0 ++ Ls) H 42 i x κ ↔ (0 ≤ i ∧ i < 5) ∧ κ (sm_u H 42 i x) := Iff.rfl
theorem n43 {S : sm_E} {Ls : sm_K} {κ : Int → Prop} : wlen S (kk0 ++ Ls) 43 κ ↔ κ 20 := ⟨fun h => h.2, fun h => ⟨by decide, h⟩⟩
theorem l43 {S : sm_E} {Ls : sm_K} {H : sm_H} {i : Int} {κ : Int → Prop} : wldI S (kk0 ++ Ls) H 43 i κ ↔ (0 ≤ i ∧ i < 20) ∧ κ (H 43 i) := Iff.rfl
theorem s43 {Ls : sm_K} {H : sm_H} {i x : Int} {κ : sm_H → Prop} : wstK 20 (kk0 ++ Ls) H 43 i x κ ↔ (0 ≤ i ∧ i < 20) ∧ κ (sm_u H 43 i x) := Iff.rfl
theorem n44 {S : sm_E} {Ls : sm_K} {κ : Int → Prop} : wlen S (kk0 ++ Ls) 44 κ ↔ κ 20 := ⟨fun h => h.2, fun h => ⟨by decide, h⟩⟩
theorem l44 {S : sm_E} {Ls : sm_K} {H : sm_H} {i : Int} {κ : Int → Prop} : wldI S (kk0 ++ Ls) H 44 i κ ↔ (0 ≤ i ∧ i < 20) ∧ κ (H 44 i) := Iff.rfl
theorem s44 {Ls : sm_K} {H : sm_H} {i x : Int} {κ : sm_H → Prop} : wstK 20 (kk0 ++ Ls) H 44 i x κ ↔ (0 ≤ i ∧ i < 20) ∧ κ (sm_u H 44 i x) := Iff.rfl
theorem n45 {S : sm_E} {Ls : sm_K} {κ : Int → Prop} : wlen S (kk0 ++ Ls) 45 κ ↔ κ 2 := ⟨fun h => h.2, fun h => ⟨by decide, h⟩⟩
theorem l45 {Ls : sm_K} {H : sm_H} {i : Int} {κ : Nat → Prop} : waa (kk0 ++ Ls) H 45 i κ ↔ (0 ≤ i ∧ i < 2) ∧ κ (H 45 i).toNat := ⟨fun h => ⟨h.1.2, h.2⟩, fun h => ⟨⟨by simp, h.1⟩, h.2⟩⟩
theorem n46 {S : sm_E} {Ls : sm_K} {κ : Int → Prop} : wlen S (kk0 ++ Ls) 46 κ ↔ κ 400 := ⟨fun h => h.2, fun h => ⟨by decide, h⟩⟩
theorem l46 {S : sm_E} {Ls : sm_K} {H : sm_H} {i : Int} {κ : Int → Prop} : wldI S (kk0 ++ Ls) H 46 i κ ↔ (0 ≤ i ∧ i < 400) ∧ κ (H 46 i) := Iff.rfl
theorem s46 {Ls : sm_K} {H : sm_H} {i x : Int} {κ : sm_H → Prop} : wstK 20 (kk0 ++ Ls) H 46 i x κ ↔ (0 ≤ i ∧ i < 400) ∧ κ (sm_u H 46 i x) := Iff.rfl
theorem rc47 {Ls : sm_K} : (sm_rcv (kk0 ++ Ls) 8 (some (.inr (.inr 47))) = true) ↔ True := iff_true_intro rfl
theorem g47_0 {Ls : sm_K} {H : sm_H} {κ : sm_V → Prop} : wgtf 8 0 (kk0 ++ Ls) H 47 κ ↔ κ (.inl (H 47 0)) := Iff.rfl
theorem p47_0 {o q : Nat} {Ls : sm_K} {H : sm_H} {x : Int} {κ : sm_K → sm_H → Prop} : wptf o q 8 0 (kk0 ++ Ls) H 47 (.inl x) κ ↔ κ (kk0 ++ Ls) (sm_u H 47 0 x) := Iff.rfl
theorem g47_1 {Ls : sm_K} {H : sm_H} {κ : sm_V → Prop} : wgtf 8 1 (kk0 ++ Ls) H 47 κ ↔ κ (.inr (.inr (H 47 1).toNat)) := Iff.rfl
theorem p47_1 {o q : Nat} {Ls : sm_K} {H : sm_H} {x : Nat} {κ : sm_K → sm_H → Prop} : wptf o q 8 1 (kk0 ++ Ls) H 47 (.inr (.inr x)) κ ↔ κ (kk0 ++ Ls) (sm_u H 47 1 (x : Int)) := Iff.rfl
theorem g47_2 {Ls : sm_K} {H : sm_H} {κ : sm_V → Prop} : wgtf 8 2 (kk0 ++ Ls) H 47 κ ↔ κ (.inl (H 47 2)) := Iff.rfl
theorem p47_2 {o q : Nat} {Ls : sm_K} {H : sm_H} {x : Int} {κ : sm_K → sm_H → Prop} : wptf o q 8 2 (kk0 ++ Ls) H 47 (.inl x) κ ↔ κ (kk0 ++ Ls) (sm_u H 47 2 x) := Iff.rfl
theorem g47_3 {Ls : sm_K} {H : sm_H} {κ : sm_V → Prop} : wgtf 8 3 (kk0 ++ Ls) H 47 κ ↔ κ (.inl (H 47 3)) := Iff.rfl
theorem p47_3 {o q : Nat} {Ls : sm_K} {H : sm_H} {x : Int} {κ : sm_K → sm_H → Prop} : wptf o q 8 3 (kk0 ++ Ls) H 47 (.inl x) κ ↔ κ (kk0 ++ Ls) (sm_u H 47 3 x) := Iff.rfl
theorem g47_4 {Ls : sm_K} {H : sm_H} {κ : sm_V → Prop} : wgtf 8 4 (kk0 ++ Ls) H 47 κ ↔ κ (.inl (H 47 4)) := Iff.rfl
theorem p47_4 {o q : Nat} {Ls : sm_K} {H : sm_H} {x : Int} {κ : sm_K → sm_H → Prop} : wptf o q 8 4 (kk0 ++ Ls) H 47 (.inl x) κ ↔ κ (kk0 ++ Ls) (sm_u H 47 4 x) := Iff.rfl
theorem g47_5 {Ls : sm_K} {H : sm_H} {κ : sm_V → Prop} : wgtf 8 5 (kk0 ++ Ls) H 47 κ ↔ κ (.inl (H 47 5)) := Iff.rfl
theorem p47_5 {o q : Nat} {Ls : sm_K} {H : sm_H} {x : Int} {κ : sm_K → sm_H → Prop} : wptf o q 8 5 (kk0 ++ Ls) H 47 (.inl x) κ ↔ κ (kk0 ++ Ls) (sm_u H 47 5 x) := Iff.rfl
theorem g47_6 {Ls : sm_K} {H : sm_H} {κ : sm_V → Prop} : wgtf 8 6 (kk0 ++ Ls) H 47 κ ↔ κ (.inl (H 47 6)) := Iff.rfl
theorem p47_6 {o q : Nat} {Ls : sm_K} {H : sm_H} {x : Int} {κ : sm_K → sm_H → Prop} : wptf o q 8 6 (kk0 ++ Ls) H 47 (.inl x) κ ↔ κ (kk0 ++ Ls) (sm_u H 47 6 x) := Iff.rfl
theorem g47_7 {Ls : sm_K} {H : sm_H} {κ : sm_V → Prop} : wgtf 8 7 (kk0 ++ Ls) H 47 κ ↔ κ (.inl (H 47 7)) := Iff.rfl
theorem p47_7 {o q : Nat} {Ls : sm_K} {H : sm_H} {x : Int} {κ : sm_K → sm_H → Prop} : wptf o q 8 7 (kk0 ++ Ls) H 47 (.inl x) κ ↔ κ (kk0 ++ Ls) (sm_u H 47 7 x) := Iff.rfl
theorem g47_8 {Ls : sm_K} {H : sm_H} {κ : sm_V → Prop} : wgtf 8 8 (kk0 ++ Ls) H 47 κ ↔ κ (.inr (.inr 48)) := Iff.rfl
theorem g47_9 {Ls : sm_K} {H : sm_H} {κ : sm_V → Prop} : wgtf 8 9 (kk0 ++ Ls) H 47 κ ↔ κ (.inr (.inr 49)) := Iff.rfl
theorem g47_10 {Ls : sm_K} {H : sm_H} {κ : sm_V → Prop} : wgtf 8 10 (kk0 ++ Ls) H 47 κ ↔ κ (.inl (H 47 10)) := Iff.rfl
theorem p47_10 {o q : Nat} {Ls : sm_K} {H : sm_H} {x : Int} {κ : sm_K → sm_H → Prop} : wptf o q 8 10 (kk0 ++ Ls) H 47 (.inl x) κ ↔ κ (kk0 ++ Ls) (sm_u H 47 10 x) := Iff.rfl
theorem n48 {S : sm_E} {Ls : sm_K} {κ : Int → Prop} : wlen S (kk0 ++ Ls) 48 κ ↔ κ 48 := ⟨fun h => h.2, fun h => ⟨by decide, h⟩⟩
theorem l48 {S : sm_E} {Ls : sm_K} {H : sm_H} {i : Int} {κ : Int → Prop} : wldI S (kk0 ++ Ls) H 48 i κ ↔ (0 ≤ i ∧ i < 48) ∧ κ (H 48 i) := Iff.rfl
theorem s48 {Ls : sm_K} {H : sm_H} {i x : Int} {κ : sm_H → Prop} : wstK 20 (kk0 ++ Ls) H 48 i x κ ↔ (0 ≤ i ∧ i < 48) ∧ κ (sm_u H 48 i x) := Iff.rfl
theorem n49 {S : sm_E} {Ls : sm_K} {κ : Int → Prop} : wlen S (kk0 ++ Ls) 49 κ ↔ κ 400 := ⟨fun h => h.2, fun h => ⟨by decide, h⟩⟩
theorem l49 {S : sm_E} {Ls : sm_K} {H : sm_H} {i : Int} {κ : Int → Prop} : wldI S (kk0 ++ Ls) H 49 i κ ↔ (0 ≤ i ∧ i < 400) ∧ κ (H 49 i) := Iff.rfl
theorem s49 {Ls : sm_K} {H : sm_H} {i x : Int} {κ : sm_H → Prop} : wstK 20 (kk0 ++ Ls) H 49 i x κ ↔ (0 ≤ i ∧ i < 400) ∧ κ (sm_u H 49 i x) := Iff.rfl
theorem rc50 {Ls : sm_K} : (sm_rcv (kk0 ++ Ls) 3 (some (.inr (.inr 50))) = true) ↔ True := iff_true_intro rfl
theorem g50_0 {Ls : sm_K} {H : sm_H} {κ : sm_V → Prop} : wgtf 3 0 (kk0 ++ Ls) H 50 κ ↔ κ (.inr (.inr 51)) := Iff.rfl
theorem g50_1 {Ls : sm_K} {H : sm_H} {κ : sm_V → Prop} : wgtf 3 1 (kk0 ++ Ls) H 50 κ ↔ κ (.inr (.inr 52)) := Iff.rfl
theorem g50_2 {Ls : sm_K} {H : sm_H} {κ : sm_V → Prop} : wgtf 3 2 (kk0 ++ Ls) H 50 κ ↔ κ (.inr (.inl (H 50 2))) := Iff.rfl
theorem p50_2 {o q : Nat} {Ls : sm_K} {H : sm_H} {x : Int} {κ : sm_K → sm_H → Prop} : wptf o q 3 2 (kk0 ++ Ls) H 50 (.inr (.inl x)) κ ↔ κ (kk0 ++ Ls) (sm_u H 50 2 x) := Iff.rfl
theorem n51 {S : sm_E} {Ls : sm_K} {κ : Int → Prop} : wlen S (kk0 ++ Ls) 51 κ ↔ κ 10 := ⟨fun h => h.2, fun h => ⟨by decide, h⟩⟩
theorem l51 {S : sm_E} {Ls : sm_K} {H : sm_H} {i : Int} {κ : Int → Prop} : wldI S (kk0 ++ Ls) H 51 i κ ↔ (0 ≤ i ∧ i < 10) ∧ κ (H 51 i) := Iff.rfl
theorem s51 {Ls : sm_K} {H : sm_H} {i x : Int} {κ : sm_H → Prop} : wstK 20 (kk0 ++ Ls) H 51 i x κ ↔ (0 ≤ i ∧ i < 10) ∧ κ (sm_u H 51 i x) := Iff.rfl
theorem n52 {S : sm_E} {Ls : sm_K} {κ : Int → Prop} : wlen S (kk0 ++ Ls) 52 κ ↔ κ 64 := ⟨fun h => h.2, fun h => ⟨by decide, h⟩⟩
theorem l52 {Ls : sm_K} {H : sm_H} {i : Int} {κ : Int → Prop} : wldK 21 (kk0 ++ Ls) H 52 i κ ↔ (0 ≤ i ∧ i < 64) ∧ κ (H 52 i) := Iff.rfl
theorem s52 {Ls : sm_K} {H : sm_H} {i x : Int} {κ : sm_H → Prop} : wstK 21 (kk0 ++ Ls) H 52 i x κ ↔ (0 ≤ i ∧ i < 64) ∧ κ (sm_u H 52 i x) := Iff.rfl
theorem rc53 {Ls : sm_K} : (sm_rcv (kk0 ++ Ls) 7 (some (.inr (.inr 53))) = true) ↔ True := iff_true_intro rfl
theorem g53_0 {Ls : sm_K} {H : sm_H} {κ : sm_V → Prop} : wgtf 7 0 (kk0 ++ Ls) H 53 κ ↔ κ (.inr (.inr 54)) := Iff.rfl
theorem g53_1 {Ls : sm_K} {H : sm_H} {κ : sm_V → Prop} : wgtf 7 1 (kk0 ++ Ls) H 53 κ ↔ κ (.inl (H 53 1)) := Iff.rfl
theorem p53_1 {o q : Nat} {Ls : sm_K} {H : sm_H} {x : Int} {κ : sm_K → sm_H → Prop} : wptf o q 7 1 (kk0 ++ Ls) H 53 (.inl x) κ ↔ κ (kk0 ++ Ls) (sm_u H 53 1 x) := Iff.rfl
theorem g53_2 {Ls : sm_K} {H : sm_H} {κ : sm_V → Prop} : wgtf 7 2 (kk0 ++ Ls) H 53 κ ↔ κ (.inl (H 53 2)) := Iff.rfl
theorem p53_2 {o q : Nat} {Ls : sm_K} {H : sm_H} {x : Int} {κ : sm_K → sm_H → Prop} : wptf o q 7 2 (kk0 ++ Ls) H 53 (.inl x) κ ↔ κ (kk0 ++ Ls) (sm_u H 53 2 x) := Iff.rfl
theorem g53_3 {Ls : sm_K} {H : sm_H} {κ : sm_V → Prop} : wgtf 7 3 (kk0 ++ Ls) H 53 κ ↔ κ (.inl (H 53 3)) := Iff.rfl
theorem p53_3 {o q : Nat} {Ls : sm_K} {H : sm_H} {x : Int} {κ : sm_K → sm_H → Prop} : wptf o q 7 3 (kk0 ++ Ls) H 53 (.inl x) κ ↔ κ (kk0 ++ Ls) (sm_u H 53 3 x) := Iff.rfl
theorem g53_4 {Ls : sm_K} {H : sm_H} {κ : sm_V → Prop} : wgtf 7 4 (kk0 ++ Ls) H 53 κ ↔ κ (.inr (.inr 50)) := Iff.rfl
theorem g53_5 {Ls : sm_K} {H : sm_H} {κ : sm_V → Prop} : wgtf 7 5 (kk0 ++ Ls) H 53 κ ↔ κ (.inr (.inr (H 53 5).toNat)) := Iff.rfl
theorem p53_5 {o q : Nat} {Ls : sm_K} {H : sm_H} {x : Nat} {κ : sm_K → sm_H → Prop} : wptf o q 7 5 (kk0 ++ Ls) H 53 (.inr (.inr x)) κ ↔ κ (kk0 ++ Ls) (sm_u H 53 5 (x : Int)) := Iff.rfl
theorem g53_6 {Ls : sm_K} {H : sm_H} {κ : sm_V → Prop} : wgtf 7 6 (kk0 ++ Ls) H 53 κ ↔ κ (.inr (.inr (H 53 6).toNat)) := Iff.rfl
theorem p53_6 {o q : Nat} {Ls : sm_K} {H : sm_H} {x : Nat} {κ : sm_K → sm_H → Prop} : wptf o q 7 6 (kk0 ++ Ls) H 53 (.inr (.inr x)) κ ↔ κ (kk0 ++ Ls) (sm_u H 53 6 (x : Int)) := Iff.rfl
theorem g53_7 {Ls : sm_K} {H : sm_H} {κ : sm_V → Prop} : wgtf 7 7 (kk0 ++ Ls) H 53 κ ↔ κ (.inl (H 53 7)) := Iff.rfl
theorem p53_7 {o q : Nat} {Ls : sm_K} {H : sm_H} {x : Int} {κ : sm_K → sm_H → Prop} : wptf o q 7 7 (kk0 ++ Ls) H 53 (.inl x) κ ↔ (x = 0 ∨ x = 1) ∧ κ (kk0 ++ Ls) (sm_u H 53 7 x) := wk_putZ rfl rfl (by decide)
theorem g53_8 {Ls : sm_K} {H : sm_H} {κ : sm_V → Prop} : wgtf 7 8 (kk0 ++ Ls) H 53 κ ↔ κ (.inr (.inr 55)) := Iff.rfl
theorem g53_9 {Ls : sm_K} {H : sm_H} {κ : sm_V → Prop} : wgtf 7 9 (kk0 ++ Ls) H 53 κ ↔ κ (.inr (.inr 56)) := Iff.rfl
theorem g53_10 {Ls : sm_K} {H : sm_H} {κ : sm_V → Prop} : wgtf 7 10 (kk0 ++ Ls) H 53 κ ↔ κ (.inr (.inr 57)) := Iff.rfl
theorem g53_11 {Ls : sm_K} {H : sm_H} {κ : sm_V → Prop} : wgtf 7 11 (kk0 ++ Ls) H 53 κ ↔ κ (.inr (.inr 58)) := Iff.rfl
theorem n54 {S : sm_E} {Ls : sm_K} {κ : Int → Prop} : wlen S (kk0 ++ Ls) 54 κ ↔ κ 5 := ⟨fun h => h.2, fun h => ⟨by decide, h⟩⟩
theorem l54 {S : sm_E} {Ls : sm_K} {H : sm_H} {i : Int} {κ : Int → Prop} : wldI S (kk0 ++ Ls) H 54 i κ ↔ (0 ≤ i ∧ i < 5) ∧ κ (H 54 i) := Iff.rfl
theorem s54 {Ls : sm_K} {H : sm_H} {i x : Int} {κ : sm_H → Prop} : wstK 20 (kk0 ++ Ls) H 54 i x κ ↔ (0 ≤ i ∧ i < 5) ∧ κ (sm_u H 54 i x) := Iff.rfl
theorem n55 {S : sm_E} {Ls : sm_K} {κ : Int → Prop} : wlen S (kk0 ++ Ls) 55 κ ↔ κ 50 := ⟨fun h => h.2, fun h => ⟨by decide, h⟩⟩
theorem l55 {S : sm_E} {Ls : sm_K} {H : sm_H} {i : Int} {κ : Int → Prop} : wldI S (kk0 ++ Ls) H 55 i κ ↔ (0 ≤ i ∧ i < 50) ∧ κ (H 55 i) := Iff.rfl
theorem s55 {Ls : sm_K} {H : sm_H} {i x : Int} {κ : sm_H → Prop} : wstK 20 (kk0 ++ Ls) H 55 i x κ ↔ (0 ≤ i ∧ i < 50) ∧ κ (sm_u H 55 i x) := Iff.rfl
theorem n56 {S : sm_E} {Ls : sm_K} {κ : Int → Prop} : wlen S (kk0 ++ Ls) 56 κ ↔ κ 50 := ⟨fun h => h.2, fun h => ⟨by decide, h⟩⟩
theorem l56 {S : sm_E} {Ls : sm_K} {H : sm_H} {i : Int} {κ : Int → Prop} : wldI S (kk0 ++ Ls) H 56 i κ ↔ (0 ≤ i ∧ i < 50) ∧ κ (H 56 i) := Iff.rfl
theorem s56 {Ls : sm_K} {H : sm_H} {i x : Int} {κ : sm_H → Prop} : wstK 20 (kk0 ++ Ls) H 56 i x κ ↔ (0 ≤ i ∧ i < 50) ∧ κ (sm_u H 56 i x) := Iff.rfl
theorem n57 {S : sm_E} {Ls : sm_K} {κ : Int → Prop} : wlen S (kk0 ++ Ls) 57 κ ↔ κ 5 := ⟨fun h => h.2, fun h => ⟨by decide, h⟩⟩
theorem l57 {S : sm_E} {Ls : sm_K} {H : sm_H} {i : Int} {κ : Int → Prop} : wldI S (kk0 ++ Ls) H 57 i κ ↔ (0 ≤ i ∧ i < 5) ∧ κ (H 57 i) := Iff.rfl
theorem s57 {Ls : sm_K} {H : sm_H} {i x : Int} {κ : sm_H → Prop} : wstK 20 (kk0 ++ Ls) H 57 i x κ ↔ (0 ≤ i ∧ i < 5) ∧ κ (sm_u H 57 i x) := Iff.rfl
theorem n58 {S : sm_E} {Ls : sm_K} {κ : Int → Prop} : wlen S (kk0 ++ Ls) 58 κ ↔ κ 1500 := ⟨fun h => h.2, fun h => ⟨by decide, h⟩⟩
theorem l58 {S : sm_E} {Ls : sm_K} {H : sm_H} {i : Int} {κ : Int → Prop} : wldI S (kk0 ++ Ls) H 58 i κ ↔ (0 ≤ i ∧ i < 1500) ∧ κ (H 58 i) := Iff.rfl
theorem s58 {Ls : sm_K} {H : sm_H} {i x : Int} {κ : sm_H → Prop} : wstK 20 (kk0 ++ Ls) H 58 i x κ ↔ (0 ≤ i ∧ i < 1500) ∧ κ (sm_u H 58 i x) := Iff.rfl
theorem rc59 {Ls : sm_K} : (sm_rcv (kk0 ++ Ls) 0 (some (.inr (.inr 59))) = true) ↔ True := iff_true_intro rfl
theorem g59_0 {Ls : sm_K} {H : sm_H} {κ : sm_V → Prop} : wgtf 0 0 (kk0 ++ Ls) H 59 κ ↔ κ (.inl (H 59 0)) := Iff.rfl
theorem p59_0 {o q : Nat} {Ls : sm_K} {H : sm_H} {x : Int} {κ : sm_K → sm_H → Prop} : wptf o q 0 0 (kk0 ++ Ls) H 59 (.inl x) κ ↔ (x = 0 ∨ x = 1) ∧ κ (kk0 ++ Ls) (sm_u H 59 0 x) := wk_putZ rfl rfl (by decide)
theorem g59_1 {Ls : sm_K} {H : sm_H} {κ : sm_V → Prop} : wgtf 0 1 (kk0 ++ Ls) H 59 κ ↔ κ (.inl (H 59 1)) := Iff.rfl
theorem p59_1 {o q : Nat} {Ls : sm_K} {H : sm_H} {x : Int} {κ : sm_K → sm_H → Prop} : wptf o q 0 1 (kk0 ++ Ls) H 59 (.inl x) κ ↔ κ (kk0 ++ Ls) (sm_u H 59 1 x) := Iff.rfl
theorem g59_2 {Ls : sm_K} {H : sm_H} {κ : sm_V → Prop} : wgtf 0 2 (kk0 ++ Ls) H 59 κ ↔ κ (.inl (H 59 2)) := Iff.rfl
theorem p59_2 {o q : Nat} {Ls : sm_K} {H : sm_H} {x : Int} {κ : sm_K → sm_H → Prop} : wptf o q 0 2 (kk0 ++ Ls) H 59 (.inl x) κ ↔ κ (kk0 ++ Ls) (sm_u H 59 2 x) := Iff.rfl
theorem g59_3 {Ls : sm_K} {H : sm_H} {κ : sm_V → Prop} : wgtf 0 3 (kk0 ++ Ls) H 59 κ ↔ κ (.inl (H 59 3)) := Iff.rfl
theorem p59_3 {o q : Nat} {Ls : sm_K} {H : sm_H} {x : Int} {κ : sm_K → sm_H → Prop} : wptf o q 0 3 (kk0 ++ Ls) H 59 (.inl x) κ ↔ κ (kk0 ++ Ls) (sm_u H 59 3 x) := Iff.rfl
theorem g59_4 {Ls : sm_K} {H : sm_H} {κ : sm_V → Prop} : wgtf 0 4 (kk0 ++ Ls) H 59 κ ↔ κ (.inr (.inr 60)) := Iff.rfl
theorem g59_5 {Ls : sm_K} {H : sm_H} {κ : sm_V → Prop} : wgtf 0 5 (kk0 ++ Ls) H 59 κ ↔ κ (.inr (.inr 53)) := Iff.rfl
theorem g59_6 {Ls : sm_K} {H : sm_H} {κ : sm_V → Prop} : wgtf 0 6 (kk0 ++ Ls) H 59 κ ↔ κ (.inr (.inr (H 59 6).toNat)) := Iff.rfl
theorem p59_6 {o q : Nat} {Ls : sm_K} {H : sm_H} {x : Nat} {κ : sm_K → sm_H → Prop} : wptf o q 0 6 (kk0 ++ Ls) H 59 (.inr (.inr x)) κ ↔ κ (kk0 ++ Ls) (sm_u H 59 6 (x : Int)) := Iff.rfl
theorem g59_7 {Ls : sm_K} {H : sm_H} {κ : sm_V → Prop} : wgtf 0 7 (kk0 ++ Ls) H 59 κ ↔ κ (.inr (.inr (H 59 7).toNat)) := Iff.rfl
theorem p59_7 {o q : Nat} {Ls : sm_K} {H : sm_H} {x : Nat} {κ : sm_K → sm_H → Prop} : wptf o q 0 7 (kk0 ++ Ls) H 59 (.inr (.inr x)) κ ↔ κ (kk0 ++ Ls) (sm_u H 59 7 (x : Int)) := Iff.rfl
theorem g59_8 {Ls : sm_K} {H : sm_H} {κ : sm_V → Prop} : wgtf 0 8 (kk0 ++ Ls) H 59 κ ↔ κ (.inl (H 59 8)) := Iff.rfl
theorem p59_8 {o q : Nat} {Ls : sm_K} {H : sm_H} {x : Int} {κ : sm_K → sm_H → Prop} : wptf o q 0 8 (kk0 ++ Ls) H 59 (.inl x) κ ↔ (x = 0 ∨ x = 1) ∧ κ (kk0 ++ Ls) (sm_u H 59 8 x) := wk_putZ rfl rfl (by decide)
theorem g59_9 {Ls : sm_K} {H : sm_H} {κ : sm_V → Prop} : wgtf 0 9 (kk0 ++ Ls) H 59 κ ↔ κ (.inl (H 59 9)) := Iff.rfl
theorem p59_9 {o q : Nat} {Ls : sm_K} {H : sm_H} {x : Int} {κ : sm_K → sm_H → Prop} : wptf o q 0 9 (kk0 ++ Ls) H 59 (.inl x) κ ↔ κ (kk0 ++ Ls) (sm_u H 59 9 x) := Iff.rfl
theorem g59_10 {Ls : sm_K} {H : sm_H} {κ : sm_V → Prop} : wgtf 0 10 (kk0 ++ Ls) H 59 κ ↔ κ (.inr (.inr 63)) := Iff.rfl
theorem g59_11 {Ls : sm_K} {H : sm_H} {κ : sm_V → Prop} : wgtf 0 11 (kk0 ++ Ls) H 59 κ ↔ κ (.inr (.inr 64)) := Iff.rfl
theorem g59_12 {Ls : sm_K} {H : sm_H} {κ : sm_V → Prop} : wgtf 0 12 (kk0 ++ Ls) H 59 κ ↔ κ (.inr (.inr 65)) := Iff.rfl
theorem n60 {S : sm_E} {Ls : sm_K} {κ : Int → Prop} : wlen S (kk0 ++ Ls) 60 κ ↔ κ 45 := ⟨fun h => h.2, fun h => ⟨by decide, h⟩⟩
theorem l60 {S : sm_E} {Ls : sm_K} {H : sm_H} {i : Int} {κ : Int → Prop} : wldI S (kk0 ++ Ls) H 60 i κ ↔ (0 ≤ i ∧ i < 45) ∧ κ (H 60 i) := Iff.rfl
theorem s60 {Ls : sm_K} {H : sm_H} {i x : Int} {κ : sm_H → Prop} : wstK 20 (kk0 ++ Ls) H 60 i x κ ↔ (0 ≤ i ∧ i < 45) ∧ κ (sm_u H 60 i x) := Iff.rfl
theorem n61 {S : sm_E} {Ls : sm_K} {κ : Int → Prop} : wlen S (kk0 ++ Ls) 61 κ ↔ κ 0 := ⟨fun h => h.2, fun h => ⟨by decide, h⟩⟩
theorem l61 {S : sm_E} {Ls : sm_K} {H : sm_H} {i : Int} {κ : Int → Prop} : wldI S (kk0 ++ Ls) H 61 i κ ↔ (0 ≤ i ∧ i < 0) ∧ κ (H 61 i) := Iff.rfl
theorem s61 {Ls : sm_K} {H : sm_H} {i x : Int} {κ : sm_H → Prop} : wstK 20 (kk0 ++ Ls) H 61 i x κ ↔ (0 ≤ i ∧ i < 0) ∧ κ (sm_u H 61 i x) := Iff.rfl
theorem n62 {S : sm_E} {Ls : sm_K} {κ : Int → Prop} : wlen S (kk0 ++ Ls) 62 κ ↔ κ 0 := ⟨fun h => h.2, fun h => ⟨by decide, h⟩⟩
theorem l62 {S : sm_E} {Ls : sm_K} {H : sm_H} {i : Int} {κ : Int → Prop} : wldI S (kk0 ++ Ls) H 62 i κ ↔ (0 ≤ i ∧ i < 0) ∧ κ (H 62 i) := Iff.rfl
theorem s62 {Ls : sm_K} {H : sm_H} {i x : Int} {κ : sm_H → Prop} : wstK 20 (kk0 ++ Ls) H 62 i x κ ↔ (0 ≤ i ∧ i < 0) ∧ κ (sm_u H 62 i x) := Iff.rfl
theorem n63 {S : sm_E} {Ls : sm_K} {κ : Int → Prop} : wlen S (kk0 ++ Ls) 63 κ ↔ κ 46 := ⟨fun h => h.2, fun h => ⟨by decide, h⟩⟩
theorem l63 {S : sm_E} {Ls : sm_K} {H : sm_H} {i : Int} {κ : Int → Prop} : wldI S (kk0 ++ Ls) H 63 i κ ↔ (0 ≤ i ∧ i < 46) ∧ κ (H 63 i) := Iff.rfl
theorem s63 {Ls : sm_K} {H : sm_H} {i x : Int} {κ : sm_H → Prop} : wstK 20 (kk0 ++ Ls) H 63 i x κ ↔ (0 ≤ i ∧ i < 46) ∧ κ (sm_u H 63 i x) := Iff.rfl
theorem n64 {S : sm_E} {Ls : sm_K} {κ : Int → Prop} : wlen S (kk0 ++ Ls) 64 κ ↔ κ 46 := ⟨fun h => h.2, fun h => ⟨by decide, h⟩⟩
theorem l64 {S : sm_E} {Ls : sm_K} {H : sm_H} {i : Int} {κ : Int → Prop} : wldI S (kk0 ++ Ls) H 64 i κ ↔ (0 ≤ i ∧ i < 46) ∧ κ (H 64 i) := Iff.rfl
theorem s64 {Ls : sm_K} {H : sm_H} {i x : Int} {κ : sm_H → Prop} : wstK 20 (kk0 ++ Ls) H 64 i x κ ↔ (0 ≤ i ∧ i < 46) ∧ κ (sm_u H 64 i x) := Iff.rfl
theorem n65 {S : sm_E} {Ls : sm_K} {κ : Int → Prop} : wlen S (kk0 ++ Ls) 65 κ ↔ κ 46 := ⟨fun h => h.2, fun h => ⟨by decide, h⟩⟩
theorem l65 {S : sm_E} {Ls : sm_K} {H : sm_H} {i : Int} {κ : Int → Prop} : wldI S (kk0 ++ Ls) H 65 i κ ↔ (0 ≤ i ∧ i < 46) ∧ κ (H 65 i) := Iff.rfl
theorem s65 {Ls : sm_K} {H : sm_H} {i x : Int} {κ : sm_H → Prop} : wstK 20 (kk0 ++ Ls) H 65 i x κ ↔ (0 ≤ i ∧ i < 46) ∧ κ (sm_u H 65 i x) := Iff.rfl
theorem rc66 {Ls : sm_K} : (sm_rcv (kk0 ++ Ls) 1 (some (.inr (.inr 66))) = true) ↔ True := iff_true_intro rfl
theorem g66_0 {Ls : sm_K} {H : sm_H} {κ : sm_V → Prop} : wgtf 1 0 (kk0 ++ Ls) H 66 κ ↔ κ (.inl (H 66 0)) := Iff.rfl
theorem p66_0 {o q : Nat} {Ls : sm_K} {H : sm_H} {x : Int} {κ : sm_K → sm_H → Prop} : wptf o q 1 0 (kk0 ++ Ls) H 66 (.inl x) κ ↔ κ (kk0 ++ Ls) (sm_u H 66 0 x) := Iff.rfl
theorem g66_1 {Ls : sm_K} {H : sm_H} {κ : sm_V → Prop} : wgtf 1 1 (kk0 ++ Ls) H 66 κ ↔ κ (.inl (H 66 1)) := Iff.rfl
theorem p66_1 {o q : Nat} {Ls : sm_K} {H : sm_H} {x : Int} {κ : sm_K → sm_H → Prop} : wptf o q 1 1 (kk0 ++ Ls) H 66 (.inl x) κ ↔ κ (kk0 ++ Ls) (sm_u H 66 1 x) := Iff.rfl
theorem g66_2 {Ls : sm_K} {H : sm_H} {κ : sm_V → Prop} : wgtf 1 2 (kk0 ++ Ls) H 66 κ ↔ κ (.inr (.inr 67)) := Iff.rfl
theorem g66_3 {Ls : sm_K} {H : sm_H} {κ : sm_V → Prop} : wgtf 1 3 (kk0 ++ Ls) H 66 κ ↔ κ (.inr (.inr 68)) := Iff.rfl
theorem g66_4 {Ls : sm_K} {H : sm_H} {κ : sm_V → Prop} : wgtf 1 4 (kk0 ++ Ls) H 66 κ ↔ κ (.inr (.inr (H 66 4).toNat)) := Iff.rfl
theorem p66_4 {o q : Nat} {Ls : sm_K} {H : sm_H} {x : Nat} {κ : sm_K → sm_H → Prop} : wptf o q 1 4 (kk0 ++ Ls) H 66 (.inr (.inr x)) κ ↔ κ (kk0 ++ Ls) (sm_u H 66 4 (x : Int)) := Iff.rfl
theorem g66_5 {Ls : sm_K} {H : sm_H} {κ : sm_V → Prop} : wgtf 1 5 (kk0 ++ Ls) H 66 κ ↔ κ (.inl (H 66 5)) := Iff.rfl
theorem p66_5 {o q : Nat} {Ls : sm_K} {H : sm_H} {x : Int} {κ : sm_K → sm_H → Prop} : wptf o q 1 5 (kk0 ++ Ls) H 66 (.inl x) κ ↔ κ (kk0 ++ Ls) (sm_u H 66 5 x) := Iff.rfl
theorem n67 {S : sm_E} {Ls : sm_K} {κ : Int → Prop} : wlen S (kk0 ++ Ls) 67 κ ↔ κ 5 := ⟨fun h => h.2, fun h => ⟨by decide, h⟩⟩
theorem l67 {S : sm_E} {Ls : sm_K} {H : sm_H} {i : Int} {κ : Int → Prop} : wldI S (kk0 ++ Ls) H 67 i κ ↔ (0 ≤ i ∧ i < 5) ∧ κ (H 67 i) := Iff.rfl
theorem s67 {Ls : sm_K} {H : sm_H} {i x : Int} {κ : sm_H → Prop} : wstK 20 (kk0 ++ Ls) H 67 i x κ ↔ (0 ≤ i ∧ i < 5) ∧ κ (sm_u H 67 i x) := Iff.rfl
theorem n68 {S : sm_E} {Ls : sm_K} {κ : Int → Prop} : wlen S (kk0 ++ Ls) 68 κ ↔ κ 5 := ⟨fun h => h.2, fun h => ⟨by decide, h⟩⟩
theorem l68 {S : sm_E} {Ls : sm_K} {H : sm_H} {i : Int} {κ : Int → Prop} : wldI S (kk0 ++ Ls) H 68 i κ ↔ (0 ≤ i ∧ i < 5) ∧ κ (H 68 i) := Iff.rfl
theorem s68 {Ls : sm_K} {H : sm_H} {i x : Int} {κ : sm_H → Prop} : wstK 20 (kk0 ++ Ls) H 68 i x κ ↔ (0 ≤ i ∧ i < 5) ∧ κ (sm_u H 68 i x) := Iff.rfl
theorem rc69 {Ls : sm_K} : (sm_rcv (kk0 ++ Ls) 5 (some (.inr (.inr 69))) = true) ↔ True := iff_true_intro rfl
theorem g69_0 {Ls : sm_K} {H : sm_H} {κ : sm_V → Prop} : wgtf 5 0 (kk0 ++ Ls) H 69 κ ↔ κ (.inl (H 69 0)) := Iff.rfl
theorem p69_0 {o q : Nat} {Ls : sm_K} {H : sm_H} {x : Int} {κ : sm_K → sm_H → Prop} : wptf o q 5 0 (kk0 ++ Ls) H 69 (.inl x) κ ↔ κ (kk0 ++ Ls) (sm_u H 69 0 x) := Iff.rfl
theorem g69_1 {Ls : sm_K} {H : sm_H} {κ : sm_V → Prop} : wgtf 5 1 (kk0 ++ Ls) H 69 κ ↔ κ (.inl (H 69 1)) := Iff.rfl
theorem p69_1 {o q : Nat} {Ls : sm_K} {H : sm_H} {x : Int} {κ : sm_K → sm_H → Prop} : wptf o q 5 1 (kk0 ++ Ls) H 69 (.inl x) κ ↔ κ (kk0 ++ Ls) (sm_u H 69 1 x) := Iff.rfl
theorem g69_2 {Ls : sm_K} {H : sm_H} {κ : sm_V → Prop} : wgtf 5 2 (kk0 ++ Ls) H 69 κ ↔ κ (.inr (.inr 70)) := Iff.rfl
theorem g69_3 {Ls : sm_K} {H : sm_H} {κ : sm_V → Prop} : wgtf 5 3 (kk0 ++ Ls) H 69 κ ↔ κ (.inr (.inr 71)) := Iff.rfl
theorem n70 {S : sm_E} {Ls : sm_K} {κ : Int → Prop} : wlen S (kk0 ++ Ls) 70 κ ↔ κ 325 := ⟨fun h => h.2, fun h => ⟨by decide, h⟩⟩
theorem l70 {S : sm_E} {Ls : sm_K} {H : sm_H} {i : Int} {κ : Int → Prop} : wldI S (kk0 ++ Ls) H 70 i κ ↔ (0 ≤ i ∧ i < 325) ∧ κ (H 70 i) := Iff.rfl
theorem s70 {Ls : sm_K} {H : sm_H} {i x : Int} {κ : sm_H → Prop} : wstK 20 (kk0 ++ Ls) H 70 i x κ ↔ (0 ≤ i ∧ i < 325) ∧ κ (sm_u H 70 i x) := Iff.rfl
theorem n71 {S : sm_E} {Ls : sm_K} {κ : Int → Prop} : wlen S (kk0 ++ Ls) 71 κ ↔ κ 325 := ⟨fun h => h.2, fun h => ⟨by decide, h⟩⟩
theorem l71 {S : sm_E} {Ls : sm_K} {H : sm_H} {i : Int} {κ : Int → Prop} : wldI S (kk0 ++ Ls) H 71 i κ ↔ (0 ≤ i ∧ i < 325) ∧ κ (H 71 i) := Iff.rfl
theorem s71 {Ls : sm_K} {H : sm_H} {i x : Int} {κ : sm_H → Prop} : wstK 20 (kk0 ++ Ls) H 71 i x κ ↔ (0 ≤ i ∧ i < 325) ∧ κ (sm_u H 71 i x) := Iff.rfl
theorem rc72 {Ls : sm_K} : (sm_rcv (kk0 ++ Ls) 6 (some (.inr (.inr 72))) = true) ↔ True := iff_true_intro rfl
theorem g72_0 {Ls : sm_K} {H : sm_H} {κ : sm_V → Prop} : wgtf 6 0 (kk0 ++ Ls) H 72 κ ↔ κ (.inr (.inr 73)) := Iff.rfl
theorem g72_1 {Ls : sm_K} {H : sm_H} {κ : sm_V → Prop} : wgtf 6 1 (kk0 ++ Ls) H 72 κ ↔ κ (.inr (.inr 74)) := Iff.rfl
theorem g72_2 {Ls : sm_K} {H : sm_H} {κ : sm_V → Prop} : wgtf 6 2 (kk0 ++ Ls) H 72 κ ↔ κ (.inr (.inr 75)) := Iff.rfl
theorem n73 {S : sm_E} {Ls : sm_K} {κ : Int → Prop} : wlen S (kk0 ++ Ls) 73 κ ↔ κ 6 := ⟨fun h => h.2, fun h => ⟨by decide, h⟩⟩
theorem l73 {Ls : sm_K} {H : sm_H} {i : Int} {κ : Int → Prop} : wldK 21 (kk0 ++ Ls) H 73 i κ ↔ (0 ≤ i ∧ i < 6) ∧ κ (H 73 i) := Iff.rfl
theorem s73 {Ls : sm_K} {H : sm_H} {i x : Int} {κ : sm_H → Prop} : wstK 21 (kk0 ++ Ls) H 73 i x κ ↔ (0 ≤ i ∧ i < 6) ∧ κ (sm_u H 73 i x) := Iff.rfl
theorem n74 {S : sm_E} {Ls : sm_K} {κ : Int → Prop} : wlen S (kk0 ++ Ls) 74 κ ↔ κ 6 := ⟨fun h => h.2, fun h => ⟨by decide, h⟩⟩
theorem l74 {Ls : sm_K} {H : sm_H} {i : Int} {κ : Int → Prop} : wldK 21 (kk0 ++ Ls) H 74 i κ ↔ (0 ≤ i ∧ i < 6) ∧ κ (H 74 i) := Iff.rfl
theorem s74 {Ls : sm_K} {H : sm_H} {i x : Int} {κ : sm_H → Prop} : wstK 21 (kk0 ++ Ls) H 74 i x κ ↔ (0 ≤ i ∧ i < 6) ∧ κ (sm_u H 74 i x) := Iff.rfl
theorem n75 {S : sm_E} {Ls : sm_K} {κ : Int → Prop} : wlen S (kk0 ++ Ls) 75 κ ↔ κ 6 := ⟨fun h => h.2, fun h => ⟨by decide, h⟩⟩
theorem l75 {Ls : sm_K} {H : sm_H} {i : Int} {κ : Int → Prop} : wldK 21 (kk0 ++ Ls) H 75 i κ ↔ (0 ≤ i ∧ i < 6) ∧ κ (H 75 i) := Iff.rfl
theorem s75 {Ls : sm_K} {H : sm_H} {i x : Int} {κ : sm_H → Prop} : wstK 21 (kk0 ++ Ls) H 75 i x κ ↔ (0 ≤ i ∧ i < 6) ∧ κ (sm_u H 75 i x) := Iff.rfl
theorem n76 {S : sm_E} {Ls : sm_K} {κ : Int → Prop} : wlen S (kk0 ++ Ls) 76 κ ↔ κ 5 := ⟨fun h => h.2, fun h => ⟨by decide, h⟩⟩
theorem l76 {S : sm_E} {Ls : sm_K} {H : sm_H} {i : Int} {κ : Int → Prop} : wldI S (kk0 ++ Ls) H 76 i κ ↔ (0 ≤ i ∧ i < 5) ∧ κ (H 76 i) := Iff.rfl
theorem s76 {Ls : sm_K} {H : sm_H} {i x : Int} {κ : sm_H → Prop} : wstK 20 (kk0 ++ Ls) H 76 i x κ ↔ (0 ≤ i ∧ i < 5) ∧ κ (sm_u H 76 i x) := Iff.rfl
theorem n77 {S : sm_E} {Ls : sm_K} {κ : Int → Prop} : wlen S (kk0 ++ Ls) 77 κ ↔ κ 5 := ⟨fun h => h.2, fun h => ⟨by decide, h⟩⟩
theorem l77 {Ls : sm_K} {H : sm_H} {i : Int} {κ : Int → Prop} : wldK 21 (kk0 ++ Ls) H 77 i κ ↔ (0 ≤ i ∧ i < 5) ∧ κ (H 77 i) := Iff.rfl
theorem s77 {Ls : sm_K} {H : sm_H} {i x : Int} {κ : sm_H → Prop} : wstK 21 (kk0 ++ Ls) H 77 i x κ ↔ (0 ≤ i ∧ i < 5) ∧ κ (sm_u H 77 i x) := Iff.rfl
theorem n78 {S : sm_E} {Ls : sm_K} {κ : Int → Prop} : wlen S (kk0 ++ Ls) 78 κ ↔ κ 5 := ⟨fun h => h.2, fun h => ⟨by decide, h⟩⟩
theorem l78 {S : sm_E} {Ls : sm_K} {H : sm_H} {i : Int} {κ : Int → Prop} : wldI S (kk0 ++ Ls) H 78 i κ ↔ (0 ≤ i ∧ i < 5) ∧ κ (H 78 i) := Iff.rfl
theorem s78 {Ls : sm_K} {H : sm_H} {i x : Int} {κ : sm_H → Prop} : wstK 20 (kk0 ++ Ls) H 78 i x κ ↔ (0 ≤ i ∧ i < 5) ∧ κ (sm_u H 78 i x) := Iff.rfl
theorem n79 {S : sm_E} {Ls : sm_K} {κ : Int → Prop} : wlen S (kk0 ++ Ls) 79 κ ↔ κ 6 := ⟨fun h => h.2, fun h => ⟨by decide, h⟩⟩
theorem l79 {S : sm_E} {Ls : sm_K} {H : sm_H} {i : Int} {κ : Int → Prop} : wldI S (kk0 ++ Ls) H 79 i κ ↔ (0 ≤ i ∧ i < 6) ∧ κ (H 79 i) := Iff.rfl
theorem s79 {Ls : sm_K} {H : sm_H} {i x : Int} {κ : sm_H → Prop} : wstK 20 (kk0 ++ Ls) H 79 i x κ ↔ (0 ≤ i ∧ i < 6) ∧ κ (sm_u H 79 i x) := Iff.rfl
theorem rc80 {Ls : sm_K} : (sm_rcv (kk0 ++ Ls) 10 (some (.inr (.inr 80))) = true) ↔ True := iff_true_intro rfl
theorem g80_0 {Ls : sm_K} {H : sm_H} {κ : sm_V → Prop} : wgtf 10 0 (kk0 ++ Ls) H 80 κ ↔ κ (.inl (H 80 0)) := Iff.rfl
theorem p80_0 {o q : Nat} {Ls : sm_K} {H : sm_H} {x : Int} {κ : sm_K → sm_H → Prop} : wptf o q 10 0 (kk0 ++ Ls) H 80 (.inl x) κ ↔ κ (kk0 ++ Ls) (sm_u H 80 0 x) := Iff.rfl
theorem g80_1 {Ls : sm_K} {H : sm_H} {κ : sm_V → Prop} : wgtf 10 1 (kk0 ++ Ls) H 80 κ ↔ κ (.inl (H 80 1)) := Iff.rfl
theorem p80_1 {o q : Nat} {Ls : sm_K} {H : sm_H} {x : Int} {κ : sm_K → sm_H → Prop} : wptf o q 10 1 (kk0 ++ Ls) H 80 (.inl x) κ ↔ κ (kk0 ++ Ls) (sm_u H 80 1 x) := Iff.rfl
theorem g80_2 {Ls : sm_K} {H : sm_H} {κ : sm_V → Prop} : wgtf 10 2 (kk0 ++ Ls) H 80 κ ↔ κ (.inr (.inr 81)) := Iff.rfl
theorem g80_3 {Ls : sm_K} {H : sm_H} {κ : sm_V → Prop} : wgtf 10 3 (kk0 ++ Ls) H 80 κ ↔ κ (.inr (.inr 82)) := Iff.rfl
theorem g80_4 {Ls : sm_K} {H : sm_H} {κ : sm_V → Prop} : wgtf 10 4 (kk0 ++ Ls) H 80 κ ↔ κ (.inr (.inr 83)) := Iff.rfl
theorem g80_5 {Ls : sm_K} {H : sm_H} {κ : sm_V → Prop} : wgtf 10 5 (kk0 ++ Ls) H 80 κ ↔ κ (.inr (.inr 84)) := Iff.rfl
theorem g80_6 {Ls : sm_K} {H : sm_H} {κ : sm_V → Prop} : wgtf 10 6 (kk0 ++ Ls) H 80 κ ↔ κ (.inl (H 80 6)) := Iff.rfl
theorem p80_6 {o q : Nat} {Ls : sm_K} {H : sm_H} {x : Int} {κ : sm_K → sm_H → Prop} : wptf o q 10 6 (kk0 ++ Ls) H 80 (.inl x) κ ↔ κ (kk0 ++ Ls) (sm_u H 80 6 x) := Iff.rfl
theorem g80_7 {Ls : sm_K} {H : sm_H} {κ : sm_V → Prop} : wgtf 10 7 (kk0 ++ Ls) H 80 κ ↔ κ (.inr (.inr 85)) := Iff.rfl
theorem g80_8 {Ls : sm_K} {H : sm_H} {κ : sm_V → Prop} : wgtf 10 8 (kk0 ++ Ls) H 80 κ ↔ κ (.inl (H 80 8)) := Iff.rfl
theorem p80_8 {o q : Nat} {Ls : sm_K} {H : sm_H} {x : Int} {κ : sm_K → sm_H → Prop} : wptf o q 10 8 (kk0 ++ Ls) H 80 (.inl x) κ ↔ κ (kk0 ++ Ls) (sm_u H 80 8 x) := Iff.rfl
theorem g80_9 {Ls : sm_K} {H : sm_H} {κ : sm_V → Prop} : wgtf 10 9 (kk0 ++ Ls) H 80 κ ↔ κ (.inr (.inr 86)) := Iff.rfl
theorem g80_10 {Ls : sm_K} {H : sm_H} {κ : sm_V → Prop} : wgtf 10 10 (kk0 ++ Ls) H 80 κ ↔ κ (.inl (H 80 10)) := Iff.rfl
theorem p80_10 {o q : Nat} {Ls : sm_K} {H : sm_H} {x : Int} {κ : sm_K → sm_H → Prop} : wptf o q 10 10 (kk0 ++ Ls) H 80 (.inl x) κ ↔ κ (kk0 ++ Ls) (sm_u H 80 10 x) := Iff.rfl
theorem g80_11 {Ls : sm_K} {H : sm_H} {κ : sm_V → Prop} : wgtf 10 11 (kk0 ++ Ls) H 80 κ ↔ κ (.inl (H 80 11)) := Iff.rfl
theorem p80_11 {o q : Nat} {Ls : sm_K} {H : sm_H} {x : Int} {κ : sm_K → sm_H → Prop} : wptf o q 10 11 (kk0 ++ Ls) H 80 (.inl x) κ ↔ κ (kk0 ++ Ls) (sm_u H 80 11 x) := Iff.rfl
theorem g80_12 {Ls : sm_K} {H : sm_H} {κ : sm_V → Prop} : wgtf 10 12 (kk0 ++ Ls) H 80 κ ↔ κ (.inl (H 80 12)) := Iff.rfl
theorem p80_12 {o q : Nat} {Ls : sm_K} {H : sm_H} {x : Int} {κ : sm_K → sm_H → Prop} : wptf o q 10 12 (kk0 ++ Ls) H 80 (.inl x) κ ↔ κ (kk0 ++ Ls) (sm_u H 80 12 x) := Iff.rfl
theorem g80_13 {Ls : sm_K} {H : sm_H} {κ : sm_V → Prop} : wgtf 10 13 (kk0 ++ Ls) H 80 κ ↔ κ (.inl (H 80 13)) := Iff.rfl
theorem p80_13 {o q : Nat} {Ls : sm_K} {H : sm_H} {x : Int} {κ : sm_K → sm_H → Prop} : wptf o q 10 13 (kk0 ++ Ls) H 80 (.inl x) κ ↔ κ (kk0 ++ Ls) (sm_u H 80 13 x) := Iff.rfl
theorem g80_14 {Ls : sm_K} {H : sm_H} {κ : sm_V → Prop} : wgtf 10 14 (kk0 ++ Ls) H 80 κ ↔ κ (.inr (.inl (H 80 14))) := Iff.rfl
theorem p80_14 {o q : Nat} {Ls : sm_K} {H : sm_H} {x : Int} {κ : sm_K → sm_H → Prop} : wptf o q 10 14 (kk0 ++ Ls) H 80 (.inr (.inl x)) κ ↔ κ (kk0 ++ Ls) (sm_u H 80 14 x) := Iff.rfl
theorem g80_15 {Ls : sm_K} {H : sm_H} {κ : sm_V → Prop} : wgtf 10 15 (kk0 ++ Ls) H 80 κ ↔ κ (.inl (H 80 15)) := Iff.rfl
theorem p80_15 {o q : Nat} {Ls : sm_K} {H : sm_H} {x : Int} {κ : sm_K → sm_H → Prop} : wptf o q 10 15 (kk0 ++ Ls) H 80 (.inl x) κ ↔ κ (kk0 ++ Ls) (sm_u H 80 15 x) := Iff.rfl
theorem g80_16 {Ls : sm_K} {H : sm_H} {κ : sm_V → Prop} : wgtf 10 16 (kk0 ++ Ls) H 80 κ ↔ κ (.inl (H 80 16)) := Iff.rfl
theorem p80_16 {o q : Nat} {Ls : sm_K} {H : sm_H} {x : Int} {κ : sm_K → sm_H → Prop} : wptf o q 10 16 (kk0 ++ Ls) H 80 (.inl x) κ ↔ (x = 0 ∨ x = 1) ∧ κ (kk0 ++ Ls) (sm_u H 80 16 x) := wk_putZ rfl rfl (by decide)
theorem g80_17 {Ls : sm_K} {H : sm_H} {κ : sm_V → Prop} : wgtf 10 17 (kk0 ++ Ls) H 80 κ ↔ κ (.inl (H 80 17)) := Iff.rfl
theorem p80_17 {o q : Nat} {Ls : sm_K} {H : sm_H} {x : Int} {κ : sm_K → sm_H → Prop} : wptf o q 10 17 (kk0 ++ Ls) H 80 (.inl x) κ ↔ κ (kk0 ++ Ls) (sm_u H 80 17 x) := Iff.rfl
theorem g80_18 {Ls : sm_K} {H : sm_H} {κ : sm_V → Prop} : wgtf 10 18 (kk0 ++ Ls) H 80 κ ↔ κ (.inr (.inr 87)) := Iff.rfl
theorem g80_19 {Ls : sm_K} {H : sm_H} {κ : sm_V → Prop} : wgtf 10 19 (kk0 ++ Ls) H 80 κ ↔ κ (.inl (H 80 19)) := Iff.rfl
theorem p80_19 {o q : Nat} {Ls : sm_K} {H : sm_H} {x : Int} {κ : sm_K → sm_H → Prop} : wptf o q 10 19 (kk0 ++ Ls) H 80 (.inl x) κ ↔ κ (kk0 ++ Ls) (sm_u H 80 19 x) := Iff.rfl
theorem g80_20 {Ls : sm_K} {H : sm_H} {κ : sm_V → Prop} : wgtf 10 20 (kk0 ++ Ls) H 80 κ ↔ κ (.inr (.inr 88)) := Iff.rfl
theorem g80_21 {Ls : sm_K} {H : sm_H} {κ : sm_V → Prop} : wgtf 10 21 (kk0 ++ Ls) H 80 κ ↔ κ (.inr (.inr 89)) := Iff.rfl
theorem g80_22 {Ls : sm_K} {H : sm_H} {κ : sm_V → Prop} : wgtf 10 22 (kk0 ++ Ls) H 80 κ ↔ κ (.inl (H 80 22)) := Iff.rfl
theorem p80_22 {o q : Nat} {Ls : sm_K} {H : sm_H} {x : Int} {κ : sm_K → sm_H → Prop} : wptf o q 10 22 (kk0 ++ Ls) H 80 (.inl x) κ ↔ κ (kk0 ++ Ls) (sm_u H 80 22 x) := Iff.rfl
theorem g80_23 {Ls : sm_K} {H : sm_H} {κ : sm_V → Prop} : wgtf 10 23 (kk0 ++ Ls) H 80 κ ↔ κ (.inr (.inr 90)) := Iff.rfl
theorem g80_24 {Ls : sm_K} {H : sm_H} {κ : sm_V → Prop} : wgtf 10 24 (kk0 ++ Ls) H 80 κ ↔ κ (.inr (.inr 91)) := Iff.rfl
theorem g80_25 {Ls : sm_K} {H : sm_H} {κ : sm_V → Prop} : wgtf 10 25 (kk0 ++ Ls) H 80 κ ↔ κ (.inl (H 80 25)) := Iff.rfl
theorem p80_25 {o q : Nat} {Ls : sm_K} {H : sm_H} {x : Int} {κ : sm_K → sm_H → Prop} : wptf o q 10 25 (kk0 ++ Ls) H 80 (.inl x) κ ↔ κ (kk0 ++ Ls) (sm_u H 80 25 x) := Iff.rfl
theorem g80_26 {Ls : sm_K} {H : sm_H} {κ : sm_V → Prop} : wgtf 10 26 (kk0 ++ Ls) H 80 κ ↔ κ (.inl (H 80 26)) := Iff.rfl
theorem p80_26 {o q : Nat} {Ls : sm_K} {H : sm_H} {x : Int} {κ : sm_K → sm_H → Prop} : wptf o q 10 26 (kk0 ++ Ls) H 80 (.inl x) κ ↔ κ (kk0 ++ Ls) (sm_u H 80 26 x) := Iff.rfl
theorem g80_27 {Ls : sm_K} {H : sm_H} {κ : sm_V → Prop} : wgtf 10 27 (kk0 ++ Ls) H 80 κ ↔ κ (.inr (.inr 92)) := Iff.rfl
theorem g80_28 {Ls : sm_K} {H : sm_H} {κ : sm_V → Prop} : wgtf 10 28 (kk0 ++ Ls) H 80 κ ↔ κ (.inr (.inr 93)) := Iff.rfl
theorem g80_29 {Ls : sm_K} {H : sm_H} {κ : sm_V → Prop} : wgtf 10 29 (kk0 ++ Ls) H 80 κ ↔ κ (.inl (H 80 29)) := Iff.rfl
theorem p80_29 {o q : Nat} {Ls : sm_K} {H : sm_H} {x : Int} {κ : sm_K → sm_H → Prop} : wptf o q 10 29 (kk0 ++ Ls) H 80 (.inl x) κ ↔ κ (kk0 ++ Ls) (sm_u H 80 29 x) := Iff.rfl
theorem g80_30 {Ls : sm_K} {H : sm_H} {κ : sm_V → Prop} : wgtf 10 30 (kk0 ++ Ls) H 80 κ ↔ κ (.inr (.inr 94)) := Iff.rfl
theorem g80_31 {Ls : sm_K} {H : sm_H} {κ : sm_V → Prop} : wgtf 10 31 (kk0 ++ Ls) H 80 κ ↔ κ (.inr (.inr 95)) := Iff.rfl
theorem g80_32 {Ls : sm_K} {H : sm_H} {κ : sm_V → Prop} : wgtf 10 32 (kk0 ++ Ls) H 80 κ ↔ κ (.inl (H 80 32)) := Iff.rfl
theorem p80_32 {o q : Nat} {Ls : sm_K} {H : sm_H} {x : Int} {κ : sm_K → sm_H → Prop} : wptf o q 10 32 (kk0 ++ Ls) H 80 (.inl x) κ ↔ (x = 0 ∨ x = 1) ∧ κ (kk0 ++ Ls) (sm_u H 80 32 x) := wk_putZ rfl rfl (by decide)
theorem g80_33 {Ls : sm_K} {H : sm_H} {κ : sm_V → Prop} : wgtf 10 33 (kk0 ++ Ls) H 80 κ ↔ κ (.inr (.inl (H 80 33))) := Iff.rfl
theorem p80_33 {o q : Nat} {Ls : sm_K} {H : sm_H} {x : Int} {κ : sm_K → sm_H → Prop} : wptf o q 10 33 (kk0 ++ Ls) H 80 (.inr (.inl x)) κ ↔ κ (kk0 ++ Ls) (sm_u H 80 33 x) := Iff.rfl
theorem g80_34 {Ls : sm_K} {H : sm_H} {κ : sm_V → Prop} : wgtf 10 34 (kk0 ++ Ls) H 80 κ ↔ κ (.inr (.inl (H 80 34))) := Iff.rfl
theorem p80_34 {o q : Nat} {Ls : sm_K} {H : sm_H} {x : Int} {κ : sm_K → sm_H → Prop} : wptf o q 10 34 (kk0 ++ Ls) H 80 (.inr (.inl x)) κ ↔ κ (kk0 ++ Ls) (sm_u H 80 34 x) := Iff.rfl
theorem g80_35 {Ls : sm_K} {H : sm_H} {κ : sm_V → Prop} : wgtf 10 35 (kk0 ++ Ls) H 80 κ ↔ κ (.inr (.inr 96)) := Iff.rfl
theorem g80_36 {Ls : sm_K} {H : sm_H} {κ : sm_V → Prop} : wgtf 10 36 (kk0 ++ Ls) H 80 κ ↔ κ (.inr (.inr 97)) := Iff.rfl
theorem g80_37 {Ls : sm_K} {H : sm_H} {κ : sm_V → Prop} : wgtf 10 37 (kk0 ++ Ls) H 80 κ ↔ κ (.inl (H 80 37)) := Iff.rfl
theorem p80_37 {o q : Nat} {Ls : sm_K} {H : sm_H} {x : Int} {κ : sm_K → sm_H → Prop} : wptf o q 10 37 (kk0 ++ Ls) H 80 (.inl x) κ ↔ (x = 0 ∨ x = 1) ∧ κ (kk0 ++ Ls) (sm_u H 80 37 x) := wk_putZ rfl rfl (by decide)
theorem g80_38 {Ls : sm_K} {H : sm_H} {κ : sm_V → Prop} : wgtf 10 38 (kk0 ++ Ls) H 80 κ ↔ κ (.inl (H 80 38)) := Iff.rfl
theorem p80_38 {o q : Nat} {Ls : sm_K} {H : sm_H} {x : Int} {κ : sm_K → sm_H → Prop} : wptf o q 10 38 (kk0 ++ Ls) H 80 (.inl x) κ ↔ κ (kk0 ++ Ls) (sm_u H 80 38 x) := Iff.rfl
theorem g80_39 {Ls : sm_K} {H : sm_H} {κ : sm_V → Prop} : wgtf 10 39 (kk0 ++ Ls) H 80 κ ↔ κ (.inl (H 80 39)) := Iff.rfl
theorem p80_39 {o q : Nat} {Ls : sm_K} {H : sm_H} {x : Int} {κ : sm_K → sm_H → Prop} : wptf o q 10 39 (kk0 ++ Ls) H 80 (.inl x) κ ↔ (x = 0 ∨ x = 1) ∧ κ (kk0 ++ Ls) (sm_u H 80 39 x) := wk_putZ rfl rfl (by decide)
theorem g80_40 {Ls : sm_K} {H : sm_H} {κ : sm_V → Prop} : wgtf 10 40 (kk0 ++ Ls) H 80 κ ↔ κ (.inr (.inr 98)) := Iff.rfl
theorem g80_41 {Ls : sm_K} {H : sm_H} {κ : sm_V → Prop} : wgtf 10 41 (kk0 ++ Ls) H 80 κ ↔ κ (.inr (.inr 99)) := Iff.rfl
theorem g80_42 {Ls : sm_K} {H : sm_H} {κ : sm_V → Prop} : wgtf 10 42 (kk0 ++ Ls) H 80 κ ↔ κ (.inr (.inr 100)) := Iff.rfl
theorem g80_43 {Ls : sm_K} {H : sm_H} {κ : sm_V → Prop} : wgtf 10 43 (kk0 ++ Ls) H 80 κ ↔ κ (.inr (.inr 101)) := Iff.rfl
theorem g80_44 {Ls : sm_K} {H : sm_H} {κ : sm_V → Prop} : wgtf 10 44 (kk0 ++ Ls) H 80 κ ↔ κ (.inr (.inr 102)) := Iff.rfl
theorem g80_45 {Ls : sm_K} {H : sm_H} {κ : sm_V → Prop} : wgtf 10 45 (kk0 ++ Ls) H 80 κ ↔ κ (.inr (.inr 103)) := Iff.rfl
theorem g80_46 {Ls : sm_K} {H : sm_H} {κ : sm_V → Prop} : wgtf 10 46 (kk0 ++ Ls) H 80 κ ↔ κ (.inr (.inr 104)) := Iff.rfl
theorem g80_47 {Ls : sm_K} {H : sm_H} {κ : sm_V → Prop} : wgtf 10 47 (kk0 ++ Ls) H 80 κ ↔ κ (.inl (H 80 47)) := Iff.rfl
theorem p80_47 {o q : Nat} {Ls : sm_K} {H : sm_H} {x : Int} {κ : sm_K → sm_H → Prop} : wptf o q 10 47 (kk0 ++ Ls) H 80 (.inl x) κ ↔ κ (kk0 ++ Ls) (sm_u H 80 47 x) := Iff.rfl
theorem g80_48 {Ls : sm_K} {H : sm_H} {κ : sm_V → Prop} : wgtf 10 48 (kk0 ++ Ls) H 80 κ ↔ κ (.inl (H 80 48)) := Iff.rfl
theorem p80_48 {o q : Nat} {Ls : sm_K} {H : sm_H} {x : Int} {κ : sm_K → sm_H → Prop} : wptf o q 10 48 (kk0 ++ Ls) H 80 (.inl x) κ ↔ κ (kk0 ++ Ls) (sm_u H 80 48 x) := Iff.rfl
theorem g80_49 {Ls : sm_K} {H : sm_H} {κ : sm_V → Prop} : wgtf 10 49 (kk0 ++ Ls) H 80 κ ↔ κ (.inr (.inr 105)) := Iff.rfl
theorem g80_50 {Ls : sm_K} {H : sm_H} {κ : sm_V → Prop} : wgtf 10 50 (kk0 ++ Ls) H 80 κ ↔ κ (.inl (H 80 50)) := Iff.rfl
theorem p80_50 {o q : Nat} {Ls : sm_K} {H : sm_H} {x : Int} {κ : sm_K → sm_H → Prop} : wptf o q 10 50 (kk0 ++ Ls) H 80 (.inl x) κ ↔ κ (kk0 ++ Ls) (sm_u H 80 50 x) := Iff.rfl
theorem g80_51 {Ls : sm_K} {H : sm_H} {κ : sm_V → Prop} : wgtf 10 51 (kk0 ++ Ls) H 80 κ ↔ κ (.inl (H 80 51)) := Iff.rfl
theorem p80_51 {o q : Nat} {Ls : sm_K} {H : sm_H} {x : Int} {κ : sm_K → sm_H → Prop} : wptf o q 10 51 (kk0 ++ Ls) H 80 (.inl x) κ ↔ κ (kk0 ++ Ls) (sm_u H 80 51 x) := Iff.rfl
theorem g80_52 {Ls : sm_K} {H : sm_H} {κ : sm_V → Prop} : wgtf 10 52 (kk0 ++ Ls) H 80 κ ↔ κ (.inr (.inr 106)) := Iff.rfl
theorem g80_53 {Ls : sm_K} {H : sm_H} {κ : sm_V → Prop} : wgtf 10 53 (kk0 ++ Ls) H 80 κ ↔ κ (.inr (.inr 107)) := Iff.rfl
theorem g80_54 {Ls : sm_K} {H : sm_H} {κ : sm_V → Prop} : wgtf 10 54 (kk0 ++ Ls) H 80 κ ↔ κ (.inr (.inr 108)) := Iff.rfl
theorem g80_55 {Ls : sm_K} {H : sm_H} {κ : sm_V → Prop} : wgtf 10 55 (kk0 ++ Ls) H 80 κ ↔ κ (.inr (.inr 109)) := Iff.rfl
theorem g80_56 {Ls : sm_K} {H : sm_H} {κ : sm_V → Prop} : wgtf 10 56 (kk0 ++ Ls) H 80 κ ↔ κ (.inr (.inr 110)) := Iff.rfl
theorem g80_57 {Ls : sm_K} {H : sm_H} {κ : sm_V → Prop} : wgtf 10 57 (kk0 ++ Ls) H 80 κ ↔ κ (.inr (.inr 111)) := Iff.rfl
theorem g80_58 {Ls : sm_K} {H : sm_H} {κ : sm_V → Prop} : wgtf 10 58 (kk0 ++ Ls) H 80 κ ↔ κ (.inr (.inr 112)) := Iff.rfl
theorem g80_59 {Ls : sm_K} {H : sm_H} {κ : sm_V → Prop} : wgtf 10 59 (kk0 ++ Ls) H 80 κ ↔ κ (.inr (.inl (H 80 59))) := Iff.rfl
theorem p80_59 {o q : Nat} {Ls : sm_K} {H : sm_H} {x : Int} {κ : sm_K → sm_H → Prop} : wptf o q 10 59 (kk0 ++ Ls) H 80 (.inr (.inl x)) κ ↔ κ (kk0 ++ Ls) (sm_u H 80 59 x) := Iff.rfl
theorem g80_60 {Ls : sm_K} {H : sm_H} {κ : sm_V → Prop} : wgtf 10 60 (kk0 ++ Ls) H 80 κ ↔ κ (.inr (.inr 113)) := Iff.rfl
theorem g80_61 {Ls : sm_K} {H : sm_H} {κ : sm_V → Prop} : wgtf 10 61 (kk0 ++ Ls) H 80 κ ↔ κ (.inl (H 80 61)) := Iff.rfl
theorem p80_61 {o q : Nat} {Ls : sm_K} {H : sm_H} {x : Int} {κ : sm_K → sm_H → Prop} : wptf o q 10 61 (kk0 ++ Ls) H 80 (.inl x) κ ↔ κ (kk0 ++ Ls) (sm_u H 80 61 x) := Iff.rfl
theorem n81 {S : sm_E} {Ls : sm_K} {κ : Int → Prop} : wlen S (kk0 ++ Ls) 81 κ ↔ κ 7 := ⟨fun h => h.2, fun h => ⟨by decide, h⟩⟩
theorem l81 {S : sm_E} {Ls : sm_K} {H : sm_H} {i : Int} {κ : Int → Prop} : wldI S (kk0 ++ Ls) H 81 i κ ↔ (0 ≤ i ∧ i < 7) ∧ κ (H 81 i) := Iff.rfl
theorem s81 {Ls : sm_K} {H : sm_H} {i x : Int} {κ : sm_H → Prop} : wstK 20 (kk0 ++ Ls) H 81 i x κ ↔ (0 ≤ i ∧ i < 7) ∧ κ (sm_u H 81 i x) := Iff.rfl
theorem n82 {S : sm_E} {Ls : sm_K} {κ : Int → Prop} : wlen S (kk0 ++ Ls) 82 κ ↔ κ 5620 := ⟨fun h => h.2, fun h => ⟨by decide, h⟩⟩
theorem l82 {S : sm_E} {Ls : sm_K} {H : sm_H} {i : Int} {κ : Int → Prop} : wldI S (kk0 ++ Ls) H 82 i κ ↔ (0 ≤ i ∧ i < 5620) ∧ κ (H 82 i) := Iff.rfl
theorem s82 {Ls : sm_K} {H : sm_H} {i x : Int} {κ : sm_H → Prop} : wstK 20 (kk0 ++ Ls) H 82 i x κ ↔ (0 ≤ i ∧ i < 5620) ∧ κ (sm_u H 82 i x) := Iff.rfl
theorem n83 {S : sm_E} {Ls : sm_K} {κ : Int → Prop} : wlen S (kk0 ++ Ls) 83 κ ↔ κ 11240 := ⟨fun h => h.2, fun h => ⟨by decide, h⟩⟩
theorem l83 {S : sm_E} {Ls : sm_K} {H : sm_H} {i : Int} {κ : Int → Prop} : wldI S (kk0 ++ Ls) H 83 i κ ↔ (0 ≤ i ∧ i < 11240) ∧ κ (H 83 i) := Iff.rfl
theorem s83 {Ls : sm_K} {H : sm_H} {i x : Int} {κ : sm_H → Prop} : wstK 20 (kk0 ++ Ls) H 83 i x κ ↔ (0 ≤ i ∧ i < 11240) ∧ κ (sm_u H 83 i x) := Iff.rfl
theorem n84 {S : sm_E} {Ls : sm_K} {κ : Int → Prop} : wlen S (kk0 ++ Ls) 84 κ ↔ κ 2 := ⟨fun h => h.2, fun h => ⟨by decide, h⟩⟩
theorem l84 {Ls : sm_K} {H : sm_H} {i : Int} {κ : Int → Prop} : wldB (kk0 ++ Ls) H 84 i κ ↔ (0 ≤ i ∧ i < 2) ∧ κ (H 84 i) := Iff.rfl
theorem s84 {Ls : sm_K} {H : sm_H} {i x : Int} {κ : sm_H → Prop} : wstB (kk0 ++ Ls) H 84 i x κ ↔ ((0 ≤ i ∧ i < 2) ∧ (x = 0 ∨ x = 1)) ∧ κ (sm_u H 84 i x) := Iff.rfl
theorem n85 {S : sm_E} {Ls : sm_K} {κ : Int → Prop} : wlen S (kk0 ++ Ls) 85 κ ↔ κ 24 := ⟨fun h => h.2, fun h => ⟨by decide, h⟩⟩
theorem l85 {S : sm_E} {Ls : sm_K} {H : sm_H} {i : Int} {κ : Int → Prop} : wldI S (kk0 ++ Ls) H 85 i κ ↔ (0 ≤ i ∧ i < 24) ∧ κ (H 85 i) := Iff.rfl
theorem s85 {Ls : sm_K} {H : sm_H} {i x : Int} {κ : sm_H → Prop} : wstK 20 (kk0 ++ Ls) H 85 i x κ ↔ (0 ≤ i ∧ i < 24) ∧ κ (sm_u H 85 i x) := Iff.rfl
theorem n86 {S : sm_E} {Ls : sm_K} {κ : Int → Prop} : wlen S (kk0 ++ Ls) 86 κ ↔ κ 400 := ⟨fun h => h.2, fun h => ⟨by decide, h⟩⟩
theorem l86 {S : sm_E} {Ls : sm_K} {H : sm_H} {i : Int} {κ : Int → Prop} : wldI S (kk0 ++ Ls) H 86 i κ ↔ (0 ≤ i ∧ i < 400) ∧ κ (H 86 i) := Iff.rfl
theorem s86 {Ls : sm_K} {H : sm_H} {i x : Int} {κ : sm_H → Prop} : wstK 20 (kk0 ++ Ls) H 86 i x κ ↔ (0 ≤ i ∧ i < 400) ∧ κ (sm_u H 86 i x) := Iff.rfl
theorem n87 {S : sm_E} {Ls : sm_K} {κ : Int → Prop} : wlen S (kk0 ++ Ls) 87 κ ↔ κ 96 := ⟨fun h => h.2, fun h => ⟨by decide, h⟩⟩
theorem l87 {S : sm_E} {Ls : sm_K} {H : sm_H} {i : Int} {κ : Int → Prop} : wldI S (kk0 ++ Ls) H 87 i κ ↔ (0 ≤ i ∧ i < 96) ∧ κ (H 87 i) := Iff.rfl
theorem s87 {Ls : sm_K} {H : sm_H} {i x : Int} {κ : sm_H → Prop} : wstK 20 (kk0 ++ Ls) H 87 i x κ ↔ (0 ≤ i ∧ i < 96) ∧ κ (sm_u H 87 i x) := Iff.rfl
theorem n88 {S : sm_E} {Ls : sm_K} {κ : Int → Prop} : wlen S (kk0 ++ Ls) 88 κ ↔ κ 400 := ⟨fun h => h.2, fun h => ⟨by decide, h⟩⟩
theorem l88 {S : sm_E} {Ls : sm_K} {H : sm_H} {i : Int} {κ : Int → Prop} : wldI S (kk0 ++ Ls) H 88 i κ ↔ (0 ≤ i ∧ i < 400) ∧ κ (H 88 i) := Iff.rfl
theorem s88 {Ls : sm_K} {H : sm_H} {i x : Int} {κ : sm_H → Prop} : wstK 20 (kk0 ++ Ls) H 88 i x κ ↔ (0 ≤ i ∧ i < 400) ∧ κ (sm_u H 88 i x) := Iff.rfl
theorem n89 {S : sm_E} {Ls : sm_K} {κ : Int → Prop} : wlen S (kk0 ++ Ls) 89 κ ↔ κ 400 := ⟨fun h => h.2, fun h => ⟨by decide, h⟩⟩
theorem l89 {S : sm_E} {Ls : sm_K} {H : sm_H} {i : Int} {κ : Int → Prop} : wldI S (kk0 ++ Ls) H 89 i κ ↔ (0 ≤ i ∧ i < 400) ∧ κ (H 89 i) := Iff.rfl
theorem s89 {Ls : sm_K} {H : sm_H} {i x : Int} {κ : sm_H → Prop} : wstK 20 (kk0 ++ Ls) H 89 i x κ ↔ (0 ≤ i ∧ i < 400) ∧ κ (sm_u H 89 i x) := Iff.rfl
theorem n90 {S : sm_E} {Ls : sm_K} {κ : Int → Prop} : wlen S (kk0 ++ Ls) 90 κ ↔ κ 400 := ⟨fun h => h.2, fun h => ⟨by decide, h⟩⟩
theorem l90 {S : sm_E} {Ls : sm_K} {H : sm_H} {i : Int} {κ : Int → Prop} : wldI S (kk0 ++ Ls) H 90 i κ ↔ (0 ≤ i ∧ i < 400) ∧ κ (H 90 i) := Iff.rfl
theorem s90 {Ls : sm_K} {H : sm_H} {i x : Int} {κ : sm_H → Prop} : wstK 20 (kk0 ++ Ls) H 90 i x κ ↔ (0 ≤ i ∧ i < 400) ∧ κ (sm_u H 90 i x) := Iff.rfl
theorem n91 {S : sm_E} {Ls : sm_K} {κ : Int → Prop} : wlen S (kk0 ++ Ls) 91 κ ↔ κ 400 := ⟨fun h => h.2, fun h => ⟨by decide, h⟩⟩
theorem l91 {S : sm_E} {Ls : sm_K} {H : sm_H} {i : Int} {κ : Int → Prop} : wldI S (kk0 ++ Ls) H 91 i κ ↔ (0 ≤ i ∧ i < 400) ∧ κ (H 91 i) := Iff.rfl
theorem s91 {Ls : sm_K} {H : sm_H} {i x : Int} {κ : sm_H → Prop} : wstK 20 (kk0 ++ Ls) H 91 i x κ ↔ (0 ≤ i ∧ i < 400) ∧ κ (sm_u H 91 i x) := Iff.rfl
theorem n92 {S : sm_E} {Ls : sm_K} {κ : Int → Prop} : wlen S (kk0 ++ Ls) 92 κ ↔ κ 10 := ⟨fun h => h.2, fun h => ⟨by decide, h⟩⟩
theorem l92 {Ls : sm_K} {H : sm_H} {i : Int} {κ : Int → Prop} : wldK 21 (kk0 ++ Ls) H 92 i κ ↔ (0 ≤ i ∧ i < 10) ∧ κ (H 92 i) := Iff.rfl
theorem s92 {Ls : sm_K} {H : sm_H} {i x : Int} {κ : sm_H → Prop} : wstK 21 (kk0 ++ Ls) H 92 i x κ ↔ (0 ≤ i ∧ i < 10) ∧ κ (sm_u H 92 i x) := Iff.rfl
theorem n93 {S : sm_E} {Ls : sm_K} {κ : Int → Prop} : wlen S (kk0 ++ Ls) 93 κ ↔ κ 5 := ⟨fun h => h.2, fun h => ⟨by decide, h⟩⟩
theorem l93 {Ls : sm_K} {H : sm_H} {i : Int} {κ : Int → Prop} : wldK 21 (kk0 ++ Ls) H 93 i κ ↔ (0 ≤ i ∧ i < 5) ∧ κ (H 93 i) := Iff.rfl
theorem s93 {Ls : sm_K} {H : sm_H} {i x : Int} {κ : sm_H → Prop} : wstK 21 (kk0 ++ Ls) H 93 i x κ ↔ (0 ≤ i ∧ i < 5) ∧ κ (sm_u H 93 i x) := Iff.rfl
theorem n94 {S : sm_E} {Ls : sm_K} {κ : Int → Prop} : wlen S (kk0 ++ Ls) 94 κ ↔ κ 13 := ⟨fun h => h.2, fun h => ⟨by decide, h⟩⟩
theorem l94 {Ls : sm_K} {H : sm_H} {i : Int} {κ : Int → Prop} : wldK 21 (kk0 ++ Ls) H 94 i κ ↔ (0 ≤ i ∧ i < 13) ∧ κ (H 94 i) := Iff.rfl
theorem s94 {Ls : sm_K} {H : sm_H} {i x : Int} {κ : sm_H → Prop} : wstK 21 (kk0 ++ Ls) H 94 i x κ ↔ (0 ≤ i ∧ i < 13) ∧ κ (sm_u H 94 i x) := Iff.rfl
theorem n95 {S : sm_E} {Ls : sm_K} {κ : Int → Prop} : wlen S (kk0 ++ Ls) 95 κ ↔ κ 400 := ⟨fun h => h.2, fun h => ⟨by decide, h⟩⟩
theorem l95 {Ls : sm_K} {H : sm_H} {i : Int} {κ : Int → Prop} : wldK 21 (kk0 ++ Ls) H 95 i κ ↔ (0 ≤ i ∧ i < 400) ∧ κ (H 95 i) := Iff.rfl
theorem s95 {Ls : sm_K} {H : sm_H} {i x : Int} {κ : sm_H → Prop} : wstK 21 (kk0 ++ Ls) H 95 i x κ ↔ (0 ≤ i ∧ i < 400) ∧ κ (sm_u H 95 i x) := Iff.rfl
theorem n96 {S : sm_E} {Ls : sm_K} {κ : Int → Prop} : wlen S (kk0 ++ Ls) 96 κ ↔ κ 5 := ⟨fun h => h.2, fun h => ⟨by decide, h⟩⟩
theorem l96 {S : sm_E} {Ls : sm_K} {H : sm_H} {i : Int} {κ : Int → Prop} : wldI S (kk0 ++ Ls) H 96 i κ ↔ (0 ≤ i ∧ i < 5) ∧ κ (H 96 i) := Iff.rfl
theorem s96 {Ls : sm_K} {H : sm_H} {i x : Int} {κ : sm_H → Prop} : wstK 20 (kk0 ++ Ls) H 96 i x κ ↔ (0 ≤ i ∧ i < 5) ∧ κ (sm_u H 96 i x) := Iff.rfl
theorem n97 {S : sm_E} {Ls : sm_K} {κ : Int → Prop} : wlen S (kk0 ++ Ls) 97 κ ↔ κ 5 := ⟨fun h => h.2, fun h => ⟨by decide, h⟩⟩
theorem l97 {Ls : sm_K} {H : sm_H} {i : Int} {κ : Int → Prop} : wldK 21 (kk0 ++ Ls) H 97 i κ ↔ (0 ≤ i ∧ i < 5) ∧ κ (H 97 i) := Iff.rfl
theorem s97 {Ls : sm_K} {H : sm_H} {i x : Int} {κ : sm_H → Prop} : wstK 21 (kk0 ++ Ls) H 97 i x κ ↔ (0 ≤ i ∧ i < 5) ∧ κ (sm_u H 97 i x) := Iff.rfl
theorem n98 {S : sm_E} {Ls : sm_K} {κ : Int → Prop} : wlen S (kk0 ++ Ls) 98 κ ↔ κ 6 := ⟨fun h => h.2, fun h => ⟨by decide, h⟩⟩
theorem l98 {S : sm_E} {Ls : sm_K} {H : sm_H} {i : Int} {κ : Int → Prop} : wldI S (kk0 ++ Ls) H 98 i κ ↔ (0 ≤ i ∧ i < 6) ∧ κ (H 98 i) := Iff.rfl
theorem s98 {Ls : sm_K} {H : sm_H} {i x : Int} {κ : sm_H → Prop} : wstK 20 (kk0 ++ Ls) H 98 i x κ ↔ (0 ≤ i ∧ i < 6) ∧ κ (sm_u H 98 i x) := Iff.rfl
theorem n99 {S : sm_E} {Ls : sm_K} {κ : Int → Prop} : wlen S (kk0 ++ Ls) 99 κ ↔ κ 500000 := ⟨fun h => h.2, fun h => ⟨by decide, h⟩⟩
theorem l99 {S : sm_E} {Ls : sm_K} {H : sm_H} {i : Int} {κ : Int → Prop} : wldI S (kk0 ++ Ls) H 99 i κ ↔ (0 ≤ i ∧ i < 500000) ∧ κ (H 99 i) := Iff.rfl
theorem s99 {Ls : sm_K} {H : sm_H} {i x : Int} {κ : sm_H → Prop} : wstK 20 (kk0 ++ Ls) H 99 i x κ ↔ (0 ≤ i ∧ i < 500000) ∧ κ (sm_u H 99 i x) := Iff.rfl
theorem n100 {S : sm_E} {Ls : sm_K} {κ : Int → Prop} : wlen S (kk0 ++ Ls) 100 κ ↔ κ 100000 := ⟨fun h => h.2, fun h => ⟨by decide, h⟩⟩
theorem l100 {S : sm_E} {Ls : sm_K} {H : sm_H} {i : Int} {κ : Int → Prop} : wldI S (kk0 ++ Ls) H 100 i κ ↔ (0 ≤ i ∧ i < 100000) ∧ κ (H 100 i) := Iff.rfl
theorem s100 {Ls : sm_K} {H : sm_H} {i x : Int} {κ : sm_H → Prop} : wstK 20 (kk0 ++ Ls) H 100 i x κ ↔ (0 ≤ i ∧ i < 100000) ∧ κ (sm_u H 100 i x) := Iff.rfl
theorem n101 {S : sm_E} {Ls : sm_K} {κ : Int → Prop} : wlen S (kk0 ++ Ls) 101 κ ↔ κ 100000 := ⟨fun h => h.2, fun h => ⟨by decide, h⟩⟩
theorem l101 {S : sm_E} {Ls : sm_K} {H : sm_H} {i : Int} {κ : Int → Prop} : wldI S (kk0 ++ Ls) H 101 i κ ↔ (0 ≤ i ∧ i < 100000) ∧ κ (H 101 i) := Iff.rfl
theorem s101 {Ls : sm_K} {H : sm_H} {i x : Int} {κ : sm_H → Prop} : wstK 20 (kk0 ++ Ls) H 101 i x κ ↔ (0 ≤ i ∧ i < 100000) ∧ κ (sm_u H 101 i x) := Iff.rfl
theorem n102 {S : sm_E} {Ls : sm_K} {κ : Int → Prop} : wlen S (kk0 ++ Ls) 102 κ ↔ κ 100000 := ⟨fun h => h.2, fun h => ⟨by decide, h⟩⟩
theorem l102 {S : sm_E} {Ls : sm_K} {H : sm_H} {i : Int} {κ : Int → Prop} : wldI S (kk0 ++ Ls) H 102 i κ ↔ (0 ≤ i ∧ i < 100000) ∧ κ (H 102 i) := Iff.rfl
theorem s102 {Ls : sm_K} {H : sm_H} {i x : Int} {κ : sm_H → Prop} : wstK 20 (kk0 ++ Ls) H 102 i x κ ↔ (0 ≤ i ∧ i < 100000) ∧ κ (sm_u H 102 i x) := Iff.rfl
theorem n103 {S : sm_E} {Ls : sm_K} {κ : Int → Prop} : wlen S (kk0 ++ Ls) 103 κ ↔ κ 100000 := ⟨fun h => h.2, fun h => ⟨by decide, h⟩⟩
theorem l103 {S : sm_E} {Ls : sm_K} {H : sm_H} {i : Int} {κ : Int → Prop} : wldI S (kk0 ++ Ls) H 103 i κ ↔ (0 ≤ i ∧ i < 100000) ∧ κ (H 103 i) := Iff.rfl
theorem s103 {Ls : sm_K} {H : sm_H} {i x : Int} {κ : sm_H → Prop} : wstK 20 (kk0 ++ Ls) H 103 i x κ ↔ (0 ≤ i ∧ i < 100000) ∧ κ (sm_u H 103 i x) := Iff.rfl
theorem n104 {S : sm_E} {Ls : sm_K} {κ : Int → Prop} : wlen S (kk0 ++ Ls) 104 κ ↔ κ 100000 := ⟨fun h => h.2, fun h => ⟨by decide, h⟩⟩
theorem l104 {Ls : sm_K} {H : sm_H} {i : Int} {κ : Int → Prop} : wldB (kk0 ++ Ls) H 104 i κ ↔ (0 ≤ i ∧ i < 100000) ∧ κ (H 104 i) := Iff.rfl
theorem s104 {Ls : sm_K} {H : sm_H} {i x : Int} {κ : sm_H → Prop} : wstB (kk0 ++ Ls) H 104 i x κ ↔ ((0 ≤ i ∧ i < 100000) ∧ (x = 0 ∨ x = 1)) ∧ κ (sm_u H 104 i x) := Iff.rfl
theorem n105 {S : sm_E} {Ls : sm_K} {κ : Int → Prop} : wlen S (kk0 ++ Ls) 105 κ ↔ κ 12 := ⟨fun h => h.2, fun h => ⟨by decide, h⟩⟩
theorem l105 {S : sm_E} {Ls : sm_K} {H : sm_H} {i : Int} {κ : Int → Prop} : wldI S (kk0 ++ Ls) H 105 i κ ↔ (0 ≤ i ∧ i < 12) ∧ κ (H 105 i) := Iff.rfl
theorem s105 {Ls : sm_K} {H : sm_H} {i x : Int} {κ : sm_H → Prop} : wstK 20 (kk0 ++ Ls) H 105 i x κ ↔ (0 ≤ i ∧ i < 12) ∧ κ (sm_u H 105 i x) := Iff.rfl
theorem n106 {S : sm_E} {Ls : sm_K} {κ : Int → Prop} : wlen S (kk0 ++ Ls) 106 κ ↔ κ 5 := ⟨fun h => h.2, fun h => ⟨by decide, h⟩⟩
theorem l106 {S : sm_E} {Ls : sm_K} {H : sm_H} {i : Int} {κ : Int → Prop} : wldI S (kk0 ++ Ls) H 106 i κ ↔ (0 ≤ i ∧ i < 5) ∧ κ (H 106 i) := Iff.rfl
theorem s106 {Ls : sm_K} {H : sm_H} {i x : Int} {κ : sm_H → Prop} : wstK 20 (kk0 ++ Ls) H 106 i x κ ↔ (0 ≤ i ∧ i < 5) ∧ κ (sm_u H 106 i x) := Iff.rfl
theorem n107 {S : sm_E} {Ls : sm_K} {κ : Int → Prop} : wlen S (kk0 ++ Ls) 107 κ ↔ κ 5 := ⟨fun h => h.2, fun h => ⟨by decide, h⟩⟩
theorem l107 {S : sm_E} {Ls : sm_K} {H : sm_H} {i : Int} {κ : Int → Prop} : wldI S (kk0 ++ Ls) H 107 i κ ↔ (0 ≤ i ∧ i < 5) ∧ κ (H 107 i) := Iff.rfl
theorem s107 {Ls : sm_K} {H : sm_H} {i x : Int} {κ : sm_H → Prop} : wstK 20 (kk0 ++ Ls) H 107 i x κ ↔ (0 ≤ i ∧ i < 5) ∧ κ (sm_u H 107 i x) := Iff.rfl
theorem n108 {S : sm_E} {Ls : sm_K} {κ : Int → Prop} : wlen S (kk0 ++ Ls) 108 κ ↔ κ 325 := ⟨fun h => h.2, fun h => ⟨by decide, h⟩⟩
theorem l108 {S : sm_E} {Ls : sm_K} {H : sm_H} {i : Int} {κ : Int → Prop} : wldI S (kk0 ++ Ls) H 108 i κ ↔ (0 ≤ i ∧ i < 325) ∧ κ (H 108 i) := Iff.rfl
theorem s108 {Ls : sm_K} {H : sm_H} {i x : Int} {κ : sm_H → Prop} : wstK 20 (kk0 ++ Ls) H 108 i x κ ↔ (0 ≤ i ∧ i < 325) ∧ κ (sm_u H 108 i x) := Iff.rfl
theorem n109 {S : sm_E} {Ls : sm_K} {κ : Int → Prop} : wlen S (kk0 ++ Ls) 109 κ ↔ κ 325 := ⟨fun h => h.2, fun h => ⟨by decide, h⟩⟩
theorem l109 {Ls : sm_K} {H : sm_H} {i : Int} {κ : Int → Prop} : wldK 21 (kk0 ++ Ls) H 109 i κ ↔ (0 ≤ i ∧ i < 325) ∧ κ (H 109 i) := Iff.rfl
theorem s109 {Ls : sm_K} {H : sm_H} {i x : Int} {κ : sm_H → Prop} : wstK 21 (kk0 ++ Ls) H 109 i x κ ↔ (0 ≤ i ∧ i < 325) ∧ κ (sm_u H 109 i x) := Iff.rfl
theorem n110 {S : sm_E} {Ls : sm_K} {κ : Int → Prop} : wlen S (kk0 ++ Ls) 110 κ ↔ κ 8 := ⟨fun h => h.2, fun h => ⟨by decide, h⟩⟩
theorem l110 {Ls : sm_K} {H : sm_H} {i : Int} {κ : Int → Prop} : wldK 21 (kk0 ++ Ls) H 110 i κ ↔ (0 ≤ i ∧ i < 8) ∧ κ (H 110 i) := Iff.rfl
theorem s110 {Ls : sm_K} {H : sm_H} {i x : Int} {κ : sm_H → Prop} : wstK 21 (kk0 ++ Ls) H 110 i x κ ↔ (0 ≤ i ∧ i < 8) ∧ κ (sm_u H 110 i x) := Iff.rfl
theorem n111 {S : sm_E} {Ls : sm_K} {κ : Int → Prop} : wlen S (kk0 ++ Ls) 111 κ ↔ κ 8 := ⟨fun h => h.2, fun h => ⟨by decide, h⟩⟩
theorem l111 {Ls : sm_K} {H : sm_H} {i : Int} {κ : Int → Prop} : wldK 21 (kk0 ++ Ls) H 111 i κ ↔ (0 ≤ i ∧ i < 8) ∧ κ (H 111 i) := Iff.rfl
theorem s111 {Ls : sm_K} {H : sm_H} {i x : Int} {κ : sm_H → Prop} : wstK 21 (kk0 ++ Ls) H 111 i x κ ↔ (0 ≤ i ∧ i < 8) ∧ κ (sm_u H 111 i x) := Iff.rfl
theorem n112 {S : sm_E} {Ls : sm_K} {κ : Int → Prop} : wlen S (kk0 ++ Ls) 112 κ ↔ κ 8 := ⟨fun h => h.2, fun h => ⟨by decide, h⟩⟩
theorem l112 {Ls : sm_K} {H : sm_H} {i : Int} {κ : Int → Prop} : wldK 21 (kk0 ++ Ls) H 112 i κ ↔ (0 ≤ i ∧ i < 8) ∧ κ (H 112 i) := Iff.rfl
theorem s112 {Ls : sm_K} {H : sm_H} {i x : Int} {κ : sm_H → Prop} : wstK 21 (kk0 ++ Ls) H 112 i x κ ↔ (0 ≤ i ∧ i < 8) ∧ κ (sm_u H 112 i x) := Iff.rfl
theorem n113 {S : sm_E} {Ls : sm_K} {κ : Int → Prop} : wlen S (kk0 ++ Ls) 113 κ ↔ κ 5 := ⟨fun h => h.2, fun h => ⟨by decide, h⟩⟩
theorem l113 {S : sm_E} {Ls : sm_K} {H : sm_H} {i : Int} {κ : Int → Prop} : wldI S (kk0 ++ Ls) H 113 i κ ↔ (0 ≤ i ∧ i < 5) ∧ κ (H 113 i) := Iff.rfl
theorem s113 {Ls : sm_K} {H : sm_H} {i x : Int} {κ : sm_H → Prop} : wstK 20 (kk0 ++ Ls) H 113 i x κ ↔ (0 ≤ i ∧ i < 5) ∧ κ (sm_u H 113 i x) := Iff.rfl
