/-! WHAT HOLDS BETWEEN THE CALLS -/
/-- the herd of the class at b is the row r of the reference -/
def HR (H : sm_H) (b : Nat) (r : Int → Int) : Prop :=
  (H b 0 = r 0 ∧ 0 ≤ r 0 ∧ r 0 ≤ 5) ∧
  (∀ c : Int, 0 ≤ c → c < r 0 → ∀ w : Int, 0 ≤ w → w < 5 → H (b + 1) (c * 5 + w) = r (10 + 16 * c + w)) ∧
  (∀ c : Int, 0 ≤ c → c < r 0 → (0 ≤ r (10 + 16 * c) ∧ r (10 + 16 * c) ≤ 23) ∧ (r (11 + 16 * c) = 0 ∨ r (11 + 16 * c) = 1) ∧ (1 ≤ r (12 + 16 * c) ∧ r (12 + 16 * c) ≤ 3) ∧ (0 ≤ r (13 + 16 * c) ∧ r (13 + 16 * c) ≤ 9) ∧ (0 ≤ r (14 + 16 * c) ∧ r (14 + 16 * c) ≤ 30)) ∧
  (∀ c : Int, 0 ≤ c → c < r 0 → (H (b + 3) c = r (16 + 16 * c) ∧ H (b + 4) c = r (15 + 16 * c)) ∧ 0 ≤ r (15 + 16 * c) ∧ r (15 + 16 * c) ≤ r (16 + 16 * c) ∧ r (16 + 16 * c) ≤ 9) ∧
  (∀ c : Int, 0 ≤ c → c < r 0 → ∀ k : Int, 0 ≤ k → k < r (16 + 16 * c) → H (b + 2) (c * 9 + k) = r (17 + 16 * c + k) ∧ 0 ≤ r (17 + 16 * c + k) ∧ r (17 + 16 * c + k) < 64) ∧
  (H b 5 = r 3 ∧ 0 ≤ r 3 ∧ r 3 ≤ 3) ∧
  (H b 6 = r 4 ∧ 0 ≤ r 4 ∧ r 4 ≤ 5) ∧
  (∀ g : Int, 0 ≤ g → g < r 4 → H (b + 5) g = r (90 + g) ∧ 0 ≤ r (90 + g) ∧ r (90 + g) < 64) ∧
  (H b 8 = r 5 ∧ 0 ≤ r 5 ∧ r 5 < 2 ^ (r 4).toNat) ∧
  (∀ w : Int, 0 ≤ w → w < 4 → H (b + 7) w = r (100 + 13 * w) ∧ 0 ≤ r (100 + 13 * w) ∧ r (100 + 13 * w) ≤ 12) ∧
  (H (b + 7) 4 = r 8 ∧ 0 ≤ r 8 ∧ r 8 ≤ 24) ∧
  (∀ w : Int, 0 ≤ w → w < 4 → ∀ i : Int, 0 ≤ i → i < r (100 + 13 * w) → H (b + 6) (w * 24 + i) = r (101 + 13 * w + i) ∧ 0 ≤ r (101 + 13 * w + i) ∧ r (101 + 13 * w + i) ≤ 23) ∧
  (∀ i : Int, 0 ≤ i → i < r 8 → H (b + 6) (96 + i) = r (152 + i) ∧ 0 ≤ r (152 + i) ∧ r (152 + i) ≤ 23) ∧
  (H b 11 = r 1 ∧ 0 ≤ r 1 ∧ r 1 ≤ 6) ∧
  (H b 13 = r 2 ∧ -1 ≤ r 2 ∧ r 2 < r 1) ∧
  (H b 14 = r 6 ∧ 0 ≤ r 6 ∧ r 6 ≤ 5) ∧
  (∀ i : Int, 0 ≤ i → i < r 6 → H (b + 9) i = r (95 + i) ∧ 0 ≤ r (95 + i) ∧ r (95 + i) < r 0) ∧
  (∀ i j : Int, 0 ≤ i → i < j → j < r 6 → r (95 + i) ≠ r (95 + j)) ∧
  (H b 16 = r 7 ∧ 0 ≤ r 7 ∧ r 7 ≤ 20) ∧
  (∀ i : Int, 0 ≤ i → i < r 7 → (H (b + 10) i = r (176 + 2 * i) ∧ H (b + 11) i = r (177 + 2 * i)) ∧ (0 ≤ r (176 + 2 * i) ∧ r (176 + 2 * i) ≤ 23) ∧ 0 ≤ r (177 + 2 * i) ∧ r (177 + 2 * i) ≤ 9)
theorem HR.congr {H H' : sm_H} {b : Nat} {r r' : Int → Int} (h : HR H b r) (h1 : ∀ k, k < 12 → H' (b + k) = H (b + k)) (h2 : r' = r) : HR H' b r' := by
  subst h2
  have e0 : H' b = H b := h1 0 (by omega)
  unfold HR at h ⊢
  rw [e0, h1 1 (by omega), h1 2 (by omega), h1 3 (by omega), h1 4 (by omega), h1 5 (by omega), h1 6 (by omega), h1 7 (by omega), h1 9 (by omega), h1 10 (by omega), h1 11 (by omega)]
  exact h
/-- tape, faults, counts, fog: what no image keeps -/
def SR (H : sm_H) : Prop :=
  (H 32 3 = H 80 10 ∧ 0 ≤ H 80 10 ∧ H 80 10 ≤ 400) ∧
  (∀ i : Int, 0 ≤ i → i < H 80 10 → H 46 i = H 86 i ∧ 0 ≤ H 86 i ∧ H 86 i ≤ 255) ∧
  H 32 15 = H 80 6 ∧ H 47 0 = H 80 15 ∧ H 32 17 = H 80 1 ∧
  (∀ k : Int, 1 ≤ k → k ≤ 6 → H 79 (k - 1) = H 81 k) ∧
  ((H 80 61 = -1 ∧ H 32 14 = 0) ∨ (H 32 14 = H 80 61 ∧ 0 ≤ H 80 61 ∧ H 80 61 ≤ 5)) ∧
  (∀ c : Int, 0 ≤ c → c < H 32 14 → H 78 c = H 113 c)
/-- the cells that SR looks at, but for 32, 80, 81, 79 -/
theorem SR.congr {H H' : sm_H} (h : SR H) (e1 : H' 32 3 = H 32 3) (e2 : H' 80 10 = H 80 10) (e3 : H' 46 = H 46) (e4 : H' 86 = H 86) (e5 : H' 32 15 = H 32 15) (e6 : H' 80 6 = H 80 6) (e7 : H' 47 0 = H 47 0) (e8 : H' 80 15 = H 80 15) (e9 : H' 32 17 = H' 80 1) (e10 : ∀ k : Int, 1 ≤ k → k ≤ 6 → H' 79 (k - 1) = H' 81 k) (e11 : H' 80 61 = H 80 61) (e12 : H' 32 14 = H 32 14) (e13 : H' 78 = H 78) (e14 : H' 113 = H 113) : SR H' := by
  obtain ⟨h1, h2, h3, h4, h5, h6, h7, h8⟩ := h
  unfold SR
  rw [e1, e2, e3, e4, e5, e6, e7, e8, e11, e12, e13, e14]
  exact ⟨h1, h2, h3, h4, e9, e10, h7, h8⟩
