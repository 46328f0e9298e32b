/-! WHAT HOLDS BETWEEN THE CALLS -/
/-- the cows of the herd at b (class) are those of the row r (reference) -/
def HRa (H : sm_H) (b : Nat) (r : Int → Int) : Prop :=
  (H b 0 = r 0 ∧ 0 ≤ r 0 ∧ r 0 ≤ 5) ∧
  (∀ c : Int, 0 ≤ c → c < r 0 → ∀ w : Int, 0 ≤ w → w < 5 → H (b + 1) (c * 5 + w) = r (10 + 16 * c + w) ∧ tr_ok w (r (10 + 16 * c + w))) ∧
  (∀ c : Int, 0 ≤ c → c < r 0 → (H (b + 3) c = r (16 + 16 * c) ∧ H (b + 4) c = r (15 + 16 * c)) ∧ 0 ≤ r (15 + 16 * c) ∧ r (15 + 16 * c) ≤ r (16 + 16 * c) ∧ r (16 + 16 * c) ≤ 9) ∧
  (∀ c : Int, 0 ≤ c → c < r 0 → ∀ k : Int, 0 ≤ k → k < r (16 + 16 * c) → H (b + 2) (c * 9 + k) = r (17 + 16 * c + k) ∧ 0 ≤ r (17 + 16 * c + k) ∧ r (17 + 16 * c + k) < 64)
/-- wind, gaps, guard -/
def HRb (H : sm_H) (b : Nat) (r : Int → Int) : Prop :=
  (H b 5 = r 3 ∧ 0 ≤ r 3 ∧ r 3 ≤ 3) ∧
  (H b 6 = r 4 ∧ 0 ≤ r 4 ∧ r 4 ≤ 5) ∧
  (∀ g : Int, 0 ≤ g → g < r 4 → H (b + 5) g = r (90 + g) ∧ (0 ≤ r (90 + g) ∧ r (90 + g) < 64) ∧ ∀ j : Int, 0 ≤ j → j < g → r (90 + j) ≠ r (90 + g)) ∧
  (H b 8 = r 5 ∧ 0 ≤ r 5 ∧ r 5 < sm_shl 1 (r 4))
/-- tunes, what was heard -/
def HRc (H : sm_H) (b : Nat) (r : Int → Int) : Prop :=
  (∀ w : Int, 0 ≤ w → w < 4 → H (b + 7) w = r (100 + 13 * w) ∧ 0 ≤ r (100 + 13 * w) ∧ r (100 + 13 * w) ≤ 12) ∧
  (H (b + 7) 4 = r 8 ∧ 0 ≤ r 8 ∧ r 8 ≤ 24) ∧
  (∀ w : Int, 0 ≤ w → w < 4 → ∀ i : Int, 0 ≤ i → i < r (100 + 13 * w) → H (b + 6) (w * 24 + i) = r (101 + 13 * w + i) ∧ 0 ≤ r (101 + 13 * w + i) ∧ r (101 + 13 * w + i) ≤ 23) ∧
  (∀ i : Int, 0 ≤ i → i < r 8 → H (b + 6) (96 + i) = r (152 + i) ∧ 0 ≤ r (152 + i) ∧ r (152 + i) ≤ 23)
/-- laws in number, force, order, ears -/
def HRd (H : sm_H) (b : Nat) (r : Int → Int) : Prop :=
  (H b 11 = r 1 ∧ 0 ≤ r 1 ∧ r 1 ≤ 6) ∧
  (H b 13 = r 2 ∧ -1 ≤ r 2 ∧ r 2 < r 1) ∧
  (H b 14 = r 6 ∧ 0 ≤ r 6 ∧ r 6 ≤ 5) ∧
  (∀ i : Int, 0 ≤ i → i < r 6 → H (b + 9) i = r (95 + i) ∧ 0 ≤ r (95 + i) ∧ r (95 + i) < r 0) ∧
  (∀ i j : Int, 0 ≤ i → i < j → j < r 6 → r (95 + i) ≠ r (95 + j)) ∧
  (H b 16 = r 7 ∧ 0 ≤ r 7 ∧ r 7 ≤ 20) ∧
  (∀ i : Int, 0 ≤ i → i < r 7 → (H (b + 10) i = r (176 + 2 * i) ∧ H (b + 11) i = r (177 + 2 * i)) ∧ (0 ≤ r (176 + 2 * i) ∧ r (176 + 2 * i) ≤ 23) ∧ 0 ≤ r (177 + 2 * i) ∧ r (177 + 2 * i) ≤ 9)
/-- the herd of the class at b is the row r of the reference -/
def HR (H : sm_H) (b : Nat) (r : Int → Int) : Prop := HRa H b r ∧ HRb H b r ∧ HRc H b r ∧ HRd H b r
theorem HRa.congr {H H' : sm_H} {b : Nat} {r r' : Int → Int} (h : HRa H b r) (e0 : H' b 0 = H b 0) (e1 : H' (b + 1) = H (b + 1)) (e2 : H' (b + 2) = H (b + 2)) (e3 : H' (b + 3) = H (b + 3)) (e4 : H' (b + 4) = H (b + 4)) (hr : ∀ i, i = 0 ∨ (10 ≤ i ∧ i < 90) → r' i = r i) : HRa H' b r' := by
  obtain ⟨⟨h1, h2, h3⟩, h4, h5, h6⟩ := h
  have r0 : r' 0 = r 0 := hr 0 (Or.inl rfl)
  refine ⟨by rw [e0, r0]; exact ⟨h1, h2, h3⟩, fun c c0 c1 w w0 w1 => ?_, fun c c0 c1 => ?_, fun c c0 c1 k k0 k1 => ?_⟩
  · rw [r0] at c1
    rw [e1, hr _ (by omega)]
    exact h4 c c0 c1 w w0 w1
  · rw [r0] at c1
    rw [e3, e4, hr _ (by omega), hr _ (by omega)]
    exact h5 c c0 c1
  · rw [r0] at c1
    rw [hr _ (by omega)] at k1
    have := h5 c c0 c1
    rw [e2, hr _ (by omega)]
    exact h6 c c0 c1 k k0 k1
theorem HRb.congr {H H' : sm_H} {b : Nat} {r r' : Int → Int} (h : HRb H b r) (e0 : H' b 5 = H b 5) (e1 : H' b 6 = H b 6) (e2 : H' b 8 = H b 8) (e3 : H' (b + 5) = H (b + 5)) (hr : ∀ i, (3 ≤ i ∧ i ≤ 5) ∨ (90 ≤ i ∧ i < 95) → r' i = r i) : HRb H' b r' := by
  obtain ⟨h1, h2, h3, h4⟩ := h
  have r4 : r' 4 = r 4 := hr 4 (by omega)
  refine ⟨by rw [e0, hr 3 (by omega)]; exact h1, by rw [e1, r4]; exact h2, fun g g0 g1 => ?_, by rw [e2, r4, hr 5 (by omega)]; exact h4⟩
  rw [r4] at g1
  rw [e3, hr _ (by omega)]
  refine ⟨(h3 g g0 g1).1, (h3 g g0 g1).2.1, fun j j0 j1 => ?_⟩
  rw [hr _ (by omega)]
  exact (h3 g g0 g1).2.2 j j0 j1
theorem HRc.congr {H H' : sm_H} {b : Nat} {r r' : Int → Int} (h : HRc H b r) (e0 : H' (b + 6) = H (b + 6)) (e1 : H' (b + 7) = H (b + 7)) (hr : ∀ i, i = 8 ∨ (100 ≤ i ∧ i < 176) → r' i = r i) : HRc H' b r' := by
  obtain ⟨h1, h2, h3, h4⟩ := h
  have r8 : r' 8 = r 8 := hr 8 (by omega)
  refine ⟨fun w w0 w1 => ?_, by rw [e1, r8]; exact h2, fun w w0 w1 i i0 i1 => ?_, fun i i0 i1 => ?_⟩
  · rw [e1, hr _ (by omega)]
    exact h1 w w0 w1
  · have := h1 w w0 w1
    rw [hr _ (by omega)] at i1
    rw [e0, hr _ (by omega)]
    exact h3 w w0 w1 i i0 i1
  · rw [r8] at i1
    rw [e0, hr _ (by omega)]
    exact h4 i i0 i1
theorem HRd.congr {H H' : sm_H} {b : Nat} {r r' : Int → Int} (h : HRd H b r) (e0 : H' b 11 = H b 11) (e1 : H' b 13 = H b 13) (e2 : H' b 14 = H b 14) (e3 : H' b 16 = H b 16) (e4 : H' (b + 9) = H (b + 9)) (e5 : H' (b + 10) = H (b + 10)) (e6 : H' (b + 11) = H (b + 11)) (h0 : r 0 ≤ r' 0) (hr : ∀ i, i = 1 ∨ i = 2 ∨ i = 6 ∨ i = 7 ∨ (95 ≤ i ∧ i < 100) ∨ (176 ≤ i ∧ i < 216) → r' i = r i) : HRd H' b r' := by
  obtain ⟨h1, h2, h3, h4, h5, h6, h7⟩ := h
  have r1 : r' 1 = r 1 := hr 1 (by omega)
  have r6 : r' 6 = r 6 := hr 6 (by omega)
  have r7 : r' 7 = r 7 := hr 7 (by omega)
  refine ⟨by rw [e0, r1]; exact h1, by rw [e1, r1, hr 2 (by omega)]; exact h2, by rw [e2, r6]; exact h3, fun i i0 i1 => ?_, fun i j i0 ij j1 => ?_, by rw [e3, r7]; exact h6, fun i i0 i1 => ?_⟩
  · rw [r6] at i1
    rw [e4, hr _ (by omega)]
    have := h4 i i0 i1
    omega
  · rw [r6] at j1
    rw [hr _ (by omega), hr _ (by omega)]
    exact h5 i j i0 ij j1
  · rw [r7] at i1
    rw [e5, e6, hr _ (by omega), hr _ (by omega)]
    exact h7 i i0 i1
/-- tape, faults, counts, fog: what no image keeps -/
def SR (H : sm_H) : Prop :=
  (H 32 3 = H 80 10 ∧ 0 ≤ H 80 10 ∧ H 80 10 ≤ 400) ∧
  (∀ i : Int, 0 ≤ i → i < H 80 10 → H 46 i = H 86 i ∧ 0 ≤ H 86 i ∧ H 86 i ≤ 255) ∧
  H 32 15 = H 80 6 ∧ H 47 0 = H 80 15 ∧ H 32 17 = H 80 1 ∧
  (∀ k : Int, 1 ≤ k → k ≤ 6 → H 79 (k - 1) = H 81 k) ∧
  ((H 80 61 = -1 ∧ H 32 14 = 0) ∨ (H 32 14 = H 80 61 ∧ 0 ≤ H 80 61 ∧ H 80 61 ≤ 5)) ∧
  (∀ c : Int, 0 ≤ c → c < H 32 14 → H 78 c = H 113 c) ∧
  (H 80 39 = 0 ∨ H 80 39 = 1)
theorem SR.congr {H H' : sm_H} (h : SR H) (e1 : H' 32 3 = H 32 3) (e2 : H' 80 10 = H 80 10) (e3 : H' 46 = H 46) (e4 : H' 86 = H 86) (e5 : H' 32 15 = H 32 15) (e6 : H' 80 6 = H 80 6) (e7 : H' 47 0 = H 47 0) (e8 : H' 80 15 = H 80 15) (e9 : H' 32 17 = H' 80 1) (e10 : ∀ k : Int, 1 ≤ k → k ≤ 6 → H' 79 (k - 1) = H' 81 k) (e11 : H' 80 61 = H 80 61) (e12 : H' 32 14 = H 32 14) (e13 : H' 78 = H 78) (e14 : H' 113 = H 113) (e15 : H' 80 39 = 0 ∨ H' 80 39 = 1) : SR H' := by
  obtain ⟨h1, h2, h3, h4, h5, h6, h7, h8, -⟩ := h
  unfold SR
  rw [e1, e2, e3, e4, e5, e6, e7, e8, e11, e12, e13, e14]
  exact ⟨h1, h2, h3, h4, e9, e10, h7, h8, e15⟩
/-- what a simple call leaves: laws, images, the reference's constants; the two caches, unless they are told to be stale -/
def Fr (H H' : sm_H) : Prop :=
  (∀ a : Nat, a = 41 ∨ a = 45 ∨ (60 ≤ a ∧ a ≤ 65) ∨ (83 ≤ a ∧ a ≤ 84) ∨ (92 ≤ a ∧ a ≤ 93) ∨ (98 ≤ a ∧ a ≤ 104) ∨ 114 ≤ a → H' a = H a) ∧
  (H' 33 11 = H 33 11 ∧ H' 82 1 = H 82 1 ∧ ∀ i : Int, 220 ≤ i → H' 82 i = H 82 i) ∧
  (∀ k : Int, k ≠ 0 → H' 59 k = H 59 k) ∧ (∀ k : Int, k = 47 ∨ k = 48 → H' 80 k = H 80 k) ∧
  (H' 59 0 = 1 ∨ (H' 59 0 = H 59 0 ∧ ∀ i : Int, i ≠ 7 → H' 82 i = H 82 i)) ∧
  (H' 80 39 = 0 ∨ (H' 80 39 = H 80 39 ∧ ∀ i : Int, i ≠ 7 → H' 82 i = H 82 i))
/-- class, then reference: the same answer, and P behind it -/
def Sim (S : sm_E) (d : Nat) (Ls : sm_K) (H : sm_H) (cm rm : Nat) (vs : List sm_V) (P : sm_H → Prop) : Prop :=
  Ru S d cm (.inr (.inr 32) :: vs) (kk0 ++ Ls) H (fun o => ∃ (H1 : sm_H) (a : Int), o = (kk0 ++ Ls, (H1, some (.inl a))) ∧ Ru S d rm (.inr (.inr 80) :: vs) (kk0 ++ Ls) H1 (fun o2 => ∃ H2 : sm_H, o2 = (kk0 ++ Ls, (H2, some (.inl a))) ∧ P H2))
def Good (H H2 : sm_H) : Prop := SR H2 ∧ HR H2 33 (H2 82) ∧ Fr H H2
