/-! long numbers in limbs -/
/-- the number that k limbs from i on are -/
def nv (B : Int) (f : Int → Int) : Nat → Int → Int
  | 0, _ => 0
  | k + 1, i => f i + B * nv B f k (i + 1)
def pw (B : Int) : Nat → Int
  | 0 => 1
  | k + 1 => B * pw B k
def dgs (B : Int) (f : Int → Int) (k : Nat) (i : Int) : Prop := ∀ j : Int, i ≤ j → j < i + k → 0 ≤ f j ∧ f j < B
theorem nv_congr {B : Int} {f g : Int → Int} : ∀ (k : Nat) (i : Int), (∀ j : Int, i ≤ j → j < i + k → f j = g j) → nv B f k i = nv B g k i
  | 0, _, _ => rfl
  | k + 1, i, h => by
    unfold nv
    rw [h i (by omega) (by omega), nv_congr k (i + 1) (fun j h1 h2 => h j (by omega) (by omega))]
theorem dgs.tail {B : Int} {f : Int → Int} {k : Nat} {i : Int} (h : dgs B f (k + 1) i) : dgs B f k (i + 1) := fun j h1 h2 => h j (by omega) (by omega)
theorem dgs.congr {B : Int} {f g : Int → Int} {k : Nat} {i : Int} (h : dgs B f k i) (e : ∀ j : Int, i ≤ j → j < i + k → g j = f j) : dgs B g k i := fun j h1 h2 => by rw [e j h1 h2]; exact h j h1 h2
theorem pw_pos {B : Int} (hB : 0 < B) : ∀ k : Nat, 0 < pw B k
  | 0 => by show (0 : Int) < 1; omega
  | k + 1 => Int.mul_pos hB (pw_pos hB k)
theorem nv_b {B : Int} {f : Int → Int} (hB : 0 < B) : ∀ (k : Nat) (i : Int), dgs B f k i → 0 ≤ nv B f k i ∧ nv B f k i < pw B k
  | 0, _, _ => by simp [nv, pw]
  | k + 1, i, h => by
    have ih := nv_b hB k (i + 1) h.tail
    have hi := h i (by omega) (by omega)
    show 0 ≤ f i + B * nv B f k (i + 1) ∧ f i + B * nv B f k (i + 1) < B * pw B k
    have h1 : 0 ≤ B * nv B f k (i + 1) := Int.mul_nonneg (by omega) ih.1
    have h2 : B * nv B f k (i + 1) ≤ B * (pw B k - 1) := Int.mul_le_mul_of_nonneg_left (by omega) (by omega)
    rw [Int.mul_sub, Int.mul_one] at h2
    omega
theorem nv_snoc {B : Int} {f : Int → Int} : ∀ (k : Nat) (i : Int), nv B f (k + 1) i = nv B f k i + pw B k * f (i + k)
  | 0, i => by simp [nv, pw]
  | k + 1, i => by
    show f i + B * nv B f (k + 1) (i + 1) = f i + B * nv B f k (i + 1) + B * pw B k * f (i + ((k + 1 : Nat) : Int))
    rw [nv_snoc k (i + 1), Int.mul_add, show i + 1 + (k : Int) = i + ((k + 1 : Nat) : Int) by omega, Int.mul_assoc]
    omega
theorem nv_zero {B : Int} {f : Int → Int} (hB : 0 < B) : ∀ (k : Nat) (i : Int), dgs B f k i → (nv B f k i = 0 ↔ ∀ j : Int, i ≤ j → j < i + k → f j = 0)
  | 0, i, _ => ⟨fun _ j h1 h2 => by omega, fun _ => rfl⟩
  | k + 1, i, h => by
    have ih := nv_zero hB k (i + 1) h.tail
    have hb := nv_b hB k (i + 1) h.tail
    have hi := h i (by omega) (by omega)
    have h1 : 0 ≤ B * nv B f k (i + 1) := Int.mul_nonneg (by omega) hb.1
    show f i + B * nv B f k (i + 1) = 0 ↔ _
    constructor
    · intro hz j j1 j2
      have h2 : B * nv B f k (i + 1) = 0 := by omega
      have h3 : nv B f k (i + 1) = 0 := by
        rcases Int.mul_eq_zero.mp h2 with h3 | h3
        · omega
        · exact h3
      by_cases hj : j = i
      · subst hj; omega
      · exact ih.mp h3 j (by omega) (by omega)
    · intro hz
      rw [hz i (by omega) (by omega), ih.mpr (fun j j1 j2 => hz j (by omega) (by omega))]
      omega
theorem pw_mono {B : Int} (hB : 1 ≤ B) {m : Nat} : ∀ (k : Nat), pw B m ≤ pw B (m + k)
  | 0 => Int.le_refl _
  | k + 1 => by
    have ih := pw_mono hB (m := m) k
    have hp := pw_pos (B := B) (by omega) (m + k)
    show pw B m ≤ B * pw B (m + k)
    have : 1 * pw B (m + k) ≤ B * pw B (m + k) := Int.mul_le_mul_of_nonneg_right hB (by omega)
    omega
/-- the higher limb decides -/
theorem nv_cmp {B : Int} {f g : Int → Int} (hB : 0 < B) {k : Nat} (hf : dgs B f (k + 1) 0) (hg : dgs B g (k + 1) 0) : (f k = g k → (nv B g (k + 1) 0 ≤ nv B f (k + 1) 0 ↔ nv B g k 0 ≤ nv B f k 0)) ∧ (g k < f k → nv B g (k + 1) 0 < nv B f (k + 1) 0) := by
  have f1 := nv_b hB k 0 (fun j h1 h2 => hf j h1 (by omega))
  have g1 := nv_b hB k 0 (fun j h1 h2 => hg j h1 (by omega))
  have hp := pw_pos hB k
  rw [nv_snoc, nv_snoc, show (0 : Int) + (k : Int) = k by omega]
  refine ⟨fun h => by rw [h]; omega, fun h => ?_⟩
  have : pw B k * (g k + 1) ≤ pw B k * f k := Int.mul_le_mul_of_nonneg_left (by omega) (by omega)
  rw [Int.mul_add, Int.mul_one] at this
  omega
/-- a product of what was heard -/
def c100 (x : Int) : Int := if x < 0 then 0 else if 100 < x then 100 else x
def lov (r : Int → Int) (tw : Int → (Int → Int) → Option Int) (cow l e : Int) : Int := c100 ((tw 2 (kn r cow l (-1) (zs (fun c => r (15 + 16 * c)) 0 (r 0).toNat) (r (177 + 2 * e)))).getD 50)
def prs (r : Int → Int) (tw : Int → (Int → Int) → Option Int) (cow l s e : Int) : Int := if r (176 + 2 * e) = r (10 + 16 * cow) then lov r tw cow l e * s else s
def pv (r : Int → Int) (tw : Int → (Int → Int) → Option Int) (cow l : Int) (e : Nat) : Int := fo (prs r tw cow l) 0 e 1
theorem c100_b {x : Int} : 0 ≤ c100 x ∧ c100 x ≤ 100 := by unfold c100; split <;> (try split) <;> omega
theorem pv_succ {r : Int → Int} {tw : Int → (Int → Int) → Option Int} {cow l : Int} {e : Nat} : pv r tw cow l (e + 1) = prs r tw cow l (pv r tw cow l e) e := by
  unfold pv
  rw [fo_snoc, show (0 : Int) + (e : Int) = e by omega]
theorem pv_b {r : Int → Int} {tw : Int → (Int → Int) → Option Int} {cow l : Int} : ∀ e : Nat, 0 ≤ pv r tw cow l e ∧ pv r tw cow l e ≤ pw 100 e
  | 0 => by simp [pv, fo, pw]
  | e + 1 => by
    have ih := pv_b (r := r) (tw := tw) (cow := cow) (l := l) e
    have hp := pw_pos (B := 100) (by omega) e
    rw [pv_succ]
    show _ ∧ _ ≤ 100 * pw 100 e
    unfold prs
    split
    · have hb := c100_b (x := ((tw 2 (kn r cow l (-1) (zs (fun c => r (15 + 16 * c)) 0 (r 0).toNat) (r (177 + 2 * e)))).getD 50))
      have h1 : 0 ≤ lov r tw cow l e * pv r tw cow l e := Int.mul_nonneg hb.1 ih.1
      have h2 : lov r tw cow l e * pv r tw cow l e ≤ 100 * pw 100 e := Int.mul_le_mul hb.2 ih.2 ih.1 (by omega)
      exact ⟨h1, h2⟩
    · omega
theorem pv_big {r : Int → Int} {tw : Int → (Int → Int) → Option Int} {cow l : Int} {e : Nat} (he : e ≤ 20) : 0 ≤ pv r tw cow l e ∧ pv r tw cow l e ≤ 10000000000000000000000000000000000000000 := by
  have h := pv_b (r := r) (tw := tw) (cow := cow) (l := l) e
  have h2 := pw_mono (B := 100) (by omega) (m := e) (20 - e)
  rw [show e + (20 - e) = 20 by omega] at h2
  have h3 : pw 100 20 = 10000000000000000000000000000000000000000 := by decide +kernel
  omega
/-- all of them, from l on down -/
def pws (r : Int → Int) (tw : Int → (Int → Int) → Option Int) (cow : Int) (e : Nat) : Nat → Int
  | 0 => 0
  | k + 1 => pws r tw cow e k + pv r tw cow k e
theorem pws_b {r : Int → Int} {tw : Int → (Int → Int) → Option Int} {cow : Int} {e : Nat} (he : e ≤ 20) : ∀ k : Nat, 0 ≤ pws r tw cow e k ∧ pws r tw cow e k ≤ k * 10000000000000000000000000000000000000000
  | 0 => by simp [pws]
  | k + 1 => by
    have ih := pws_b (r := r) (tw := tw) (cow := cow) he k
    have h := pv_big (r := r) (tw := tw) (cow := cow) (l := k) he
    unfold pws
    omega
theorem pws_le {r : Int → Int} {tw : Int → (Int → Int) → Option Int} {cow : Int} {e : Nat} (he : e ≤ 20) {l : Nat} : ∀ k : Nat, l < k → pv r tw cow l e ≤ pws r tw cow e k
  | 0, h => by omega
  | k + 1, h => by
    have hk := pv_big (r := r) (tw := tw) (cow := cow) (l := k) he
    have hb := pws_b (r := r) (tw := tw) (cow := cow) he k
    unfold pws
    by_cases hl : l = k
    · subst hl; omega
    · have := pws_le (r := r) (tw := tw) (cow := cow) he (l := l) k (by omega)
      omega
