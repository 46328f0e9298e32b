/-! gaps in which one stands -/
def gsf (r w : Int → Int) (s c : Int) : Int := sm_or s (gbit (fun g => r (90 + g)) (clo r c (w c)) 0 (r 4).toNat)
def gso (r w : Int → Int) : Int := fo (gsf r w) 0 (r 0).toNat 0
def gsr (r w : Int → Int) (g s c : Int) : Int := sm_or s (if clo r c (w c) = r (90 + g) then sm_shl 1 g else 0)
def gsr2 (r w : Int → Int) (s g : Int) : Int := fo (gsr r w g) 0 (r 0).toNat s
/-- those that are not guarded -/
def ung (r w : Int → Int) (g : Int) : Int := sm_and (gso r w) (sm_xor g (-1))
theorem or_fin : ∀ (a b : Fin 32) (g : Fin 5), (0 ≤ sm_or (a.val : Int) (b.val : Int) ∧ sm_or (a.val : Int) (b.val : Int) < 32) ∧ (mb (sm_or (a.val : Int) (b.val : Int)) (g.val : Int) = 1 ↔ mb (a.val : Int) (g.val : Int) = 1 ∨ mb (b.val : Int) (g.val : Int) = 1) := by decide +kernel
theorem shl_fin : ∀ (c g : Fin 5), (0 ≤ sm_shl 1 (c.val : Int) ∧ sm_shl 1 (c.val : Int) < 32) ∧ (mb (sm_shl 1 (c.val : Int)) (g.val : Int) = 1 ↔ g = c) ∧ mb 0 (g.val : Int) = 0 := by decide +kernel
theorem ext_fin : ∀ (a b : Fin 32), (∀ g : Fin 5, mb (a.val : Int) (g.val : Int) = 1 ↔ mb (b.val : Int) (g.val : Int) = 1) → a = b := by decide +kernel
theorem or_ok {a b : Int} (ha : mok a) (hb : mok b) : mok (sm_or a b) := by
  obtain ⟨x, rfl⟩ := Int.eq_ofNat_of_zero_le ha.1
  obtain ⟨y, rfl⟩ := Int.eq_ofNat_of_zero_le hb.1
  have h1 := ha.2
  have h2 := hb.2
  exact (or_fin ⟨x, by omega⟩ ⟨y, by omega⟩ 0).1
theorem or_bit {a b g : Int} (ha : mok a) (hb : mok b) (hg : 0 ≤ g ∧ g < 5) : mb (sm_or a b) g = 1 ↔ mb a g = 1 ∨ mb b g = 1 := by
  obtain ⟨x, rfl⟩ := Int.eq_ofNat_of_zero_le ha.1
  obtain ⟨y, rfl⟩ := Int.eq_ofNat_of_zero_le hb.1
  obtain ⟨z, rfl⟩ := Int.eq_ofNat_of_zero_le hg.1
  have h1 := ha.2
  have h2 := hb.2
  have h3 := hg.2
  exact (or_fin ⟨x, by omega⟩ ⟨y, by omega⟩ ⟨z, by omega⟩).2
theorem shl_ok {c : Int} (hc : 0 ≤ c ∧ c < 5) : mok (sm_shl 1 c) := by
  obtain ⟨x, rfl⟩ := Int.eq_ofNat_of_zero_le hc.1
  have h1 := hc.2
  exact (shl_fin ⟨x, by omega⟩ 0).1
theorem shl_bit {c g : Int} (hc : 0 ≤ c ∧ c < 5) (hg : 0 ≤ g ∧ g < 5) : mb (sm_shl 1 c) g = 1 ↔ g = c := by
  obtain ⟨x, rfl⟩ := Int.eq_ofNat_of_zero_le hc.1
  obtain ⟨z, rfl⟩ := Int.eq_ofNat_of_zero_le hg.1
  have h1 := hc.2
  have h3 := hg.2
  rw [(shl_fin ⟨x, by omega⟩ ⟨z, by omega⟩).2.1, Fin.ext_iff]
  show z = x ↔ _
  omega
theorem zero_bit {g : Int} (hg : 0 ≤ g ∧ g < 5) : mb 0 g = 0 := by
  obtain ⟨z, rfl⟩ := Int.eq_ofNat_of_zero_le hg.1
  have h3 := hg.2
  exact (shl_fin 0 ⟨z, by omega⟩).2.2
theorem bit_ext {a b : Int} (ha : mok a) (hb : mok b) (h : ∀ g : Int, 0 ≤ g → g < 5 → (mb a g = 1 ↔ mb b g = 1)) : a = b := by
  obtain ⟨x, rfl⟩ := Int.eq_ofNat_of_zero_le ha.1
  obtain ⟨y, rfl⟩ := Int.eq_ofNat_of_zero_le hb.1
  have h1 := ha.2
  have h2 := hb.2
  have := ext_fin ⟨x, by omega⟩ ⟨y, by omega⟩ (fun g => h g.val (by omega) (by have := g.isLt; omega))
  rw [Fin.ext_iff] at this
  show (x : Int) = (y : Int)
  exact congrArg _ this
theorem zero_ok : mok 0 := ⟨by omega, by omega⟩
theorem gbit_bit {f : Int → Int} {cell : Int} : ∀ (k : Nat) (c : Int), 0 ≤ c → c + k ≤ 5 → (∀ i j : Int, c ≤ i → i < j → j < c + k → f i ≠ f j) → mok (gbit f cell c k) ∧ ∀ g : Int, 0 ≤ g → g < 5 → (mb (gbit f cell c k) g = 1 ↔ c ≤ g ∧ g < c + k ∧ f g = cell)
  | 0, c, c0, hk, hd => ⟨zero_ok, fun g g0 g1 => by
    show mb 0 g = 1 ↔ _
    rw [zero_bit ⟨g0, g1⟩]
    exact ⟨fun h => by omega, fun h => by omega⟩⟩
  | k + 1, c, c0, hk, hd => by
    unfold gbit
    by_cases h : f c = cell
    · rw [if_pos h]
      refine ⟨shl_ok (by omega), fun g g0 g1 => ?_⟩
      rw [shl_bit (by omega) ⟨g0, g1⟩]
      constructor
      · rintro rfl; exact ⟨by omega, by omega, h⟩
      · rintro ⟨h1, h2, h3⟩
        by_cases hg : g = c
        · exact hg
        · exact absurd (h.trans h3.symm) (hd c g (by omega) (by omega) (by omega))
    · rw [if_neg h]
      have ih := gbit_bit (f := f) (cell := cell) k (c + 1) (by omega) (by omega) (fun i j h1 h2 h3 => hd i j (by omega) h2 (by omega))
      refine ⟨ih.1, fun g g0 g1 => ?_⟩
      rw [ih.2 g g0 g1]
      constructor
      · rintro ⟨h1, h2, h3⟩; exact ⟨by omega, by omega, h3⟩
      · rintro ⟨h1, h2, h3⟩
        by_cases hg : g = c
        · rw [hg] at h3; exact absurd h3 h
        · exact ⟨by omega, by omega, h3⟩
section GAPS
variable {d : Nat} {Ls : sm_K} {H0 G : sm_H} {S : sm_E} {Q : sm_O → Prop} {tw : Int → (Int → Int) → Option Int} {w : Int → Int}
theorem HR.gdist (h : HR H0 33 (H0 82)) : ∀ i j : Int, 0 ≤ i → i < j → j < 0 + ((H0 82 4).toNat : Int) → H0 82 (90 + i) ≠ H0 82 (90 + j) := fun i j i0 ij j1 => by
  have := h.2.1.2.1.2
  exact (h.2.1.2.2.1 j (by omega) (by omega)).2.2 i i0 ij
theorem gso_bits (h : HR H0 33 (H0 82)) : mok (gso (H0 82) w) ∧ ∀ g : Int, 0 ≤ g → g < 5 → (mb (gso (H0 82) w) g = 1 ↔ ∃ c : Int, 0 ≤ c ∧ c < H0 82 0 ∧ g < H0 82 4 ∧ clo (H0 82) c (w c) = H0 82 (90 + g)) := by
  have rn := h.rn
  have r4 := h.2.1.2.1.2
  have key : ∀ g : Int, 0 ≤ g → g < 5 → mok (gso (H0 82) w) ∧ (mb (gso (H0 82) w) g = 1 ↔ mb 0 g = 1 ∨ ∃ c : Int, 0 ≤ c ∧ c < 0 + ((H0 82 0).toNat : Int) ∧ (g < H0 82 4 ∧ clo (H0 82) c (w c) = H0 82 (90 + g))) := fun g g0 g1 => by
    refine fo_exi (P := fun s => mb s g = 1) (I := mok) (A := fun c => g < H0 82 4 ∧ clo (H0 82) c (w c) = H0 82 (90 + g)) _ _ _ zero_ok (fun c c0 c1 s hs => ?_)
    have hb := gbit_bit (f := fun g => H0 82 (90 + g)) (cell := clo (H0 82) c (w c)) (H0 82 4).toNat 0 (by omega) (by omega) h.gdist
    refine ⟨or_ok hs hb.1, ?_⟩
    show mb (sm_or s _) g = 1 ↔ _
    rw [or_bit hs hb.1 ⟨g0, g1⟩, hb.2 g g0 g1]
    constructor
    · rintro (h1 | ⟨h1, h2, h3⟩)
      · exact Or.inl h1
      · exact Or.inr ⟨by omega, h3.symm⟩
    · rintro (h1 | ⟨h1, h2⟩)
      · exact Or.inl h1
      · exact Or.inr ⟨g0, by omega, h2.symm⟩
  refine ⟨(key 0 (by omega) (by omega)).1, fun g g0 g1 => ?_⟩
  rw [(key g g0 g1).2, zero_bit ⟨g0, g1⟩]
  constructor
  · rintro (h1 | ⟨c, h1, h2, h3, h4⟩)
    · omega
    · exact ⟨c, h1, by omega, h3, h4⟩
  · rintro ⟨c, h1, h2, h3, h4⟩
    exact Or.inr ⟨c, h1, by omega, h3, h4⟩
theorem gsr_eq (h : HR H0 33 (H0 82)) : fo (gsr2 (H0 82) w) 0 (H0 82 4).toNat 0 = gso (H0 82) w := by
  have rn := h.rn
  have r4 := h.2.1.2.1.2
  have hin : ∀ g' : Int, 0 ≤ g' → g' < H0 82 4 → ∀ g : Int, 0 ≤ g → g < 5 → ∀ s, mok s → mok (gsr2 (H0 82) w s g') ∧ (mb (gsr2 (H0 82) w s g') g = 1 ↔ mb s g = 1 ∨ ∃ c : Int, 0 ≤ c ∧ c < 0 + ((H0 82 0).toNat : Int) ∧ (g = g' ∧ clo (H0 82) c (w c) = H0 82 (90 + g'))) := fun g' a0 a1 g g0 g1 s hs => by
    refine fo_exi (P := fun s => mb s g = 1) (I := mok) (A := fun c => g = g' ∧ clo (H0 82) c (w c) = H0 82 (90 + g')) _ _ _ hs (fun c c0 c1 s hs => ?_)
    show mok (sm_or s _) ∧ (mb (sm_or s _) g = 1 ↔ _)
    by_cases hc : clo (H0 82) c (w c) = H0 82 (90 + g')
    · rw [if_pos hc]
      refine ⟨or_ok hs (shl_ok (by omega)), ?_⟩
      rw [or_bit hs (shl_ok (by omega)) ⟨g0, g1⟩, shl_bit (by omega) ⟨g0, g1⟩]
      exact ⟨fun q => q.elim Or.inl (fun q => Or.inr ⟨q, hc⟩), fun q => q.elim Or.inl (fun q => Or.inr q.1)⟩
    · rw [if_neg hc]
      refine ⟨or_ok hs zero_ok, ?_⟩
      rw [or_bit hs zero_ok ⟨g0, g1⟩, zero_bit ⟨g0, g1⟩]
      exact ⟨fun q => q.elim Or.inl (fun q => by omega), fun q => q.elim Or.inl (fun q => absurd q.2 hc)⟩
  have key : ∀ g : Int, 0 ≤ g → g < 5 → mok (fo (gsr2 (H0 82) w) 0 (H0 82 4).toNat 0) ∧ (mb (fo (gsr2 (H0 82) w) 0 (H0 82 4).toNat 0) g = 1 ↔ mb 0 g = 1 ∨ ∃ g' : Int, 0 ≤ g' ∧ g' < 0 + ((H0 82 4).toNat : Int) ∧ (∃ c : Int, 0 ≤ c ∧ c < 0 + ((H0 82 0).toNat : Int) ∧ (g = g' ∧ clo (H0 82) c (w c) = H0 82 (90 + g')))) := fun g g0 g1 =>
    fo_exi (P := fun s => mb s g = 1) (I := mok) (A := fun g' => ∃ c : Int, 0 ≤ c ∧ c < 0 + ((H0 82 0).toNat : Int) ∧ (g = g' ∧ clo (H0 82) c (w c) = H0 82 (90 + g'))) _ _ _ zero_ok (fun g' a0 a1 s hs => hin g' a0 (by omega) g g0 g1 s hs)
  have hB := gso_bits (w := w) h
  refine bit_ext (key 0 (by omega) (by omega)).1 hB.1 (fun g g0 g1 => ?_)
  rw [(key g g0 g1).2, hB.2 g g0 g1, zero_bit ⟨g0, g1⟩]
  constructor
  · rintro (h1 | ⟨g', h1, h2, c, h3, h4, h5, h6⟩)
    · omega
    · subst h5; exact ⟨c, h3, by omega, by omega, h6⟩
  · rintro ⟨c, h1, h2, h3, h4⟩
    exact Or.inr ⟨g, g0, by omega, c, h1, by omega, rfl, h4⟩
end GAPS
