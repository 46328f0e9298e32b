/-! dogs: sets of gaps as bits -/
def tb (x i : Int) : Prop := sm_and (sm_ushr x i) 1 ≠ 0
theorem tb_bit {x : Int} {i : Nat} (hi : i < 32) : tb x i ↔ (Int32.ofInt x).toBitVec.getLsbD i = true := by
  unfold tb sm_and sm_ushr
  rw [Int32.ofInt_toInt]
  have h1 : (((Int32.ofInt x).toUInt32 >>> ((Int32.ofInt (i : Int)).toUInt32 &&& Int32.toUInt32 31)).toInt32 &&& Int32.ofInt 1).toInt = ((((Int32.ofInt x).toBitVec >>> i) &&& 1#32)).toInt := by
    rw [← Int32.toInt_toBitVec, Int32.toBitVec_and]
    congr 1
    have e1 : (Int32.ofInt 1).toBitVec = 1#32 := rfl
    rw [e1]
    congr 1
    show (((Int32.ofInt x).toUInt32 >>> ((Int32.ofInt (i : Int)).toUInt32 &&& Int32.toUInt32 31))).toBitVec = _
    rw [UInt32.toBitVec_shiftRight]
    have e2 : ((Int32.ofInt (i : Int)).toUInt32 &&& Int32.toUInt32 31).toBitVec = BitVec.ofNat 32 i := by
      rcases (by omega : i = 0 ∨ i = 1 ∨ i = 2 ∨ i = 3 ∨ i = 4 ∨ i = 5 ∨ i = 6 ∨ i = 7 ∨ i = 8 ∨ i = 9 ∨ i = 10 ∨ i = 11 ∨ i = 12 ∨ i = 13 ∨ i = 14 ∨ i = 15 ∨ i = 16 ∨ i = 17 ∨ i = 18 ∨ i = 19 ∨ i = 20 ∨ i = 21 ∨ i = 22 ∨ i = 23 ∨ i = 24 ∨ i = 25 ∨ i = 26 ∨ i = 27 ∨ i = 28 ∨ i = 29 ∨ i = 30 ∨ i = 31) with rfl | rfl | rfl | rfl | rfl | rfl | rfl | rfl | rfl | rfl | rfl | rfl | rfl | rfl | rfl | rfl | rfl | rfl | rfl | rfl | rfl | rfl | rfl | rfl | rfl | rfl | rfl | rfl | rfl | rfl | rfl | rfl <;> decide +kernel
    rw [e2]
    show (Int32.ofInt x).toBitVec >>> (BitVec.ofNat 32 i % 32#32) = _
    have e3 : BitVec.ofNat 32 i % 32#32 = BitVec.ofNat 32 i := by
      apply BitVec.eq_of_toNat_eq
      simp only [BitVec.toNat_umod, BitVec.toNat_ofNat]
      rw [Nat.mod_eq_of_lt (show i < 2 ^ 32 by omega), show 32 % 2 ^ 32 = 32 from rfl, Nat.mod_eq_of_lt hi]
    rw [e3]
    show (Int32.ofInt x).toBitVec >>> (BitVec.ofNat 32 i).toNat = _
    congr 1
    simp only [BitVec.toNat_ofNat]
    exact Nat.mod_eq_of_lt (show i < 2 ^ 32 by omega)
  rw [h1, BitVec.and_one_eq_setWidth_ofBool_getLsbD, BitVec.getLsbD_ushiftRight, Nat.add_zero]
  cases (Int32.ofInt x).toBitVec.getLsbD i
  · decide
  · decide
theorem tb_or {x y : Int} {i : Nat} (hi : i < 32) : tb (sm_or x y) i ↔ tb x i ∨ tb y i := by
  rw [tb_bit hi, tb_bit hi, tb_bit hi]
  unfold sm_or
  rw [Int32.ofInt_toInt, Int32.toBitVec_or, BitVec.getLsbD_or, Bool.or_eq_true]
theorem tb_and {x y : Int} {i : Nat} (hi : i < 32) : tb (sm_and x y) i ↔ tb x i ∧ tb y i := by
  rw [tb_bit hi, tb_bit hi, tb_bit hi]
  unfold sm_and
  rw [Int32.ofInt_toInt, Int32.toBitVec_and, BitVec.getLsbD_and, Bool.and_eq_true]
theorem tb_fin : ∀ i : Fin 32, (sm_and (sm_ushr (-1) (i.val : Int)) 1 ≠ 0) ∧ sm_and (sm_ushr 0 (i.val : Int)) 1 = 0 := by decide +kernel
theorem sws_fin : ∀ (g i : Fin 32), (sm_and (sm_ushr (sws (g.val : Int)) (i.val : Int)) 1 ≠ 0) ↔ sm_and (g.val : Int) (sm_xor (i.val : Int) (-1)) = 0 := by decide +kernel
theorem tb_all {i : Nat} (hi : i < 32) : tb (-1) i := (tb_fin ⟨i, hi⟩).1
theorem tb_none {i : Nat} (hi : i < 32) : ¬ tb 0 i := fun h => h (tb_fin ⟨i, hi⟩).2
theorem tb_sws {g : Int} {i : Nat} (hg : mok g) (hi : i < 32) : tb (sws g) i ↔ sm_and g (sm_xor (i : Int) (-1)) = 0 := by
  obtain ⟨x, rfl⟩ := Int.eq_ofNat_of_zero_le hg.1
  have := hg.2
  exact sws_fin ⟨x, by omega⟩ ⟨i, hi⟩
/-- with a set guarded a goal can be come to -/
def rch (r : Int → Int) (tw : Int → (Int → Int) → Option Int) (set s : Int) : Prop := ∃ j, 0 < pn (Eg r tw set) (r 0).toNat (gol r) j s
section DOGS
variable {r : Int → Int} {tw : Int → (Int → Int) → Option Int} {H0 : sm_H}
theorem Eg_of {set s c : Int} : Eg r tw set s c = if Ea r tw s c = -1 ∨ ung r (st r (Ea r tw s c)) set ≠ 0 then -1 else Ea r tw s c := by
  unfold Eg Ea
  by_cases h1 : nxt r tw s c = -1 ∨ nxt r tw s c = s
  · rw [if_pos (h1.elim Or.inl (fun q => Or.inr (Or.inl q))), if_pos h1, if_pos (Or.inl rfl)]
  · rw [if_neg h1]
    by_cases h2 : ung r (st r (nxt r tw s c)) set ≠ 0
    · rw [if_pos (Or.inr (Or.inr h2)), if_pos (Or.inr h2)]
    · rw [if_neg (fun q => q.elim (fun q => h1 (Or.inl q)) (fun q => q.elim (fun q => h1 (Or.inr q)) h2)), if_neg (fun q => q.elim (fun q => h1 (Or.inl q)) h2)]
theorem rch_iff {set s : Int} : rch r tw set s ↔ gol r s = true ∨ ∃ c : Nat, c < (r 0).toNat ∧ Ea r tw s c ≠ -1 ∧ ung r (st r (Ea r tw s c)) set = 0 ∧ rch r tw set (Ea r tw s c) := by
  constructor
  · rintro ⟨j, hj⟩
    cases j with
    | zero =>
      obtain ⟨t, t1, t2⟩ := pn_pos.mp hj
      simp only [wlk, List.mem_singleton] at t1
      exact Or.inl (by rw [← t1]; exact t2)
    | succ j =>
      obtain ⟨t, t1, t2⟩ := pn_pos.mp hj
      simp only [wlk, List.mem_flatMap] at t1
      obtain ⟨u, u1, u2⟩ := t1
      obtain ⟨c, c1, c2, c3⟩ := (scn_mem _).mp u1
      rw [Eg_of] at c2
      split at c2
      · exact absurd c2.symm c3
      · rename_i hn
        refine Or.inr ⟨c, c1, fun q => hn (Or.inl q), Classical.byContradiction (fun q => hn (Or.inr q)), j, ?_⟩
        rw [c2]
        exact pn_pos.mpr ⟨t, u2, t2⟩
  · rintro (h | ⟨c, c1, c2, c3, j, hj⟩)
    · exact ⟨0, pn_pos.mpr ⟨s, by simp [wlk], h⟩⟩
    · obtain ⟨t, t1, t2⟩ := pn_pos.mp hj
      refine ⟨j + 1, pn_pos.mpr ⟨t, ?_, t2⟩⟩
      show t ∈ (scn _ s _).flatMap _
      refine List.mem_flatMap.mpr ⟨Ea r tw s c, (scn_mem _).mpr ⟨c, c1, ?_, c2⟩, t1⟩
      rw [Eg_of, if_neg (fun q => q.elim c2 (fun q => q c3))]
/-- the values with any gaps guarded -/
def VP1 (r : Int → Int) (tw : Int → (Int → Int) → Option Int) (s : Int) (k : Nat) (z : Int × Int) : Prop := 1 ≤ z.1 ∧ ∀ i : Nat, i < 32 → (tb z.2 i ↔ gol r s = true ∨ ∃ c : Nat, c < k ∧ Ea r tw s c ≠ -1 ∧ ung r (st r (Ea r tw s c)) i = 0 ∧ rch r tw i (Ea r tw s c))
theorem VP1_ok (hH : HR H0 33 (H0 82)) : VPok (H0 82) tw 1 (VP1 (H0 82) tw) := by
  have hEm : ∀ s c, Em (H0 82) tw 1 s c = Ea (H0 82) tw s c := fun s c => by unfold Em; rw [if_neg (by omega)]
  refine ⟨fun s s0 s1 => ?_, fun s k z hk hE hV => ?_, fun s k z v s0 s1 hk hE hV hC => ?_, fun s k z hV => ⟨hV.1, fun h => by omega⟩⟩
  · unfold VP1 inm
    by_cases h : gol (H0 82) s = true
    · rw [if_pos h]
      refine ⟨by simp, fun i hi => ?_⟩
      simp only [if_neg (show ¬ (1 : Int) = 0 by omega)]
      exact ⟨fun _ => Or.inl h, fun _ => tb_all hi⟩
    · rw [if_neg h]
      refine ⟨by simp, fun i hi => ⟨fun q => absurd q (tb_none hi), fun q => q.elim (fun q => absurd q h) (fun ⟨c, hc, _⟩ => by omega)⟩⟩
  · rw [hEm] at hE
    refine ⟨hV.1, fun i hi => ?_⟩
    rw [hV.2 i hi]
    constructor
    · rintro (q | ⟨c, c1, c2⟩)
      · exact Or.inl q
      · exact Or.inr ⟨c, by omega, c2⟩
    · rintro (q | ⟨c, c1, c2, c3⟩)
      · exact Or.inl q
      · by_cases hck : c = k
        · subst hck; exact absurd hE c2
        · exact Or.inr ⟨c, by omega, c2, c3⟩
  · rw [hEm] at hE hC ⊢
    have hl : lrm 1 z v (gpm (H0 82) 1 (Ea (H0 82) tw s k)) = (z.1, sm_or z.2 (sm_and v.2 (sws (gso (H0 82) (st (H0 82) (Ea (H0 82) tw s k)))))) := by
      unfold lrm gpm
      rw [if_neg (by omega), if_neg (by omega)]
    rw [hl]
    have hg := (gso_bits (w := st (H0 82) (Ea (H0 82) tw s k)) hH).1
    refine ⟨hV.1, fun i hi => ?_⟩
    simp only
    rw [tb_or hi, tb_and hi, tb_sws hg hi, hV.2 i hi, hC.2 i hi, ← rch_iff]
    have hu : sm_and (gso (H0 82) (st (H0 82) (Ea (H0 82) tw s k))) (sm_xor (i : Int) (-1)) = ung (H0 82) (st (H0 82) (Ea (H0 82) tw s k)) i := rfl
    rw [hu]
    constructor
    · rintro ((q | ⟨c, c1, c2⟩) | ⟨q1, q2⟩)
      · exact Or.inl q
      · exact Or.inr ⟨c, by omega, c2⟩
      · exact Or.inr ⟨k, by omega, hE, q2, q1⟩
    · rintro (q | ⟨c, c1, c2, c3, c4⟩)
      · exact Or.inl (Or.inl q)
      · by_cases hck : c = k
        · subst hck; exact Or.inr ⟨c4, c3⟩
        · exact Or.inl (Or.inr ⟨c, by omega, c2, c3, c4⟩)
/-- the best set: the fewest, then the lowest -/
def bset (P : Int → Prop) (M v : Int) : Prop := (v = -1 ∧ ∀ u : Int, 0 ≤ u → u < M → ¬ P u) ∨ ((0 ≤ v ∧ v < M) ∧ P v ∧ ∀ u : Int, 0 ≤ u → u < M → P u → mn v < mn u ∨ (mn v = mn u ∧ v ≤ u))
theorem bset_u {P : Int → Prop} {M v w : Int} (h1 : bset P M v) (h2 : bset P M w) : v = w := by
  rcases h1 with ⟨a1, a2⟩ | ⟨a1, a2, a3⟩
  · rcases h2 with ⟨b1, -⟩ | ⟨b1, b2, b3⟩
    · omega
    · exact absurd b2 (a2 w b1.1 b1.2)
  · rcases h2 with ⟨b1, b2⟩ | ⟨b1, b2, b3⟩
    · exact absurd a2 (b2 v a1.1 a1.2)
    · have := a3 w b1.1 b1.2 b2
      have := b3 v a1.1 a1.2 a2
      omega
end DOGS
