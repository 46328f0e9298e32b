/-! stands as numbers -/
def en (r w : Int → Int) : Nat → Int
  | 0 => 0
  | k + 1 => en r w k + w k * sd r k
def st (r : Int → Int) (s : Int) : Int → Int := fun c => s / sd r c.toNat % (r (16 + 16 * c) + 1)
def lsu (w : Int → Int) : Nat → Int
  | 0 => 0
  | k + 1 => lsu w k + w k
def lnk (r : Int → Int) (k : Nat) : Prop := ∀ c : Nat, c < k → 0 ≤ r (16 + 16 * c) ∧ r (16 + 16 * c) ≤ 9
section STAND
variable {r w w' : Int → Int} {tw : Int → (Int → Int) → Option Int}
theorem emod_mul' {a b c : Int} (hb : 0 < b) : a % (b * c) = a % b + b * (a / b % c) := by
  rw [Int.emod_def, Int.emod_def, Int.emod_def, ← Int.ediv_ediv_of_nonneg (Int.le_of_lt hb), Int.mul_sub, Int.mul_assoc]
  omega
theorem en_lt : ∀ (k : Nat), lnk r k → (∀ c : Nat, c < k → 0 ≤ w c ∧ w c ≤ r (16 + 16 * c)) → 0 ≤ en r w k ∧ en r w k < sd r k
  | 0, _, _ => by simp [en, sd]
  | k + 1, hl, hw => by
    have ih := en_lt k (fun c hc => hl c (by omega)) (fun c hc => hw c (by omega))
    have hk := hw k (by omega)
    have hp := (sd_pow k (fun c hc => hl c (by omega))).1
    show 0 ≤ en r w k + w k * sd r k ∧ en r w k + w k * sd r k < sd r k * (r (16 + 16 * k) + 1)
    have h1 : 0 ≤ w k * sd r k := Int.mul_nonneg hk.1 (by omega)
    have h2 : w k * sd r k ≤ r (16 + 16 * k) * sd r k := Int.mul_le_mul_of_nonneg_right hk.2 (by omega)
    rw [Int.mul_add, Int.mul_one, Int.mul_comm (sd r k) (r (16 + 16 * k))]
    omega
theorem en_mod {s : Int} : ∀ (k : Nat), lnk r k → 0 ≤ s → en r (st r s) k = s % sd r k
  | 0, _, _ => by simp [en, sd]
  | k + 1, hl, h0 => by
    have ih := en_mod k (fun c hc => hl c (by omega)) h0
    have hp := (sd_pow k (fun c hc => hl c (by omega))).1
    show en r (st r s) k + st r s k * sd r k = s % (sd r k * (r (16 + 16 * k) + 1))
    rw [ih, emod_mul' (by omega)]
    unfold st
    rw [show ((k : Int)).toNat = k by omega, Int.mul_comm]
theorem en_st {s : Int} {k : Nat} (hl : lnk r k) (h : 0 ≤ s ∧ s < sd r k) : en r (st r s) k = s := by
  rw [en_mod k hl h.1, Int.emod_eq_of_lt h.1 h.2]
theorem sd_dvd {c : Nat} : ∀ (m : Nat), ∃ Y : Int, sd r (c + 1 + m) = sd r c * ((r (16 + 16 * c) + 1) * Y)
  | 0 => ⟨1, by show sd r c * (r (16 + 16 * c) + 1) = _; rw [Int.mul_one]⟩
  | m + 1 => by
    obtain ⟨Y, hY⟩ := sd_dvd (c := c) m
    refine ⟨Y * (r (16 + 16 * ((c + 1 + m : Nat) : Int)) + 1), ?_⟩
    show sd r (c + 1 + m) * (r (16 + 16 * ((c + 1 + m : Nat) : Int)) + 1) = _
    rw [hY]
    simp only [Int.mul_assoc]
theorem en_hi {c : Nat} : ∀ (m : Nat), ∃ X : Int, en r w (c + 1 + m) = en r w c + sd r c * (w c + (r (16 + 16 * c) + 1) * X)
  | 0 => ⟨0, by show en r w c + w c * sd r c = _; rw [Int.mul_zero, Int.add_zero, Int.mul_comm]⟩
  | m + 1 => by
    obtain ⟨X, hX⟩ := en_hi (c := c) m
    obtain ⟨Y, hY⟩ := sd_dvd (r := r) (c := c) m
    refine ⟨X + Y * w ((c + 1 + m : Nat) : Int), ?_⟩
    show en r w (c + 1 + m) + w ((c + 1 + m : Nat) : Int) * sd r (c + 1 + m) = _
    rw [hX, hY, Int.mul_comm (w ((c + 1 + m : Nat) : Int))]
    simp only [Int.mul_add, Int.mul_assoc]
    omega
theorem st_en {k : Nat} (hl : lnk r k) (hw : ∀ c : Nat, c < k → 0 ≤ w c ∧ w c ≤ r (16 + 16 * c)) {c : Nat} (hc : c < k) : st r (en r w k) c = w c := by
  obtain ⟨X, hX⟩ := en_hi (r := r) (w := w) (c := c) (k - (c + 1))
  rw [show c + 1 + (k - (c + 1)) = k by omega] at hX
  have hp := (sd_pow c (fun x hx => hl x (by omega))).1
  have hb := en_lt c (fun x hx => hl x (by omega)) (fun x hx => hw x (by omega))
  have hwc := hw c hc
  unfold st
  rw [show ((c : Int)).toNat = c by omega, hX, Int.add_mul_ediv_left _ _ (by omega), Int.ediv_eq_zero_of_lt hb.1 hb.2, Int.zero_add, Int.add_mul_emod_self_left, Int.emod_eq_of_lt hwc.1 (by omega)]
theorem st_b {s c : Int} (hl : 0 ≤ r (16 + 16 * c)) : 0 ≤ st r s c ∧ st r s c ≤ r (16 + 16 * c) := by
  have h1 := Int.emod_nonneg (s / sd r c.toNat) (show r (16 + 16 * c) + 1 ≠ 0 by omega)
  have h2 := Int.emod_lt_of_pos (s / sd r c.toNat) (show 0 < r (16 + 16 * c) + 1 by omega)
  show 0 ≤ s / sd r c.toNat % (r (16 + 16 * c) + 1) ∧ s / sd r c.toNat % (r (16 + 16 * c) + 1) ≤ _
  omega
/-! a call moves nobody back -/
theorem gst_le {s : (Int → Int) × Int × Int} {c x : Int} : (gst r s c).1 x ≤ s.1 x := by
  show up s.1 c (s.1 c - 1) x ≤ s.1 x
  unfold up
  split
  · rename_i h; subst h; omega
  · exact Int.le_refl _
theorem stps_le {c x : Int} : ∀ (m : Nat) (s : (Int → Int) × Int × Int), (stps r c m s).1 x ≤ s.1 x
  | 0, _ => Int.le_refl _
  | m + 1, s => by
    unfold stps
    split
    · exact Int.le_trans (stps_le m _) gst_le
    · exact Int.le_refl _
theorem fols_le {q x : Int} : ∀ (k : Nat) (o : Int) (s : (Int → Int) × Int × Int), (fo (fol r tw q) o k s).1 x ≤ s.1 x
  | 0, _, _ => Int.le_refl _
  | k + 1, o, s => by
    refine Int.le_trans (fols_le k (o + 1) _) ?_
    unfold fol
    split
    · exact gst_le
    · exact Int.le_refl _
theorem cal_le {c x : Int} : (cal r tw w c).1 x ≤ w x := Int.le_trans (fols_le _ _ _) (stps_le _ _)
theorem stps_wok {c : Int} : ∀ (m : Nat) (s : (Int → Int) × Int × Int), wok r s.1 → wok r (stps r c m s).1
  | 0, _, h => h
  | m + 1, s, h => by
    unfold stps
    split
    · rename_i hc; exact stps_wok m _ (gst_wok h hc.1)
    · exact h
theorem fols_wok {q : Int} : ∀ (k : Nat) (o : Int) (s : (Int → Int) × Int × Int), wok r s.1 → wok r (fo (fol r tw q) o k s).1
  | 0, _, _, h => h
  | k + 1, o, s, h => fols_wok k (o + 1) _ (by
    unfold fol
    split
    · rename_i hc; exact gst_wok h hc.2.1
    · exact h)
theorem cal_wok {c : Int} (h : wok r w) : wok r (cal r tw w c).1 := fols_wok _ _ _ (stps_wok _ _ h)
theorem lsu_le : ∀ (k : Nat), (∀ c : Nat, c < k → w' c ≤ w c) → lsu w' k ≤ lsu w k ∧ (lsu w' k = lsu w k → ∀ c : Nat, c < k → w' c = w c)
  | 0, _ => ⟨Int.le_refl _, fun _ c hc => by omega⟩
  | k + 1, h => by
    have ih := lsu_le k (fun c hc => h c (by omega))
    have hk := h k (by omega)
    show lsu w' k + w' k ≤ lsu w k + w k ∧ (lsu w' k + w' k = lsu w k + w k → _)
    refine ⟨by omega, fun he c hc => ?_⟩
    by_cases hck : c = k
    · subst hck; omega
    · exact ih.2 (by omega) c (by omega)
theorem lsu_b : ∀ (k : Nat), (∀ c : Nat, c < k → 0 ≤ w c ∧ w c ≤ 9) → 0 ≤ lsu w k ∧ lsu w k ≤ 9 * k
  | 0, _ => by simp [lsu]
  | k + 1, h => by
    have ih := lsu_b k (fun c hc => h c (by omega))
    have hk := h k (by omega)
    show 0 ≤ lsu w k + w k ∧ lsu w k + w k ≤ _
    omega
theorem en_congr : ∀ (k : Nat), (∀ c : Nat, c < k → w c = w' c) → en r w k = en r w' k
  | 0, _ => rfl
  | k + 1, h => by
    show en r w k + w k * sd r k = en r w' k + w' k * sd r k
    rw [en_congr k (fun c hc => h c (by omega)), h k (by omega)]
theorem lsu_congr : ∀ (k : Nat), (∀ c : Nat, c < k → w c = w' c) → lsu w k = lsu w' k
  | 0, _ => rfl
  | k + 1, h => by
    show lsu w k + w k = lsu w' k + w' k
    rw [lsu_congr k (fun c hc => h c (by omega)), h k (by omega)]
/-! the graph of stands -/
def nxt (r : Int → Int) (tw : Int → (Int → Int) → Option Int) (s c : Int) : Int := if 0 < st r s c ∧ (cal r tw (st r s) c).2.2 = 0 then en r (cal r tw (st r s) c).1 (r 0).toNat else -1
/-- with the gaps g guarded -/
def Eg (r : Int → Int) (tw : Int → (Int → Int) → Option Int) (g s c : Int) : Int := if nxt r tw s c = -1 ∨ nxt r tw s c = s ∨ ung r (st r (nxt r tw s c)) g ≠ 0 then -1 else nxt r tw s c
/-- with all of them guarded -/
def Ea (r : Int → Int) (tw : Int → (Int → Int) → Option Int) (s c : Int) : Int := if nxt r tw s c = -1 ∨ nxt r tw s c = s then -1 else nxt r tw s c
def gol (r : Int → Int) (s : Int) : Bool := decide (nx r (st r s) = -1)
def lfs (r : Int → Int) (s : Int) : Nat := (lsu (st r s) (r 0).toNat).toNat
theorem st_wok (hl : lnk r (r 0).toNat) {s : Int} : wok r (st r s) := fun c c0 c1 => by
  have := hl c.toNat (by omega)
  rw [show ((c.toNat : Nat) : Int) = c by omega] at this
  exact st_b this.1
theorem wok_nat (h : wok r w) : ∀ c : Nat, c < (r 0).toNat → 0 ≤ w c ∧ w c ≤ r (16 + 16 * c) := fun c hc => h c (by omega) (by omega)
theorem nxt_b (hl : lnk r (r 0).toNat) {s c : Int} : nxt r tw s c = -1 ∨ (0 ≤ nxt r tw s c ∧ nxt r tw s c < sd r (r 0).toNat) := by
  unfold nxt
  split
  · exact Or.inr (en_lt _ hl (wok_nat (cal_wok (st_wok hl))))
  · exact Or.inl rfl
/-- who stands where behind a call -/
theorem st_nxt (hl : lnk r (r 0).toNat) {s c : Int} (h : 0 < st r s c ∧ (cal r tw (st r s) c).2.2 = 0) : ∀ x : Int, 0 ≤ x → x < r 0 → (cal r tw (st r s) c).1 x = st r (nxt r tw s c) x := fun x x0 x1 => by
  have := st_en (r := r) (w := (cal r tw (st r s) c).1) hl (wok_nat (cal_wok (st_wok hl))) (c := x.toNat) (by omega)
  rw [show ((x.toNat : Nat) : Int) = x by omega] at this
  unfold nxt
  rw [if_pos h, this]
theorem nxt_lf {s : Int} (hl : lnk r (r 0).toNat) (hs : 0 ≤ s ∧ s < sd r (r 0).toNat) {c : Int} (h1 : nxt r tw s c ≠ -1) (h2 : nxt r tw s c ≠ s) : lfs r (nxt r tw s c) < lfs r s := by
  have hc : 0 < st r s c ∧ (cal r tw (st r s) c).2.2 = 0 := by
    unfold nxt at h1
    split at h1
    · rename_i h; exact h
    · exact absurd rfl h1
  have hst := st_nxt hl hc
  have hle := lsu_le (w := st r s) (w' := st r (nxt r tw s c)) (r 0).toNat (fun x hx => by rw [← hst x (by omega) (by omega)]; exact cal_le)
  have hb := lsu_b (w := st r (nxt r tw s c)) (r 0).toNat (fun x hx => by
    have := wok_nat (st_wok hl (s := nxt r tw s c)) x hx
    have := hl x hx
    omega)
  unfold lfs
  rcases Int.lt_or_eq_of_le hle.1 with h | h
  · omega
  · exfalso
    apply h2
    have he := hle.2 h
    have e1 := en_st hl hs
    have e2 : nxt r tw s c = en r (cal r tw (st r s) c).1 (r 0).toNat := by unfold nxt; rw [if_pos hc]
    exact e2.trans ((en_congr _ (fun x hx => by rw [hst x (by omega) (by omega), he x hx])).trans e1)
end STAND
