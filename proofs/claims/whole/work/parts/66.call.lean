/-! a call: numbers alone -/
def up (w : Int → Int) (c v : Int) : Int → Int := fun x => if x = c then v else w x
/-- the cell of a cow with so much left -/
def clo (r : Int → Int) (c l : Int) : Int := if l = 0 then -1 else r (17 + 16 * c + (r (16 + 16 * c) - l))
/-- 1: no other stands there -/
def frb (r w : Int → Int) (c cell : Int) : Nat → Int → Int
  | 0, _ => 1
  | k + 1, o => if cell ≠ -1 ∧ o ≠ c ∧ clo r o (w o) = cell then 0 else frb r w c cell k (o + 1)
def fr1 (r w : Int → Int) (c l : Int) : Int := frb r w c (clo r c l) (r 0).toNat 0
def nxo (r w : Int → Int) : Nat → Int → Int
  | 0, _ => -1
  | k + 1, i => if 0 < w (r (95 + i)) then r (95 + i) else nxo r w k (i + 1)
def nx (r w : Int → Int) : Int := nxo r w (r 6).toNat 0
/-- who stands where, how many cells were gone, whether one came home out of order -/
def gst (r : Int → Int) (s : (Int → Int) × Int × Int) (c : Int) : (Int → Int) × Int × Int := (up s.1 c (s.1 c - 1), s.2.1 + 1, if s.2.2 = 1 ∨ (s.1 c = 1 ∧ nx r s.1 ≠ c) then 1 else 0)
def kw (r w : Int → Int) (c q : Int) : Int → Int := kn r c (w c) q (zs w 0 (r 0).toNat) 0
def cl3 (x : Int) : Int := if x < 0 then 0 else if 3 < x then 3 else x
def stq (r : Int → Int) (tw : Int → (Int → Int) → Option Int) (c q h l : Int) : Int := cl3 ((tw 0 (kn r c l q h 0)).getD (r (12 + 16 * c)))
def bkq (r : Int → Int) (tw : Int → (Int → Int) → Option Int) (c q h l : Int) : Bool := (tw 3 (kn r c l q h 0)).isSome
def fwq (r : Int → Int) (tw : Int → (Int → Int) → Option Int) (c q h l : Int) : Bool := (tw 4 (kn r c l q h 0)).isSome
/-- the manner of a cow, as the class keeps it -/
def man (r : Int → Int) (tw : Int → (Int → Int) → Option Int) (c q h l : Int) : Int := 16 + stq r tw c q h l + (if bkq r tw c q h l = true then 4 else 0) + (if fwq r tw c q h l = true then 8 else 0)
def stps (r : Int → Int) (c : Int) : Nat → (Int → Int) × Int × Int → (Int → Int) × Int × Int
  | 0, s => s
  | m + 1, s => if 0 < s.1 c ∧ fr1 r s.1 c (s.1 c - 1) = 1 then stps r c m (gst r s c) else s
def fol (r : Int → Int) (tw : Int → (Int → Int) → Option Int) (q : Int) (s : (Int → Int) × Int × Int) (o : Int) : (Int → Int) × Int × Int := if o ≠ q ∧ 0 < s.1 o ∧ fwq r tw o q (zs s.1 0 (r 0).toNat) (s.1 o) = true ∧ bkq r tw o q (zs s.1 0 (r 0).toNat) (s.1 o) = false ∧ fr1 r s.1 o (s.1 o - 1) = 1 then gst r s o else s
/-- how many steps the called one goes at most -/
def stn (r : Int → Int) (tw : Int → (Int → Int) → Option Int) (w : Int → Int) (c : Int) : Int := if bkq r tw c c (zs w 0 (r 0).toNat) (w c) = true then 0 else stq r tw c c (zs w 0 (r 0).toNat) (w c)
def cal (r : Int → Int) (tw : Int → (Int → Int) → Option Int) (w : Int → Int) (c : Int) : (Int → Int) × Int × Int := fo (fol r tw c) 0 (r 0).toNat (stps r c (stn r tw w c).toNat (w, 0, 0))
def wok (r w : Int → Int) : Prop := ∀ c : Int, 0 ≤ c → c < r 0 → 0 ≤ w c ∧ w c ≤ r (16 + 16 * c)
section CALLP
variable {r w : Int → Int} {tw : Int → (Int → Int) → Option Int}
theorem zs_up {c v : Int} : ∀ (k : Nat) (i : Int), zs (up w c v) i k = zs w i k + (if i ≤ c ∧ c < i + k then (if v = 0 then 1 else 0) - (if w c = 0 then 1 else 0) else 0)
  | 0, i => by rw [if_neg (by omega)]; rfl
  | k + 1, i => by
    have ih := zs_up (c := c) (v := v) k (i + 1)
    show (if up w c v i = 0 then 1 else 0) + zs (up w c v) (i + 1) k = (if w i = 0 then 1 else 0) + zs w (i + 1) k + _
    rw [ih]
    by_cases h : i = c
    · subst h
      have e : up w i v i = v := by simp [up]
      rw [e, if_neg (show ¬ (i + 1 ≤ i ∧ i < i + 1 + (k : Int)) by omega), if_pos (show i ≤ i ∧ i < i + ((k + 1 : Nat) : Int) by omega)]
      generalize (if v = 0 then (1 : Int) else 0) = x
      generalize (if w i = 0 then (1 : Int) else 0) = y
      omega
    · have e : up w c v i = w i := by simp [up, h]
      rw [e]
      by_cases h2 : i + 1 ≤ c ∧ c < i + 1 + (k : Int)
      · rw [if_pos h2, if_pos (show i ≤ c ∧ c < i + ((k + 1 : Nat) : Int) by omega)]
        omega
      · rw [if_neg h2, if_neg (show ¬ (i ≤ c ∧ c < i + ((k + 1 : Nat) : Int)) by omega)]
        omega
theorem cl3_r {x : Int} : 0 ≤ cl3 x ∧ cl3 x ≤ 3 := by unfold cl3; split <;> (try split) <;> omega
theorem stq_r {c q h l : Int} : 0 ≤ stq r tw c q h l ∧ stq r tw c q h l ≤ 3 := cl3_r
theorem gst_bad {s : (Int → Int) × Int × Int} {c : Int} (h : s.2.2 = 1) : (gst r s c).2.2 = 1 := by unfold gst; simp [h]
theorem stps_bad {c : Int} : ∀ (m : Nat) (s : (Int → Int) × Int × Int), s.2.2 = 1 → (stps r c m s).2.2 = 1
  | 0, _, h => h
  | m + 1, s, h => by
    unfold stps
    split
    · exact stps_bad m _ (gst_bad h)
    · exact h
theorem fol_bad {q o : Int} {s : (Int → Int) × Int × Int} (h : s.2.2 = 1) : (fol r tw q s o).2.2 = 1 := by
  unfold fol
  split
  · exact gst_bad h
  · exact h
theorem fols_bad {q : Int} : ∀ (k : Nat) (o : Int) (s : (Int → Int) × Int × Int), s.2.2 = 1 → (fo (fol r tw q) o k s).2.2 = 1
  | 0, _, _, h => h
  | k + 1, o, s, h => fols_bad k (o + 1) _ (fol_bad h)
theorem gst_wok {s : (Int → Int) × Int × Int} {c : Int} (h : wok r s.1) (hc : 0 < s.1 c) : wok r (gst r s c).1 := by
  intro x x0 x1
  have := h x x0 x1
  show 0 ≤ up s.1 c (s.1 c - 1) x ∧ up s.1 c (s.1 c - 1) x ≤ _
  unfold up
  split
  · rename_i hx; subst hx; omega
  · exact this
theorem gst_b01 {s : (Int → Int) × Int × Int} {c : Int} : (gst r s c).2.2 = 0 ∨ (gst r s c).2.2 = 1 := by unfold gst; simp only; split <;> simp
theorem frb_01 {c cell : Int} : ∀ (k : Nat) (o : Int), frb r w c cell k o = 0 ∨ frb r w c cell k o = 1
  | 0, _ => Or.inr rfl
  | k + 1, o => by
    unfold frb
    split
    · exact Or.inl rfl
    · exact frb_01 k (o + 1)
theorem nxo_r {n : Int} (h : ∀ i : Int, 0 ≤ i → i < r 6 → 0 ≤ r (95 + i) ∧ r (95 + i) < n) : ∀ (k : Nat) (i : Int), 0 ≤ i → i + k = r 6 → nxo r w k i = -1 ∨ (0 ≤ nxo r w k i ∧ nxo r w k i < n)
  | 0, _, _, _ => Or.inl rfl
  | k + 1, i, i0, hk => by
    unfold nxo
    split
    · exact Or.inr (h i i0 (by omega))
    · exact nxo_r h k (i + 1) (by omega) (by omega)
/-- only the cows there are matter -/
theorem frb_congr {w' : Int → Int} {c cell : Int} : ∀ (k : Nat) (o : Int), (∀ x : Int, o ≤ x → x < o + k → w x = w' x) → frb r w c cell k o = frb r w' c cell k o
  | 0, _, _ => rfl
  | k + 1, o, h => by
    unfold frb
    rw [h o (by omega) (by omega), frb_congr k (o + 1) (fun x h1 h2 => h x (by omega) (by omega))]
theorem man_fin : ∀ (s b f : Fin 4), (b.val = 0 ∨ b.val = 1) → (f.val = 0 ∨ f.val = 1) → (sm_or (sm_or (sm_or 16 (s.val : Int)) (if b.val = 1 then 4 else 0)) (if f.val = 1 then 8 else 0) = 16 + (s.val : Int) + (if b.val = 1 then 4 else 0) + (if f.val = 1 then 8 else 0)) ∧ (sm_and (16 + (s.val : Int) + (if b.val = 1 then 4 else 0) + (if f.val = 1 then 8 else 0)) 4 = if b.val = 1 then 4 else 0) ∧ (sm_and (16 + (s.val : Int) + (if b.val = 1 then 4 else 0) + (if f.val = 1 then 8 else 0)) 3 = (s.val : Int)) ∧ (sm_and (16 + (s.val : Int) + (if b.val = 1 then 4 else 0) + (if f.val = 1 then 8 else 0)) 12 = (if b.val = 1 then 4 else 0) + (if f.val = 1 then 8 else 0)) := by decide +kernel
theorem man_or {s : Int} {b f : Bool} (hs : 0 ≤ s ∧ s ≤ 3) : sm_or (sm_or (sm_or 16 s) (if b = true then 4 else 0)) (if f = true then 8 else 0) = 16 + s + (if b = true then 4 else 0) + (if f = true then 8 else 0) ∧ sm_and (16 + s + (if b = true then 4 else 0) + (if f = true then 8 else 0)) 4 = (if b = true then 4 else 0) ∧ sm_and (16 + s + (if b = true then 4 else 0) + (if f = true then 8 else 0)) 3 = s ∧ sm_and (16 + s + (if b = true then 4 else 0) + (if f = true then 8 else 0)) 12 = (if b = true then 4 else 0) + (if f = true then 8 else 0) := by
  obtain ⟨t, rfl⟩ := Int.eq_ofNat_of_zero_le hs.1
  have h4 : t < 4 := by omega
  cases b <;> cases f
  · exact man_fin ⟨t, h4⟩ 0 0 (by decide) (by decide)
  · exact man_fin ⟨t, h4⟩ 0 1 (by decide) (by decide)
  · exact man_fin ⟨t, h4⟩ 1 0 (by decide) (by decide)
  · exact man_fin ⟨t, h4⟩ 1 1 (by decide) (by decide)
end CALLP
