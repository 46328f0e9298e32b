/-! THE SMALL MACHINE IS SOUND, 1: values, locals, stack, numbers, branches -/
def sm_loc (B : Nat) (ad : Nat → Nat) (a : Nat) : Nat := if a < 32 then ad a else B + (a - 32)
def sm_oa (B : Nat) (ad : Nat → Nat) (a : Nat) : Option Nat := if a = 0 then none else some (sm_loc B ad a)
def sm_val (B : Nat) (ad : Nat → Nat) (x : sm_V) (v : Value) : Prop := match x with
  | .inl n => ∃ a : Int32, v = .int a ∧ a.toInt = n
  | .inr (.inl n) => ∃ a : Int64, v = .long a ∧ a.toInt = n
  | .inr (.inr a) => v = va_rf (sm_oa B ad a)
def sm_vals (B : Nat) (ad : Nat → Nat) : List sm_V → List Value → Prop
  | [], [] => True
  | x :: xs, v :: vs => sm_val B ad x v ∧ sm_vals B ad xs vs
  | _, _ => False
def sm_lok (B : Nat) (ad : Nat → Nat) (nL : Nat) (L : sm_L) (ls : Array Slot) : Prop := L.length = nL ∧ ls.size = nL ∧ lv_wf ls ∧ ∀ (i : Nat) (x : sm_V), sm_lg L i = some x → ∃ v : Value, sm_val B ad x v ∧ ls[i]? = some (.val v)
theorem so_cat {B : Nat} {ad : Nat → Nat} {x : sm_V} {v : Value} (h : sm_val B ad x v) : v.category = sm_cat x := by
  rcases x with x | x | x
  · obtain ⟨a, rfl, -⟩ := h; rfl
  · obtain ⟨a, rfl, -⟩ := h; rfl
  · cases h
    unfold sm_oa
    split <;> rfl
theorem so_cats {B : Nat} {ad : Nat → Nat} : ∀ {xs : List sm_V} {vs : List Value}, sm_vals B ad xs vs → (vs.map fun v => v.category) = xs.map sm_cat
  | [], [], _ => rfl
  | x :: xs, v :: vs, h => by rw [List.map_cons, List.map_cons, so_cat h.1, so_cats h.2]
  | [], v :: vs, h => h.elim
  | x :: xs, [], h => h.elim
theorem so_cons {B : Nat} {ad : Nat → Nat} {x : sm_V} {xs : List sm_V} {rst : List Value} (h : sm_vals B ad (x :: xs) rst) : ∃ v vs, rst = v :: vs ∧ sm_val B ad x v ∧ sm_vals B ad xs vs := by
  cases rst with
  | nil => exact h.elim
  | cons v vs => exact ⟨v, vs, rfl, h.1, h.2⟩
theorem so_vals_len {B : Nat} {ad : Nat → Nat} : ∀ {xs : List sm_V} {vs : List Value}, sm_vals B ad xs vs → vs.length = xs.length
  | [], [], _ => rfl
  | x :: xs, v :: vs, h => by rw [List.length_cons, List.length_cons, so_vals_len h.2]
  | [], v :: vs, h => h.elim
  | x :: xs, [], h => h.elim
theorem so_vals_app {B : Nat} {ad : Nat → Nat} : ∀ {xs ys : List sm_V} {vs ws : List Value}, sm_vals B ad xs vs → sm_vals B ad ys ws → sm_vals B ad (xs ++ ys) (vs ++ ws)
  | [], _, [], _, _, h => h
  | x :: xs, _, v :: vs, _, h, h2 => ⟨h.1, so_vals_app h.2 h2⟩
  | [], _, v :: vs, _, h, _ => h.elim
  | x :: xs, _, [], _, h, _ => h.elim
theorem so_vals_rev {B : Nat} {ad : Nat → Nat} : ∀ {xs : List sm_V} {vs : List Value}, sm_vals B ad xs vs → sm_vals B ad xs.reverse vs.reverse
  | [], [], _ => trivial
  | x :: xs, v :: vs, h => by
    rw [List.reverse_cons, List.reverse_cons]
    exact so_vals_app (so_vals_rev h.2) ⟨h.1, trivial⟩
  | [], v :: vs, h => h.elim
  | x :: xs, [], h => h.elim
theorem so_vals_split {B : Nat} {ad : Nat → Nat} : ∀ {n : Nat} {xs : List sm_V} {vs : List Value}, sm_vals B ad xs vs → sm_vals B ad (xs.take n) (vs.take n) ∧ sm_vals B ad (xs.drop n) (vs.drop n)
  | 0, _, _, h => ⟨trivial, h⟩
  | n + 1, [], [], h => ⟨trivial, trivial⟩
  | n + 1, x :: xs, v :: vs, h => ⟨⟨h.1, (so_vals_split h.2).1⟩, (so_vals_split h.2).2⟩
  | n + 1, [], v :: vs, h => h.elim
  | n + 1, x :: xs, [], h => h.elim
theorem so_vals_get {B : Nat} {ad : Nat → Nat} : ∀ {xs : List sm_V} {vs : List Value}, sm_vals B ad xs vs → ∀ {i : Nat} {x : sm_V}, xs[i]? = some x → ∃ v, vs[i]? = some v ∧ sm_val B ad x v
  | [], [], _, i, x, hx => by simp at hx
  | y :: xs, v :: vs, h, 0, x, hx => by
    simp only [List.getElem?_cons_zero, Option.some.injEq] at hx
    subst hx
    exact ⟨v, rfl, h.1⟩
  | y :: xs, v :: vs, h, i + 1, x, hx => by
    rw [List.getElem?_cons_succ] at hx
    obtain ⟨w, h1, h2⟩ := so_vals_get h.2 hx
    exact ⟨w, by rw [List.getElem?_cons_succ]; exact h1, h2⟩
  | [], v :: vs, h, _, _, _ => h.elim
  | x :: xs, [], h, _, _, _ => h.elim
/-- all that is in the locals -/
def so_one (i : Nat) (x : Option Slot) : Option (Nat × Value) := match x with
  | some (.val v) => some (i, v)
  | _ => none
def so_all (ls : Array Slot) : List (Nat × Value) := (List.range ls.size).filterMap (fun i => so_one i ls[i]?)
theorem so_all_mem {ls : Array Slot} {i : Nat} {v : Value} : (i, v) ∈ so_all ls ↔ ls[i]? = some (.val v) := by
  unfold so_all
  rw [List.mem_filterMap]
  constructor
  · rintro ⟨j, -, hj⟩
    unfold so_one at hj
    split at hj
    · rename_i w hw
      simp only [Option.some.injEq, Prod.mk.injEq] at hj
      obtain ⟨rfl, rfl⟩ := hj
      exact hw
    · cases hj
  · intro h
    exact ⟨i, List.mem_range.mpr (lv_lt h), by rw [h]; rfl⟩
theorem so_all_has {ls : Array Slot} {nL : Nat} (h1 : ls.size = nL) (h2 : lv_wf ls) : lv_has ls nL (so_all ls) := ⟨h1, h2, fun q hq => so_all_mem.mp (show (q.1, q.2) ∈ so_all ls from hq)⟩
theorem so_pl_no {L : sm_L} {j i : Nat} (hp : sm_pl L i = false) (hji : j + 1 = i) {x : sm_V} (hx : sm_lg L j = some x) : sm_cat x = 1 := by
  subst hji
  simp only [sm_pl, hx] at hp
  rcases x with x | x | x
  · rfl
  · simp at hp
  · rfl
theorem so_lg_set {L : sm_L} {i j : Nat} {x : Option sm_V} : sm_lg (L.set i x) j = if i = j then (if i < L.length then x else sm_lg L j) else sm_lg L j := by
  unfold sm_lg
  rw [List.getElem?_set]
  by_cases h : i = j
  · subst h
    by_cases h2 : i < L.length
    · simp [h2]
    · simp [h2]
  · simp [h]
theorem so_l1 {B nL : Nat} {ad : Nat → Nat} {L L' : sm_L} {ls : Array Slot} {i : Nat} {x : sm_V} {v : Value} (h : sm_lok B ad nL L ls) (hs : sm_s1 L i x = some L') (hv : sm_val B ad x v) {ls' : Array Slot} (hl : lv_has ls' nL ((i, v) :: (so_all ls).filter (fun q => !(q.1 == i) && !(q.1 + 1 == i && q.2.category == 2)))) : sm_lok B ad nL L' ls' := by
  unfold sm_s1 at hs
  split at hs
  · rename_i hc
    cases hs
    refine ⟨by rw [List.length_set]; exact h.1, hl.1, hl.2.1, fun j y hy => ?_⟩
    rw [so_lg_set] at hy
    by_cases hij : i = j
    · subst hij
      simp only [if_true, hc.1] at hy
      cases hy
      exact ⟨v, hv, hl.2.2 (i, v) List.mem_cons_self⟩
    · rw [if_neg hij] at hy
      obtain ⟨w, hw, hlw⟩ := h.2.2.2 j y hy
      refine ⟨w, hw, hl.2.2 (j, w) (List.mem_cons_of_mem _ (List.mem_filter.mpr ⟨so_all_mem.mpr hlw, ?_⟩))⟩
      have h1 : (j == i) = false := by simp; exact fun q => hij q.symm
      by_cases h2 : j + 1 = i
      · have h3 : w.category = 1 := (so_cat hw).trans (so_pl_no hc.2 h2 hy)
        simp [h1, h3]
      · simp [h1, h2]
  · cases hs
theorem so_l2 {B nL : Nat} {ad : Nat → Nat} {L L' : sm_L} {ls : Array Slot} {i : Nat} {x : sm_V} {v : Value} (h : sm_lok B ad nL L ls) (hs : sm_s2 L i x = some L') (hv : sm_val B ad x v) {ls' : Array Slot} (hl : lv_has ls' nL ((i, v) :: (so_all ls).filter (fun q => !(q.1 == i) && (!(q.1 == i + 1) && !(q.1 + 1 == i && q.2.category == 2))))) : sm_lok B ad nL L' ls' := by
  unfold sm_s2 at hs
  split at hs
  · rename_i hc
    cases hs
    refine ⟨by rw [List.length_set, List.length_set]; exact h.1, hl.1, hl.2.1, fun j y hy => ?_⟩
    rw [so_lg_set, so_lg_set, List.length_set] at hy
    by_cases h2 : i + 1 = j
    · rw [if_pos h2, if_pos (by omega)] at hy
      cases hy
    · rw [if_neg h2] at hy
      by_cases hij : i = j
      · subst hij
        have : i < L.length := by omega
        simp only [if_true, this] at hy
        cases hy
        exact ⟨v, hv, hl.2.2 (i, v) List.mem_cons_self⟩
      · rw [if_neg hij] at hy
        obtain ⟨w, hw, hlw⟩ := h.2.2.2 j y hy
        refine ⟨w, hw, hl.2.2 (j, w) (List.mem_cons_of_mem _ (List.mem_filter.mpr ⟨so_all_mem.mpr hlw, ?_⟩))⟩
        have h1 : (j == i) = false := by simp; exact fun q => hij q.symm
        have h1' : (j == i + 1) = false := by simp; exact fun q => h2 q.symm
        by_cases h2 : j + 1 = i
        · have h3 : w.category = 1 := (so_cat hw).trans (so_pl_no hc.2 h2 hy)
          simp [h1, h1', h3]
        · simp [h1, h1', h2]
  · cases hs
theorem so_s1_lt {L L' : sm_L} {i : Nat} {x : sm_V} (hs : sm_s1 L i x = some L') : i < L.length := by
  unfold sm_s1 at hs
  split at hs
  · rename_i hc; exact hc.1
  · cases hs
theorem so_s2_lt {L L' : sm_L} {i : Nat} {x : sm_V} (hs : sm_s2 L i x = some L') : i + 1 < L.length := by
  unfold sm_s2 at hs
  split at hs
  · rename_i hc; exact hc.1
  · cases hs
/-! numbers -/
theorem so_ofI (a : Int32) : Int32.ofInt a.toInt = a := by simp
theorem so_inI {a : Int32} : (-2147483648 : Int) ≤ a.toInt ∧ a.toInt < 2147483648 := ⟨Int32.minValue_le_toInt a, Int32.toInt_lt a⟩
theorem so_inJ {a : Int64} : (-9223372036854775808 : Int) ≤ a.toInt ∧ a.toInt < 9223372036854775808 := ⟨Int64.minValue_le_toInt a, Int64.toInt_lt a⟩
theorem so_add (a b : Int32) : (a + b).toInt = sm_w (a.toInt + b.toInt) := by simp [sm_w, Int32.toInt_add]
theorem so_sub (a b : Int32) : (a - b).toInt = sm_w (a.toInt - b.toInt) := by simp [sm_w, Int32.toInt_sub]
theorem so_mul (a b : Int32) : (a * b).toInt = sm_w (a.toInt * b.toInt) := by simp [sm_w, Int32.toInt_mul]
theorem so_neg (a : Int32) : (-a).toInt = sm_w (-a.toInt) := by simp [sm_w, Int32.toInt_neg]
theorem so_div (a b : Int32) : (a / b).toInt = sm_w (a.toInt.tdiv b.toInt) := by simp [sm_w, Int32.toInt_div]
theorem so_rem (a b : Int32) : (a % b).toInt = a.toInt.tmod b.toInt := by simp [Int32.toInt_mod]
theorem so_and (a b : Int32) : (a &&& b).toInt = sm_and a.toInt b.toInt := by simp [sm_and]
theorem so_or (a b : Int32) : (a ||| b).toInt = sm_or a.toInt b.toInt := by simp [sm_or]
theorem so_xor (a b : Int32) : (a ^^^ b).toInt = sm_xor a.toInt b.toInt := by simp [sm_xor]
theorem so_shl (a b : Int32) : (a <<< (b &&& 31)).toInt = sm_shl a.toInt b.toInt := by simp [sm_shl]
theorem so_shr (a b : Int32) : (a >>> (b &&& 31)).toInt = sm_shr a.toInt b.toInt := by simp [sm_shr]
theorem so_ushr (a b : Int32) : ((a.toUInt32 >>> (b.toUInt32 &&& Int32.toUInt32 31)).toInt32).toInt = sm_ushr a.toInt b.toInt := by simp [sm_ushr]
theorem so_i2c (a : Int32) : ((a.toUInt32 % 65536).toInt32).toInt = sm_i2c a.toInt := by simp [sm_i2c]
theorem so_addJ (a b : Int64) : (a + b).toInt = sm_q (a.toInt + b.toInt) := by simp [sm_q, Int64.toInt_add]
theorem so_subJ (a b : Int64) : (a - b).toInt = sm_q (a.toInt - b.toInt) := by simp [sm_q, Int64.toInt_sub]
theorem so_mulJ (a b : Int64) : (a * b).toInt = sm_q (a.toInt * b.toInt) := by simp [sm_q, Int64.toInt_mul]
theorem so_negJ (a : Int64) : (-a).toInt = sm_q (-a.toInt) := by simp [sm_q, Int64.toInt_neg]
theorem so_divJ (a b : Int64) : (a / b).toInt = sm_q (a.toInt.tdiv b.toInt) := by simp [sm_q, Int64.toInt_div]
theorem so_remJ (a b : Int64) : (a % b).toInt = a.toInt.tmod b.toInt := by simp [Int64.toInt_mod]
theorem so_i2l (a : Int32) : a.toInt64.toInt = a.toInt := by simp
theorem so_l2i (a : Int64) : a.toInt32.toInt = sm_w a.toInt := by simp [sm_w]
theorem so_zero {a : Int32} : a = 0 ↔ a.toInt = 0 := ⟨fun h => by rw [h]; rfl, fun h => Int32.toInt_inj.mp h⟩
theorem so_zeroJ {a : Int64} : a = 0 ↔ a.toInt = 0 := ⟨fun h => by rw [h]; rfl, fun h => Int64.toInt_inj.mp h⟩
theorem so_eqI {a b : Int32} : a = b ↔ a.toInt = b.toInt := Int32.toInt_inj.symm
theorem so_ltI {a b : Int32} : a < b ↔ a.toInt < b.toInt := Int32.lt_iff_toInt_lt
theorem so_leI {a b : Int32} : a ≤ b ↔ a.toInt ≤ b.toInt := Int32.le_iff_toInt_le
theorem so_lcmp (a b : Int64) : (lg_cmp a b).toInt = sm_cmp a.toInt b.toInt := by
  unfold lg_cmp sm_cmp
  simp only [gt_iff_lt, Int64.lt_iff_toInt_lt, ← Int64.toInt_inj]
  by_cases h1 : a.toInt < b.toInt
  · rw [if_neg (by omega), if_neg (by omega), if_pos h1]; rfl
  · by_cases h2 : a.toInt = b.toInt
    · rw [if_neg (by omega), if_pos h2, if_neg h1, if_pos h2]; rfl
    · rw [if_pos (by omega), if_neg h1, if_neg h2]; rfl
