/-! small sets of cows as numbers; loops as folds; notes given to cows, as numbers alone -/
def mb (T c : Int) : Int := sm_and (sm_shr T c) 1
def ma (T c : Int) : Int := sm_or T (sm_shl 1 c)
theorem mask_fin : ∀ (T : Fin 32) (c w : Fin 5), (mb (T.val : Int) (c.val : Int) = 0 ∨ mb (T.val : Int) (c.val : Int) = 1) ∧ (0 ≤ ma (T.val : Int) (w.val : Int) ∧ ma (T.val : Int) (w.val : Int) < 32) ∧ mb (ma (T.val : Int) (w.val : Int)) (c.val : Int) = if c = w then 1 else mb (T.val : Int) (c.val : Int) := by decide +kernel
def mok (T : Int) : Prop := 0 ≤ T ∧ T < 32
theorem mb_01 {T c : Int} (hT : mok T) (hc : 0 ≤ c ∧ c < 5) : mb T c = 0 ∨ mb T c = 1 := by
  obtain ⟨t, rfl⟩ := Int.eq_ofNat_of_zero_le hT.1
  obtain ⟨c, rfl⟩ := Int.eq_ofNat_of_zero_le hc.1
  exact (mask_fin ⟨t, by have := hT.2; omega⟩ ⟨c, by omega⟩ 0).1
theorem ma_ok {T c : Int} (hT : mok T) (hc : 0 ≤ c ∧ c < 5) : mok (ma T c) := by
  obtain ⟨t, rfl⟩ := Int.eq_ofNat_of_zero_le hT.1
  obtain ⟨c, rfl⟩ := Int.eq_ofNat_of_zero_le hc.1
  exact (mask_fin ⟨t, by have := hT.2; omega⟩ 0 ⟨c, by omega⟩).2.1
theorem mb_ma {T c w : Int} (hT : mok T) (hc : 0 ≤ c ∧ c < 5) (hw : 0 ≤ w ∧ w < 5) : mb (ma T w) c = if c = w then 1 else mb T c := by
  obtain ⟨t, rfl⟩ := Int.eq_ofNat_of_zero_le hT.1
  obtain ⟨c, rfl⟩ := Int.eq_ofNat_of_zero_le hc.1
  obtain ⟨w, rfl⟩ := Int.eq_ofNat_of_zero_le hw.1
  have := (mask_fin ⟨t, by have := hT.2; omega⟩ ⟨c, by omega⟩ ⟨w, by omega⟩).2.2
  simp only [Fin.mk.injEq] at this
  rw [this]
  by_cases h : c = w
  · simp [h]
  · rw [if_neg h, if_neg (by omega)]
theorem ma_fin : ∀ (T : Fin 32) (c w : Fin 5), ma (ma (T.val : Int) (w.val : Int)) (c.val : Int) = ma (ma (T.val : Int) (c.val : Int)) (w.val : Int) := by decide +kernel
theorem ma_comm {T c w : Int} (hT : mok T) (hc : 0 ≤ c ∧ c < 5) (hw : 0 ≤ w ∧ w < 5) : ma (ma T w) c = ma (ma T c) w := by
  obtain ⟨t, rfl⟩ := Int.eq_ofNat_of_zero_le hT.1
  obtain ⟨c, rfl⟩ := Int.eq_ofNat_of_zero_le hc.1
  obtain ⟨w, rfl⟩ := Int.eq_ofNat_of_zero_le hw.1
  exact ma_fin ⟨t, by have := hT.2; omega⟩ ⟨c, by omega⟩ ⟨w, by omega⟩
/-- how many are in a set -/
def mn (T : Int) : Int := mb T 0 + mb T 1 + mb T 2 + mb T 3 + mb T 4
theorem mn_ma {T c : Int} (hT : mok T) (hc : 0 ≤ c ∧ c < 5) (h : mb T c = 0) : mn (ma T c) = mn T + 1 := by
  unfold mn
  rw [mb_ma hT (by omega) hc, mb_ma hT (by omega) hc, mb_ma hT (by omega) hc, mb_ma hT (by omega) hc, mb_ma hT (by omega) hc]
  rcases (by omega : c = 0 ∨ c = 1 ∨ c = 2 ∨ c = 3 ∨ c = 4) with rfl | rfl | rfl | rfl | rfl <;> simp <;> omega
theorem mn_le {T : Int} {n : Int} (hT : mok T) (hn : 0 ≤ n ∧ n ≤ 5) (h : ∀ c : Int, n ≤ c → c < 5 → mb T c = 0) : mn T ≤ n := by
  have h0 := mb_01 (c := 0) hT (by omega)
  have h1 := mb_01 (c := 1) hT (by omega)
  have h2 := mb_01 (c := 2) hT (by omega)
  have h3 := mb_01 (c := 3) hT (by omega)
  have h4 := mb_01 (c := 4) hT (by omega)
  unfold mn
  rcases (by omega : n = 0 ∨ n = 1 ∨ n = 2 ∨ n = 3 ∨ n = 4 ∨ n = 5) with rfl | rfl | rfl | rfl | rfl | rfl
  · rw [h 0 (by omega) (by omega), h 1 (by omega) (by omega), h 2 (by omega) (by omega), h 3 (by omega) (by omega), h 4 (by omega) (by omega)]; omega
  · rw [h 1 (by omega) (by omega), h 2 (by omega) (by omega), h 3 (by omega) (by omega), h 4 (by omega) (by omega)]; omega
  · rw [h 2 (by omega) (by omega), h 3 (by omega) (by omega), h 4 (by omega) (by omega)]; omega
  · rw [h 3 (by omega) (by omega), h 4 (by omega) (by omega)]; omega
  · rw [h 4 (by omega) (by omega)]; omega
  · omega
/-- a loop as a fold: k turns from c on -/
def fo {α : Type} (f : α → Int → α) : Int → Nat → α → α
  | _, 0, s => s
  | c, k + 1, s => fo f (c + 1) k (f s c)
theorem fo_congr {α : Type} {f g : α → Int → α} : ∀ (k : Nat) (c : Int) (s : α), (∀ i : Int, c ≤ i → i < c + k → ∀ s, f s i = g s i) → fo f c k s = fo g c k s
  | 0, _, _, _ => rfl
  | k + 1, c, s, h => by
    show fo f (c + 1) k (f s c) = fo g (c + 1) k (g s c)
    rw [h c (by omega) (by omega) s]
    exact fo_congr k (c + 1) _ (fun i h1 h2 => h i (by omega) (by omega))
theorem fo_id {α : Type} {f : α → Int → α} : ∀ (k : Nat) (c : Int) (s : α), (∀ i : Int, c ≤ i → i < c + k → f s i = s) → fo f c k s = s
  | 0, _, _, _ => rfl
  | k + 1, c, s, h => by
    show fo f (c + 1) k (f s c) = s
    rw [h c (by omega) (by omega)]
    exact fo_id k (c + 1) _ (fun i h1 h2 => h i (by omega) (by omega))
theorem fo_snoc {α : Type} {f : α → Int → α} : ∀ (k : Nat) (c : Int) (s : α), fo f c (k + 1) s = f (fo f c k s) (c + k)
  | 0, c, s => by simp [fo]
  | k + 1, c, s => by
    show fo f (c + 1) (k + 1) (f s c) = _
    rw [fo_snoc k (c + 1) (f s c)]
    show f (fo f (c + 1) k (f s c)) (c + 1 + k) = f (fo f (c + 1) k (f s c)) _
    congr 1
    omega
/-- something that each turn may make so, and that stays so -/
theorem fo_ex {α : Type} {f : α → Int → α} {P : α → Prop} {A : Int → Prop} : ∀ (k : Nat) (c : Int) (s : α), (∀ i : Int, c ≤ i → i < c + k → ∀ s, P (f s i) ↔ P s ∨ A i) → (P (fo f c k s) ↔ P s ∨ ∃ i : Int, c ≤ i ∧ i < c + k ∧ A i)
  | 0, c, s, _ => by
    constructor
    · exact fun h => Or.inl h
    · rintro (h | ⟨i, h1, h2, -⟩)
      · exact h
      · omega
  | k + 1, c, s, h => by
    show P (fo f (c + 1) k (f s c)) ↔ _
    rw [fo_ex k (c + 1) (f s c) (fun i h1 h2 => h i (by omega) (by omega)), h c (by omega) (by omega)]
    constructor
    · rintro ((h1 | h1) | ⟨i, h1, h2, h3⟩)
      · exact Or.inl h1
      · exact Or.inr ⟨c, by omega, by omega, h1⟩
      · exact Or.inr ⟨i, by omega, by omega, h3⟩
    · rintro (h1 | ⟨i, h1, h2, h3⟩)
      · exact Or.inl (Or.inl h1)
      · by_cases hi : i = c
        · subst hi; exact Or.inl (Or.inr h3)
        · exact Or.inr ⟨i, by omega, by omega, h3⟩
/-- the notes of a tune given to cows: what is known of cows (cracked, note), of the tune -/
def ck (cr no nt : Int → Int) (z : Int × Int × Int × Bool) (c : Int) : Int × Int × Int × Bool :=
  (z.1 + 1, ma z.2.1 c, z.2.2.1 + (if no c < nt z.1 then 1 else 0), z.2.2.2 && decide (mb z.2.1 c = 0 ∧ cr c = 0 ∧ no c ≤ nt z.1))
def cks (cr no nt : Int → Int) (T0 : Int) (p : List Int) : Int × Int × Int × Bool := p.foldl (ck cr no nt) (0, T0, 0, true)
theorem cks_snoc {cr no nt : Int → Int} {T0 c : Int} {p : List Int} : cks cr no nt T0 (p ++ [c]) = ck cr no nt (cks cr no nt T0 p) c := by simp [cks]
theorem cks_len {cr no nt : Int → Int} {T0 : Int} (p : List Int) : (cks cr no nt T0 p).1 = p.length := by
  suffices h : ∀ (p : List Int) (z : Int × Int × Int × Bool), (p.foldl (ck cr no nt) z).1 = z.1 + p.length by
    have := h p (0, T0, 0, true)
    simpa [cks] using this
  intro p
  induction p with
  | nil => intro z; simp
  | cons c p ih => intro z; rw [List.foldl_cons, ih]; simp [ck]; omega
/-- fewest, ways, the first of them -/
def kep (s : Int × Int × List Int) (p : List Int) (c : Int) : Int × Int × List Int := if c < s.1 then (c, 1, p) else (s.1, sm_w (s.2.1 + 1), s.2.2)
def wgh (cr no nt : Int → Int) (T0 : Int) (s : Int × Int × List Int) (p : List Int) : Int × Int × List Int :=
  if (cks cr no nt T0 p).2.2.2 = true ∧ (cks cr no nt T0 p).2.2.1 ≤ s.1 then kep s p (cks cr no nt T0 p).2.2.1 else s
def dd (cr no nt : Int → Int) (T0 : Int) (n : Nat) : Nat → List Int → Int × Int × List Int → Int × Int × List Int
  | 0, p, s => wgh cr no nt T0 s p
  | q + 1, p, s => fo (fun s c => dd cr no nt T0 n q (p ++ [c]) s) 0 n s
def gv (cr no nt : Int → Int) (n m : Nat) : Nat → List Int → Int → Int → Int × Int × List Int → Int × Int × List Int
  | 0, p, _, c, s => if s.1 < c then s else if m ≤ p.length then kep s p c else s
  | q + 1, p, T, c, s => if s.1 < c then s else if m ≤ p.length then kep s p c else fo (fun s x => if mb T x = 0 ∧ cr x = 0 ∧ no x ≤ nt p.length then gv cr no nt n m q (p ++ [x]) (ma T x) (c + (if no x < nt p.length then 1 else 0)) s else s) 0 n s
section GV
variable {cr no nt : Int → Int} {T0 : Int} {n m : Nat}
theorem dd_bad : ∀ (q : Nat) (p : List Int) (s : Int × Int × List Int), (cks cr no nt T0 p).2.2.2 = false → dd cr no nt T0 n q p s = s
  | 0, p, s, h => by unfold dd wgh; rw [if_neg (by rw [h]; simp)]
  | q + 1, p, s, h => by
    unfold dd
    refine fo_id _ _ _ (fun i _ _ => dd_bad q (p ++ [i]) s ?_)
    rw [cks_snoc]
    simp [ck, h]
theorem dd_dear : ∀ (q : Nat) (p : List Int) (s : Int × Int × List Int), s.1 < (cks cr no nt T0 p).2.2.1 → dd cr no nt T0 n q p s = s
  | 0, p, s, h => by unfold dd wgh; rw [if_neg (by omega)]
  | q + 1, p, s, h => by
    unfold dd
    refine fo_id _ _ _ (fun i _ _ => dd_dear q (p ++ [i]) s ?_)
    rw [cks_snoc]
    simp only [ck]
    split <;> omega
theorem gv_dd (hm : m ≤ 5) : ∀ (q : Nat) (p : List Int) (s : Int × Int × List Int), p.length + q = 5 → p.length ≤ m → (cks cr no nt T0 p).2.2.2 = true → gv cr no nt n m q p (cks cr no nt T0 p).2.1 (cks cr no nt T0 p).2.2.1 s = dd cr no nt T0 n (m - p.length) p s
  | 0, p, s, hq, hp, hk => by
    have e : m - p.length = 0 := by omega
    rw [e]
    unfold gv dd wgh
    by_cases h : s.1 < (cks cr no nt T0 p).2.2.1
    · rw [if_pos h, if_neg (by omega)]
    · rw [if_neg h, if_pos (by omega), if_pos ⟨hk, by omega⟩]
  | q + 1, p, s, hq, hp, hk => by
    unfold gv
    by_cases h : s.1 < (cks cr no nt T0 p).2.2.1
    · rw [if_pos h, dd_dear _ _ _ h]
    rw [if_neg h]
    by_cases h2 : m ≤ p.length
    · have e : m - p.length = 0 := by omega
      rw [if_pos h2, e]
      unfold dd wgh
      rw [if_pos ⟨hk, by omega⟩]
    rw [if_neg h2]
    obtain ⟨k, hk2⟩ : ∃ k, m - p.length = k + 1 := ⟨m - p.length - 1, by omega⟩
    rw [hk2]
    unfold dd
    refine fo_congr _ _ _ (fun i _ _ s => ?_)
    have hl := cks_len (cr := cr) (no := no) (nt := nt) (T0 := T0) p
    have hs := cks_snoc (cr := cr) (no := no) (nt := nt) (T0 := T0) (p := p) (c := i)
    by_cases hc : mb (cks cr no nt T0 p).2.1 i = 0 ∧ cr i = 0 ∧ no i ≤ nt p.length
    · rw [if_pos hc]
      have hk3 : (cks cr no nt T0 (p ++ [i])).2.2.2 = true := by rw [hs]; simp [ck, hk, hl, hc]
      have := gv_dd hm q (p ++ [i]) s (by simp; omega) (by simp; omega) hk3
      have e : m - (p ++ [i]).length = k := by simp; omega
      rw [e] at this
      rw [← this, hs]
      simp [ck, hl]
    · rw [if_neg hc]
      symm
      apply dd_bad
      rw [hs]
      simp [ck, hk, hl]
      intro h1 h2
      by_cases h3 : no i ≤ nt p.length
      · exact absurd ⟨h1, h2, h3⟩ hc
      · omega
/-- more notes than cows: none -/
theorem gv_no (hn : n ≤ 5) (hm : n < m) : ∀ (q : Nat) (p : List Int) (T c : Int) (s : Int × Int × List Int), mok T → (p.length : Int) ≤ mn T → (∀ x : Int, n ≤ x → x < 5 → mb T x = 0) → gv cr no nt n m q p T c s = s
  | 0, p, T, c, s, hT, hp, hb => by
    have := mn_le (n := n) hT (by omega) hb
    unfold gv
    split
    · rfl
    · rw [if_neg (by omega)]
  | q + 1, p, T, c, s, hT, hp, hb => by
    have := mn_le (n := n) hT (by omega) hb
    unfold gv
    split
    · rfl
    · rw [if_neg (by omega)]
      refine fo_id _ _ _ (fun i h1 h2 => ?_)
      split
      · rename_i hc
        have hi : 0 ≤ i ∧ i < 5 := by omega
        refine gv_no hn hm q (p ++ [i]) (ma T i) _ s (ma_ok hT hi) ?_ (fun x hx1 hx2 => ?_)
        · rw [mn_ma hT hi hc.1]; simp; omega
        · rw [mb_ma hT (by omega) hi, if_neg (by omega)]; exact hb x hx1 hx2
      · rfl
/-- notes that all can be rung as they are -/
def ex (cr no nt : Int → Int) (n : Nat) : Nat → Int → Int → Prop
  | 0, _, _ => True
  | q + 1, i, T => ∃ c : Int, (0 ≤ c ∧ c < n) ∧ (mb T c = 0 ∧ cr c = 0 ∧ no c = nt i) ∧ ex cr no nt n q (i + 1) (ma T c)
theorem cost_nn {cr no nt : Int → Int} {T0 : Int} (p : List Int) : 0 ≤ (cks cr no nt T0 p).2.2.1 ∧ (cks cr no nt T0 p).2.2.1 ≤ p.length := by
  suffices h : ∀ (p : List Int) (z : Int × Int × Int × Bool), z.2.2.1 ≤ (p.foldl (ck cr no nt) z).2.2.1 ∧ (p.foldl (ck cr no nt) z).2.2.1 ≤ z.2.2.1 + p.length by
    have := h p (0, T0, 0, true)
    simpa [cks] using this
  intro p
  induction p with
  | nil => intro z; simp
  | cons c p ih =>
    intro z
    have := ih (ck cr no nt z c)
    rw [List.foldl_cons, List.length_cons]
    have h2 : z.2.2.1 ≤ (ck cr no nt z c).2.2.1 ∧ (ck cr no nt z c).2.2.1 ≤ z.2.2.1 + 1 := by
      simp only [ck]; split <;> omega
    omega
theorem fo_exi {α : Type} {f : α → Int → α} {P I : α → Prop} {A : Int → Prop} : ∀ (k : Nat) (c : Int) (s : α), I s → (∀ i : Int, c ≤ i → i < c + k → ∀ s, I s → I (f s i) ∧ (P (f s i) ↔ P s ∨ A i)) → I (fo f c k s) ∧ (P (fo f c k s) ↔ P s ∨ ∃ i : Int, c ≤ i ∧ i < c + k ∧ A i)
  | 0, c, s, hI, _ => by
    refine ⟨hI, ?_, ?_⟩
    · exact fun h => Or.inl h
    · rintro (h | ⟨i, h1, h2, -⟩)
      · exact h
      · omega
  | k + 1, c, s, hI, h => by
    have h0 := h c (by omega) (by omega) s hI
    have h1 := fo_exi k (c + 1) (f s c) h0.1 (fun i h1 h2 => h i (by omega) (by omega))
    refine ⟨h1.1, ?_⟩
    show P (fo f (c + 1) k (f s c)) ↔ _
    rw [h1.2, h0.2]
    constructor
    · rintro ((h1 | h1) | ⟨i, h1, h2, h3⟩)
      · exact Or.inl h1
      · exact Or.inr ⟨c, by omega, by omega, h1⟩
      · exact Or.inr ⟨i, by omega, by omega, h3⟩
    · rintro (h1 | ⟨i, h1, h2, h3⟩)
      · exact Or.inl (Or.inl h1)
      · by_cases hi : i = c
        · subst hi; exact Or.inl (Or.inr h3)
        · exact Or.inr ⟨i, by omega, by omega, h3⟩
theorem dd_zero : ∀ (q : Nat) (p : List Int) (s : Int × Int × List Int), 0 ≤ s.1 → 0 ≤ (dd cr no nt T0 n q p s).1 ∧ ((dd cr no nt T0 n q p s).1 = 0 ↔ (s.1 = 0 ∨ ((cks cr no nt T0 p).2.2.2 = true ∧ (cks cr no nt T0 p).2.2.1 = 0 ∧ ex cr no nt n q p.length (cks cr no nt T0 p).2.1)))
  | 0, p, s, h0 => by
    have hc := cost_nn (cr := cr) (no := no) (nt := nt) (T0 := T0) p
    unfold dd wgh kep ex
    by_cases h1 : (cks cr no nt T0 p).2.2.2 = true
    · by_cases h2 : (cks cr no nt T0 p).2.2.1 ≤ s.1
      · rw [if_pos ⟨h1, h2⟩]
        split
        · simp [h1]; omega
        · simp [h1]; omega
      · rw [if_neg (by omega)]; simp [h1]; omega
    · rw [if_neg (fun h => h1 h.1)]; simp [h1]; omega
  | q + 1, p, s, h0 => by
    have hl := cks_len (cr := cr) (no := no) (nt := nt) (T0 := T0) p
    unfold dd
    have := fo_exi (f := fun s c => dd cr no nt T0 n q (p ++ [c]) s) (P := fun s => s.1 = 0) (I := fun s => 0 ≤ s.1) (A := fun c => (cks cr no nt T0 (p ++ [c])).2.2.2 = true ∧ (cks cr no nt T0 (p ++ [c])).2.2.1 = 0 ∧ ex cr no nt n q (p ++ [c]).length (cks cr no nt T0 (p ++ [c])).2.1) n 0 s h0 (fun i _ _ s hs => dd_zero q (p ++ [i]) s hs)
    refine ⟨this.1, this.2.trans ?_⟩
    have hc := cost_nn (cr := cr) (no := no) (nt := nt) (T0 := T0) p
    constructor
    · rintro (h | ⟨i, h1, h2, h3, h4, h5⟩)
      · exact Or.inl h
      · rw [cks_snoc] at h3 h4 h5
        simp only [ck, Bool.and_eq_true, decide_eq_true_eq, hl] at h3 h4 h5
        refine Or.inr ⟨h3.1, ?_, i, ⟨by omega, by omega⟩, ⟨h3.2.1, h3.2.2.1, ?_⟩, ?_⟩
        · split at h4 <;> omega
        · split at h4 <;> omega
        · simpa using h5
    · rintro (h | ⟨h1, h2, i, h3, h4, h5⟩)
      · exact Or.inl h
      · refine Or.inr ⟨i, by omega, by omega, ?_, ?_, ?_⟩
        · rw [cks_snoc]; simp only [ck, Bool.and_eq_true, decide_eq_true_eq, hl]; exact ⟨h1, h4.1, h4.2.1, by omega⟩
        · rw [cks_snoc]; simp only [ck, hl]; rw [if_neg (by omega)]; omega
        · rw [cks_snoc]; simpa [ck] using h5
/-- one cow for another that rings the same -/
theorem ex_swap (hn : n ≤ 5) : ∀ (q : Nat) (i T c w : Int), mok T → (0 ≤ c ∧ c < n) → (0 ≤ w ∧ w < n) → c ≠ w → mb T c = 0 → mb T w = 0 → cr c = 0 → cr w = 0 → no c = no w → ex cr no nt n q i (ma T c) → ex cr no nt n q i (ma T w)
  | 0, _, _, _, _, _, _, _, _, _, _, _, _, _, _ => trivial
  | q + 1, i, T, c, w, hT, hc, hw, hne, h1, h2, h3, h4, h5, h => by
    obtain ⟨x, hx, ⟨hx1, hx2, hx3⟩, hx4⟩ := h
    rw [mb_ma hT (by omega) (by omega)] at hx1
    have hxc : x ≠ c := by intro h; rw [if_pos h] at hx1; omega
    rw [if_neg hxc] at hx1
    by_cases hxw : x = w
    · subst hxw
      refine ⟨c, hc, ⟨?_, h3, by omega⟩, ?_⟩
      · rw [mb_ma hT (by omega) (by omega), if_neg hne]; exact h1
      · rw [ma_comm hT (by omega) (by omega)]; exact hx4
    · refine ⟨x, hx, ⟨?_, hx2, hx3⟩, ?_⟩
      · rw [mb_ma hT (by omega) (by omega), if_neg hxw]; exact hx1
      · rw [ma_comm hT (by omega) (by omega)] at hx4 ⊢
        refine ex_swap hn q (i + 1) (ma T x) c w (ma_ok hT (by omega)) hc hw hne ?_ ?_ h3 h4 h5 hx4
        · rw [mb_ma hT (by omega) (by omega), if_neg (by omega)]; exact h1
        · rw [mb_ma hT (by omega) (by omega), if_neg (by omega)]; exact h2
/-- the lowest cow that rings a note and is not taken; -1 without -/
def lwc (cr no : Int → Int) (T x : Int) : Nat → Int → Int
  | 0, _ => -1
  | k + 1, c => if mb T c = 0 ∧ cr c = 0 ∧ no c = x then c else lwc cr no T x k (c + 1)
theorem lwc_i {T x : Int} : ∀ (k : Nat) (c : Int), 0 ≤ c → (lwc cr no T x k c = -1 ∧ ∀ i : Int, c ≤ i → i < c + k → ¬ (mb T i = 0 ∧ cr i = 0 ∧ no i = x)) ∨ (c ≤ lwc cr no T x k c ∧ lwc cr no T x k c < c + k ∧ mb T (lwc cr no T x k c) = 0 ∧ cr (lwc cr no T x k c) = 0 ∧ no (lwc cr no T x k c) = x)
  | 0, c, _ => Or.inl ⟨rfl, fun i h1 h2 => by omega⟩
  | k + 1, c, h => by
    unfold lwc
    by_cases hc : mb T c = 0 ∧ cr c = 0 ∧ no c = x
    · rw [if_pos hc]; exact Or.inr ⟨by omega, by omega, hc⟩
    · rw [if_neg hc]
      rcases lwc_i (T := T) (x := x) k (c + 1) (by omega) with ⟨h1, h2⟩ | ⟨h1, h2, h3⟩
      · refine Or.inl ⟨h1, fun i hi1 hi2 => ?_⟩
        by_cases e : i = c
        · subst e; exact hc
        · exact h2 i (by omega) (by omega)
      · exact Or.inr ⟨by omega, by omega, h3⟩
/-- led, note by note: taken, the cows in order -/
def ld (cr no nt : Int → Int) (n : Nat) (z : Int × List Int) (i : Int) : Int × List Int :=
  if lwc cr no z.1 (nt i) n 0 = -1 then z else (ma z.1 (lwc cr no z.1 (nt i) n 0), z.2 ++ [lwc cr no z.1 (nt i) n 0])
theorem ld_len : ∀ (q : Nat) (i : Int) (z : Int × List Int), z.2.length ≤ (fo (ld cr no nt n) i q z).2.length ∧ (fo (ld cr no nt n) i q z).2.length ≤ z.2.length + q
  | 0, _, z => by simp [fo]
  | q + 1, i, z => by
    have := ld_len q (i + 1) (ld cr no nt n z i)
    show z.2.length ≤ (fo (ld cr no nt n) (i + 1) q (ld cr no nt n z i)).2.length ∧ (fo (ld cr no nt n) (i + 1) q (ld cr no nt n z i)).2.length ≤ z.2.length + (q + 1)
    have h2 : z.2.length ≤ (ld cr no nt n z i).2.length ∧ (ld cr no nt n z i).2.length ≤ z.2.length + 1 := by
      unfold ld; split <;> simp
    omega
theorem ld_ex (hn : n ≤ 5) : ∀ (q : Nat) (i : Int) (z : Int × List Int), mok z.1 → ((fo (ld cr no nt n) i q z).2.length = z.2.length + q ↔ ex cr no nt n q i z.1)
  | 0, i, z, _ => by simp [fo, ex]
  | q + 1, i, z, hT => by
    show (fo (ld cr no nt n) (i + 1) q (ld cr no nt n z i)).2.length = z.2.length + (q + 1) ↔ _
    have hl := ld_len (cr := cr) (no := no) (nt := nt) (n := n) q (i + 1) (ld cr no nt n z i)
    rcases lwc_i (cr := cr) (no := no) (T := z.1) (x := nt i) n 0 (by omega) with ⟨h1, h2⟩ | ⟨h1, h2, h3, h4, h5⟩
    · have e : ld cr no nt n z i = z := by unfold ld; rw [if_pos h1]
      rw [e] at hl ⊢
      constructor
      · intro h; omega
      · rintro ⟨c, hc, hc2, -⟩; exact absurd hc2 (h2 c (by omega) (by omega))
    · generalize hw : lwc cr no z.1 (nt i) n 0 = w at *
      have e : ld cr no nt n z i = (ma z.1 w, z.2 ++ [w]) := by unfold ld; rw [hw, if_neg (by omega)]
      rw [e]
      have ih := ld_ex hn q (i + 1) (ma z.1 w, z.2 ++ [w]) (ma_ok hT (by omega))
      simp only [List.length_append, List.length_singleton] at ih
      rw [show z.2.length + (q + 1) = z.2.length + 1 + q by omega, ih]
      constructor
      · intro h; exact ⟨w, by omega, ⟨h3, h4, h5⟩, h⟩
      · rintro ⟨c, hc, ⟨hc1, hc2, hc3⟩, hc4⟩
        by_cases hcw : c = w
        · subst hcw; exact hc4
        · exact ex_swap hn q (i + 1) z.1 c w hT hc (by omega) hcw hc1 h3 hc2 h4 (by omega) hc4
/-- what is told of a tune without one cow: by the class, by the reference -/
def fnd (cr no nt : Int → Int) (T0 : Int) (n m : Nat) : Int × Int × List Int := if n < m then (13, 0, []) else dd cr no nt T0 n m [] (13, 0, [])
theorem gv_fnd (hn : n ≤ 5) (hT : mok T0) (hb : ∀ x : Int, n ≤ x → x < 5 → mb T0 x = 0) : gv cr no nt n m 5 [] T0 0 (13, 0, []) = fnd cr no nt T0 n m := by
  unfold fnd
  by_cases h : n < m
  · rw [if_pos h]
    have h0 := mb_01 (c := 0) hT (by omega)
    have h1 := mb_01 (c := 1) hT (by omega)
    have h2 := mb_01 (c := 2) hT (by omega)
    have h3 := mb_01 (c := 3) hT (by omega)
    have h4 := mb_01 (c := 4) hT (by omega)
    exact gv_no hn h 5 [] T0 0 _ hT (by unfold mn; simp; omega) hb
  · rw [if_neg h]
    exact gv_dd (T0 := T0) (by omega) 5 [] (13, 0, []) (by simp) (by simp) rfl
theorem fnd_zero (hn : n ≤ 5) (hT : mok T0) (hb : ∀ x : Int, n ≤ x → x < 5 → mb T0 x = 0) : (fnd cr no nt T0 n m).1 = 0 ↔ (fo (ld cr no nt n) 0 m (T0, [])).2.length = m := by
  have hl := ld_ex (cr := cr) (no := no) (nt := nt) hn m 0 (T0, []) hT
  simp only [List.length_nil, Nat.zero_add] at hl
  rw [hl]
  unfold fnd
  by_cases h : n < m
  · rw [if_pos h]
    have hno : ∀ (q : Nat) (i T : Int), mok T → (∀ x : Int, n ≤ x → x < 5 → mb T x = 0) → (n : Int) < mn T + q → ¬ ex cr no nt n q i T := by
      intro q
      induction q with
      | zero =>
        intro i T hT hb h _
        have := mn_le (n := n) hT (by omega) hb
        omega
      | succ q ih =>
        rintro i T hT hb h ⟨c, hc, hc2, hc3⟩
        refine ih (i + 1) (ma T c) (ma_ok hT (by omega)) (fun x hx1 hx2 => ?_) ?_ hc3
        · rw [mb_ma hT (by omega) (by omega), if_neg (by omega)]; exact hb x hx1 hx2
        · rw [mn_ma hT (by omega) hc2.1]; omega
    have h0 := mb_01 (c := 0) hT (by omega)
    have h1 := mb_01 (c := 1) hT (by omega)
    have h2 := mb_01 (c := 2) hT (by omega)
    have h3 := mb_01 (c := 3) hT (by omega)
    have h4 := mb_01 (c := 4) hT (by omega)
    constructor
    · intro h; simp at h
    · intro h'; exact absurd h' (hno m 0 T0 hT hb (by unfold mn; omega))
  · rw [if_neg h]
    have := (dd_zero (cr := cr) (no := no) (nt := nt) (T0 := T0) (n := n) m [] (13, 0, []) (by simp)).2
    rw [this]
    simp [cks]
end GV
