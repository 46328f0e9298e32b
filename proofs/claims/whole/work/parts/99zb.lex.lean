/-! the tape's TOKENS: numbers alone -/
def kf (b : Int) : Int := if 97 ≤ b ∧ b ≤ 122 then 1 else if 48 ≤ b ∧ b ≤ 57 then 2 else 3
/-- behind the blanks -/
def lsk (T : Int → Int) : Nat → Int → Int
  | 0, q => q
  | m + 1, q => if T q = 32 then lsk T m (q + 1) else q
/-- behind those of one kind -/
def lrun (T : Int → Int) (k : Int) : Nat → Int → Int
  | 0, e => e
  | m + 1, e => if kf (T e) = k then lrun T k m (e + 1) else e
/-- where the TOKEN begins that is taken from q on -/
def ls (T : Int → Int) (n q : Int) : Int := lsk T (n - q).toNat q
def lk (T : Int → Int) (n q : Int) : Int := if ls T n q < n then kf (T (ls T n q)) else 0
/-- behind its end -/
def le (T : Int → Int) (n q : Int) : Int := if ls T n q < n then (if lk T n q = 3 then ls T n q + 1 else lrun T (lk T n q) (n - (ls T n q + 1)).toNat (ls T n q + 1)) else ls T n q
theorem kf_r (b : Int) : kf b = 1 ∨ kf b = 2 ∨ kf b = 3 := by
  unfold kf
  split
  · exact Or.inl rfl
  · split
    · exact Or.inr (Or.inl rfl)
    · exact Or.inr (Or.inr rfl)
theorem lsk_r (T : Int → Int) : ∀ (m : Nat) (q : Int), q ≤ lsk T m q ∧ lsk T m q ≤ q + m
  | 0, q => by simp [lsk]
  | m + 1, q => by
    have h := lsk_r T m (q + 1)
    unfold lsk
    split <;> omega
theorem lrun_r (T : Int → Int) (k : Int) : ∀ (m : Nat) (q : Int), q ≤ lrun T k m q ∧ lrun T k m q ≤ q + m
  | 0, q => by simp [lrun]
  | m + 1, q => by
    have h := lrun_r T k m (q + 1)
    unfold lrun
    split <;> omega
theorem lrun_k (T : Int → Int) (k : Int) : ∀ (m : Nat) (q i : Int), q ≤ i → i < lrun T k m q → kf (T i) = k
  | 0, q, i, h1, h2 => by simp [lrun] at h2; omega
  | m + 1, q, i, h1, h2 => by
    unfold lrun at h2
    split at h2
    · rename_i hk
      by_cases hi : i = q
      · rw [hi]; exact hk
      · exact lrun_k T k m (q + 1) i (by omega) h2
    · omega
theorem ls_r {T : Int → Int} {n q : Int} (h : q ≤ n) : q ≤ ls T n q ∧ ls T n q ≤ n := by
  have := lsk_r T (n - q).toNat q
  unfold ls; omega
theorem lk_r (T : Int → Int) (n q : Int) : (lk T n q = 0 ∧ ¬ ls T n q < n) ∨ ((lk T n q = 1 ∨ lk T n q = 2 ∨ lk T n q = 3) ∧ ls T n q < n) := by
  unfold lk
  split
  · rename_i h; exact Or.inr ⟨kf_r _, h⟩
  · rename_i h; exact Or.inl ⟨rfl, h⟩
theorem le_r {T : Int → Int} {n q : Int} (h : q ≤ n) : ls T n q ≤ le T n q ∧ le T n q ≤ n ∧ (lk T n q ≠ 0 → ls T n q < le T n q) := by
  have h1 := ls_r (T := T) h
  have h2 := lk_r T n q
  have h3 := lrun_r T (lk T n q) (n - (ls T n q + 1)).toNat (ls T n q + 1)
  unfold le
  split
  · split <;> omega
  · omega
theorem le_q {T : Int → Int} {n q : Int} (h : q ≤ n) (hk : lk T n q ≠ 0) : q < le T n q ∧ le T n q ≤ n := by
  have h1 := ls_r (T := T) h
  have h2 := le_r (T := T) h
  omega
theorem le_k {T : Int → Int} {n q i : Int} (hk : lk T n q = 1 ∨ lk T n q = 2) (h1 : ls T n q ≤ i) (h2 : i < le T n q) : kf (T i) = lk T n q := by
  have hr := lk_r T n q
  unfold le at h2
  rw [if_pos (by omega), if_neg (by omega)] at h2
  by_cases hi : i = ls T n q
  · rw [hi]; unfold lk; rw [if_pos (by omega)]
  · exact lrun_k T _ _ _ i (by omega) h2
/-- the worth of a word: at most ten letters, in base 32 -/
def wv (T : Int → Int) (s : Int) : Nat → Int
  | 0 => 0
  | j + 1 => if j < 10 then wv T s j * 32 + T (s + j) - 96 else -1
/-- the worth of digits -/
def dv (T : Int → Int) (s : Int) : Nat → Int
  | 0 => 0
  | j + 1 => if dv T s j > 1000000 then dv T s j else dv T s j * 10 + T (s + j) - 48
def lw (T : Int → Int) (n q : Int) : Int := if lk T n q = 3 then T (ls T n q) else if lk T n q = 1 then wv T (ls T n q) (le T n q - ls T n q).toNat else if lk T n q = 2 then dv T (ls T n q) (le T n q - ls T n q).toNat else 0
theorem kf1 {b : Int} (h : kf b = 1) : 97 ≤ b ∧ b ≤ 122 := by
  unfold kf at h
  split at h
  · assumption
  · split at h <;> omega
theorem kf2 {b : Int} (h : kf b = 2) : 48 ≤ b ∧ b ≤ 57 := by
  unfold kf at h
  split at h
  · omega
  · split at h
    · assumption
    · omega
theorem dv_mono {T : Int → Int} {s : Int} : ∀ (m j : Nat), (∀ i : Nat, i < m → 48 ≤ T (s + i)) → j ≤ m → 0 ≤ dv T s j ∧ dv T s j ≤ dv T s m
  | 0, j, _, hj => by
    obtain rfl : j = 0 := by omega
    simp [dv]
  | m + 1, j, h, hj => by
    have h0 := dv_mono m m (fun i hi => h i (by omega)) (Nat.le_refl _)
    have hm := h m (by omega)
    have hs : dv T s m ≤ dv T s (m + 1) := by
      show _ ≤ (if dv T s m > 1000000 then dv T s m else dv T s m * 10 + T (s + m) - 48)
      split <;> omega
    by_cases hjm : j = m + 1
    · subst hjm; omega
    · have := dv_mono m j (fun i hi => h i (by omega)) (by omega)
      omega
/-- the same letters -/
def sw (T : Int → Int) (e : Int) : Int → List Int → Bool
  | s, [] => decide (s = e)
  | s, c :: r => decide (s < e) && (decide (T s = c) && sw T e (s + 1) r)
theorem sw_nil {T : Int → Int} {e s : Int} : sw T e s [] = true ↔ s = e := by simp [sw]
theorem sw_cons {T : Int → Int} {e s c : Int} {r : List Int} : sw T e s (c :: r) = true ↔ s < e ∧ T s = c ∧ sw T e (s + 1) r = true := by simp [sw]
def enc (w : List Int) : Int := w.foldl (fun a c => a * 32 + c - 96) 0
theorem enc_snoc (u : List Int) (c : Int) : enc (u ++ [c]) = enc u * 32 + c - 96 := by simp [enc]
theorem sw_le {T : Int → Int} {e : Int} : ∀ (r : List Int) (s : Int), sw T e s r → s + r.length = e
  | [], s, h => by rw [sw_nil] at h; simp; omega
  | c :: r, s, h => by
    rw [sw_cons] at h
    have := sw_le r (s + 1) h.2.2
    simp; omega
theorem sw_snoc {T : Int → Int} : ∀ (u : List Int) (c s e : Int), sw T e s (u ++ [c]) ↔ s < e ∧ T (e - 1) = c ∧ sw T (e - 1) s u
  | [], c, s, e => by
    simp only [List.nil_append, sw_nil, sw_cons]
    constructor
    · rintro ⟨h1, h2, h3⟩
      have : s = e - 1 := by omega
      subst this
      exact ⟨by omega, h2, rfl⟩
    · rintro ⟨h1, h2, rfl⟩
      exact ⟨h1, h2, by omega⟩
  | b :: u, c, s, e => by
    simp only [List.cons_append, sw_cons]
    rw [sw_snoc u c (s + 1) e]
    constructor
    · rintro ⟨h1, h2, h3, h4, h5⟩
      exact ⟨h1, h4, by omega, h2, h5⟩
    · rintro ⟨h1, h2, h3, h4, h5⟩
      refine ⟨h1, h4, ?_, h2, h5⟩
      have := sw_le u (s + 1) h5
      omega
theorem rev_ind {C : List Int → Prop} (h0 : C []) (h1 : ∀ u c, C u → C (u ++ [c])) (w : List Int) : C w := by
  have h : ∀ v : List Int, C v.reverse := by
    intro v
    induction v with
    | nil => exact h0
    | cons a v ih => rw [List.reverse_cons]; exact h1 _ _ ih
  have := h w.reverse
  rwa [List.reverse_reverse] at this
theorem enc_nn (w : List Int) (h : ∀ c ∈ w, 97 ≤ c ∧ c ≤ 122) : 0 ≤ enc w ∧ (w ≠ [] → 1 ≤ enc w) := by
  induction w using rev_ind with
  | h0 => simp [enc]
  | h1 u c ih =>
    have h1 := ih (fun x hx => h x (by simp [hx]))
    have h2 := h c (by simp)
    rw [enc_snoc]
    omega
theorem wv_nn {T : Int → Int} {s : Int} : ∀ (m : Nat), (∀ i : Nat, i < m → 97 ≤ T (s + i) ∧ T (s + i) ≤ 122) → (m ≤ 10 → 0 ≤ wv T s m) ∧ (m ≠ 0 → wv T s m ≠ 0)
  | 0, _ => by simp [wv]
  | m + 1, h => by
    have h0 := wv_nn m (fun i hi => h i (by omega))
    have hm := h m (by omega)
    unfold wv
    split
    · have := h0.1 (by omega)
      omega
    · omega
theorem sw_enc {T : Int → Int} {s : Int} (w : List Int) : (∀ c ∈ w, 97 ≤ c ∧ c ≤ 122) → w.length ≤ 10 → ∀ (m : Nat), (∀ i : Nat, i < m → 97 ≤ T (s + i) ∧ T (s + i) ≤ 122) → (sw T (s + m) s w ↔ wv T s m = enc w) := by
  induction w using rev_ind with
  | h0 =>
    intro _ _ m h
    have hn := wv_nn m h
    cases m with
    | zero => simp [sw_nil, wv, enc]
    | succ m =>
      have := hn.2 (by omega)
      simp only [sw_nil, enc, List.foldl_nil]
      constructor
      · intro h'; omega
      · intro h'; exact absurd h' this
  | h1 u c ih =>
    intro hw hl m h
    have hc := hw c (by simp)
    have hu := enc_nn u (fun x hx => hw x (by simp [hx]))
    have hl' : u.length + 1 ≤ 10 := by simpa using hl
    rw [enc_snoc, sw_snoc]
    cases m with
    | zero =>
      simp only [wv]
      constructor
      · rintro ⟨h1, -⟩; omega
      · intro h'; omega
    | succ m =>
      have hm := h m (by omega)
      have i1 := ih (fun x hx => hw x (by simp [hx])) (by omega) m (fun i hi => h i (by omega))
      have e1 : s + ((m + 1 : Nat) : Int) - 1 = s + m := by omega
      rw [e1, i1]
      have hn := wv_nn m (fun i hi => h i (by omega))
      show _ ↔ (if m < 10 then wv T s m * 32 + T (s + m) - 96 else -1) = _
      split
      · rename_i hm10
        have := hn.1 (by omega)
        constructor
        · rintro ⟨h1, h2, h3⟩; omega
        · intro h'; omega
      · rename_i hm10
        constructor
        · rintro ⟨h1, h2, h3⟩
          have := sw_le u s (i1.mpr h3)
          omega
        · intro h'; omega
/-- a word of at most ten letters, by its worth -/
theorem sw_lw {T : Int → Int} {n q : Int} (hq : q ≤ n) (hk : lk T n q = 1) (w : List Int) (hw : ∀ c ∈ w, 97 ≤ c ∧ c ≤ 122) (hl : w.length ≤ 10) : sw T (le T n q) (ls T n q) w ↔ lw T n q = enc w := by
  have h1 := le_r (T := T) hq
  have e : lw T n q = wv T (ls T n q) (le T n q - ls T n q).toNat := by
    unfold lw; rw [if_neg (by omega), if_pos hk]
  have hle : le T n q = ls T n q + ((le T n q - ls T n q).toNat : Nat) := by omega
  rw [e, ← sw_enc w hw hl _ (fun i hi => kf1 (by rw [le_k (Or.inl hk) (by omega) (by omega)]; exact hk)), ← hle]
/-- which of some words -/
def wix (T : Int → Int) (s e : Int) : List (List Int) → Int → Int
  | [], _ => -1
  | w :: W, i => if sw T e s w then i else wix T s e W (i + 1)
/-- the walk over a row of words, a blank behind each -/
def wwk (T : Int → Int) (s e k1 : Int) : List Int → Int → Int → Int → Int
  | [], _, _, _ => -1
  | c :: r, wh, at0, sm => if c ≠ 32 then wwk T s e k1 r wh (at0 + 1) (if sm ≠ 0 ∧ at0 < e ∧ T at0 = c then 1 else 0) else if sm ≠ 0 ∧ at0 = e then wh else wwk T s e k1 r (wh + 1) s k1
theorem wwk_w {T : Int → Int} {s e k1 : Int} (r : List Int) : ∀ (w : List Int) (wh at0 sm : Int), (∀ c ∈ w, 97 ≤ c ∧ c ≤ 122) → wwk T s e k1 (w ++ 32 :: r) wh at0 sm = if sm ≠ 0 ∧ sw T e at0 w then wh else wwk T s e k1 r (wh + 1) s k1
  | [], wh, at0, sm, _ => by
    simp only [List.nil_append, wwk, sw_nil]
    rw [if_neg (by simp)]
  | c :: w, wh, at0, sm, h => by
    have hc := h c (by simp)
    have ih := wwk_w (T := T) (s := s) (e := e) (k1 := k1) r w wh (at0 + 1) (if sm ≠ 0 ∧ at0 < e ∧ T at0 = c then 1 else 0) (fun x hx => h x (by simp [hx]))
    simp only [List.cons_append, wwk, sw_cons]
    rw [if_pos (by omega), ih]
    by_cases h1 : sm ≠ 0 ∧ at0 < e ∧ T at0 = c
    · rw [if_pos h1]
      by_cases h2 : sw T e (at0 + 1) w
      · rw [if_pos ⟨by omega, h2⟩, if_pos ⟨h1.1, h1.2.1, h1.2.2, h2⟩]
      · rw [if_neg (fun h' => h2 h'.2), if_neg (fun h' => h2 h'.2.2.2)]
    · rw [if_neg h1, if_neg (by simp), if_neg (fun h' => h1 ⟨h'.1, h'.2.1, h'.2.2.1⟩)]
theorem wwk_W {T : Int → Int} {s e k1 : Int} : ∀ (W : List (List Int)) (i : Int), (∀ w ∈ W, ∀ c ∈ w, 97 ≤ c ∧ c ≤ 122) → wwk T s e k1 (W.flatMap (fun w => w ++ [32])) i s k1 = if k1 ≠ 0 then wix T s e W i else -1
  | [], i, _ => by simp [wwk, wix]
  | w :: W, i, h => by
    have ih := wwk_W (T := T) (s := s) (e := e) (k1 := k1) W (i + 1) (fun w hw => h w (by simp [hw]))
    have e1 : (w :: W).flatMap (fun w => w ++ [32]) = w ++ 32 :: W.flatMap (fun w => w ++ [32]) := by simp
    rw [e1, wwk_w _ w i s k1 (h w (by simp)), ih]
    have e2 : wix T s e (w :: W) i = if sw T e s w then i else wix T s e W (i + 1) := rfl
    rw [e2]
    by_cases hk : k1 ≠ 0
    · simp [hk]
    · simp [hk]
/-- which of some words, by their worths -/
def win (v : Int) : List (List Int) → Int → Int
  | [], _ => -1
  | w :: W, i => if v = enc w then i else win v W (i + 1)
theorem wix_win {T : Int → Int} {n q : Int} (hq : q ≤ n) (hk : lk T n q = 1) : ∀ (W : List (List Int)) (i : Int), (∀ w ∈ W, (∀ c ∈ w, 97 ≤ c ∧ c ≤ 122) ∧ w.length ≤ 10) → wix T (ls T n q) (le T n q) W i = win (lw T n q) W i
  | [], i, _ => rfl
  | w :: W, i, h => by
    have ih := wix_win hq hk W (i + 1) (fun w hw => h w (by simp [hw]))
    have hw := h w (by simp)
    have e := sw_lw hq hk w hw.1 hw.2
    have e2 : wix T (ls T n q) (le T n q) (w :: W) i = if sw T (le T n q) (ls T n q) w then i else wix T (ls T n q) (le T n q) W (i + 1) := rfl
    have e3 : win (lw T n q) (w :: W) i = if lw T n q = enc w then i else win (lw T n q) W (i + 1) := rfl
    rw [e2, e3, ih]
    by_cases h1 : sw T (le T n q) (ls T n q) w
    · rw [if_pos h1, if_pos (e.mp h1)]
    · rw [if_neg h1, if_neg (fun h' => h1 (e.mpr h'))]
