/-! what the code of a law comes to: numbers alone -/
def jo (k a b : Int) : Int := if k = 0 then a + b else if k = 1 then a - b else if k = 2 then a * b else if k = 3 then (if b = 0 then 0 else Int.tdiv a b) else if k = 4 then (if a < b then 1 else 0) else if k = 5 then (if b < a then 1 else 0) else if a = b then 1 else 0
/-- two numbers joined; none: broken -/
def bst (k a b : Int) : Option Int := if k = 3 ∧ b = 0 then none else if -1000000000 ≤ jo k a b ∧ jo k a b ≤ 1000000000 then some (jo k a b) else none
/-- run from z to the place b: none: a crash, or not yet there; some none: broken -/
def go (s : Int × List Int → Option (Option (Int × List Int))) (b : Int) : Nat → Int × List Int → Option (Option (Int × List Int))
  | 0, z => if z.1 < b then none else some (some z)
  | n + 1, z => if z.1 < b then (match s z with
    | none => none
    | some none => some none
    | some (some z') => go s b n z') else some (some z)
/-- the piece from a to b puts a number on the stack, or is broken -/
def Sg (s : Int × List Int → Option (Option (Int × List Int))) (lv : Nat) (a b : Int) (V : Option Int) : Prop := a < b ∧ ∀ st : List Int, st.length + lv ≤ 64 → (∀ v ∈ st, -1000000000 ≤ v ∧ v ≤ 1000000000) → ∃ n, go s b n (a, st) = some (V.map (fun v => (b, v :: st)))
theorem go_end {s : Int × List Int → Option (Option (Int × List Int))} {b : Int} {n : Nat} {z : Int × List Int} (h : ¬ z.1 < b) : go s b n z = some (some z) := by
  cases n <;> (unfold go; rw [if_neg h])
/-- two pieces, one behind the other -/
theorem go_app {s : Int × List Int → Option (Option (Int × List Int))} {b c : Int} (hbc : b ≤ c) : ∀ (n : Nat) (z z' : Int × List Int) (m : Nat), go s b n z = some (some z') → (∃ k, go s c k z = go s c m z')
  | 0, z, z', m, h => by
    unfold go at h
    split at h
    · simp at h
    · simp at h; subst h; exact ⟨m, rfl⟩
  | n + 1, z, z', m, h => by
    unfold go at h
    by_cases hz : z.1 < b
    · rw [if_pos hz] at h
      cases hs : s z with
      | none => rw [hs] at h; simp at h
      | some o =>
        cases o with
        | none => rw [hs] at h; simp at h
        | some w =>
          rw [hs] at h
          obtain ⟨k, hk⟩ := go_app hbc n w z' m h
          refine ⟨k + 1, ?_⟩
          show (if z.1 < c then _ else _) = _
          rw [if_pos (by omega), hs]
          exact hk
    · rw [if_neg hz] at h
      simp at h
      subst h
      exact ⟨m, rfl⟩
theorem go_brk {s : Int × List Int → Option (Option (Int × List Int))} {b c : Int} (hbc : b ≤ c) : ∀ (n : Nat) (z : Int × List Int), go s b n z = some none → go s c n z = some none
  | 0, z, h => by
    unfold go at h
    split at h <;> simp at h
  | n + 1, z, h => by
    unfold go at h
    by_cases hz : z.1 < b
    · rw [if_pos hz] at h
      unfold go
      rw [if_pos (by omega)]
      cases hs : s z with
      | none => rw [hs] at h; simp at h
      | some o =>
        cases o with
        | none => rfl
        | some w =>
          rw [hs] at h
          exact go_brk hbc n w h
    · rw [if_neg hz] at h
      simp at h
/-- one step -/
theorem go_step {s : Int × List Int → Option (Option (Int × List Int))} {b : Int} {z w : Int × List Int} {n : Nat} (h : z.1 < b) (hs : s z = some (some w)) : go s b (n + 1) z = go s b n w := by
  show (if z.1 < b then _ else _) = _
  rw [if_pos h, hs]
theorem go_stepb {s : Int × List Int → Option (Option (Int × List Int))} {b : Int} {z : Int × List Int} {n : Nat} (h : z.1 < b) (hs : s z = some none) : go s b (n + 1) z = some none := by
  show (if z.1 < b then _ else _) = _
  rw [if_pos h, hs]
/-- more steps than needed do no harm -/
theorem go_mono {s : Int × List Int → Option (Option (Int × List Int))} {b : Int} : ∀ (n : Nat) (z : Int × List Int) (o : Option (Int × List Int)) (m : Nat), go s b n z = some o → n ≤ m → go s b m z = some o
  | 0, z, o, m, h, _ => by
    unfold go at h
    split at h
    · simp at h
    · rename_i hz; rw [go_end hz]; exact h
  | n + 1, z, o, 0, h, hm => by omega
  | n + 1, z, o, m + 1, h, hm => by
    unfold go at h ⊢
    by_cases hz : z.1 < b
    · rw [if_pos hz] at h ⊢
      cases hs : s z with
      | none => rw [hs] at h; simp at h
      | some w =>
        cases w with
        | none => rw [hs] at h; exact h
        | some w =>
          rw [hs] at h
          exact go_mono n w o m h (by omega)
    · rw [if_neg hz] at h ⊢; exact h
/-- only the places from a on below b are looked at, if steps go forward -/
theorem go_congr {s s' : Int × List Int → Option (Option (Int × List Int))} {a b : Int} (he : ∀ z, a ≤ z.1 → z.1 < b → s z = s' z) (hf : ∀ z w, s z = some (some w) → z.1 < w.1) : ∀ (n : Nat) (z : Int × List Int), a ≤ z.1 → go s b n z = go s' b n z
  | 0, z, _ => rfl
  | n + 1, z, hz => by
    unfold go
    by_cases h : z.1 < b
    · rw [if_pos h, if_pos h, ← he z hz h]
      cases hs : s z with
      | none => rfl
      | some w =>
        cases w with
        | none => rfl
        | some w =>
          have := hf z w hs
          exact go_congr he hf n w (by omega)
    · rw [if_neg h, if_neg h]
theorem Sg.congr {s s' : Int × List Int → Option (Option (Int × List Int))} {lv : Nat} {a b : Int} {V : Option Int} (h : Sg s lv a b V) (he : ∀ z, a ≤ z.1 → z.1 < b → s z = s' z) (hf : ∀ z w, s z = some (some w) → z.1 < w.1) : Sg s' lv a b V := by
  refine ⟨h.1, fun st hl hv => ?_⟩
  obtain ⟨n, hn⟩ := h.2 st hl hv
  exact ⟨n, by rw [← go_congr he hf n (a, st) (Int.le_refl _)]; exact hn⟩
def okv (V : Option Int) : Prop := ∀ v, V = some v → -1000000000 ≤ v ∧ v ≤ 1000000000
/-- a number, or what a word stands for -/
theorem Sg.leaf {s : Int × List Int → Option (Option (Int × List Int))} {a v : Int} (h : ∀ st : List Int, st.length + 1 ≤ 64 → s (a, st) = some (some (a + 1, v :: st))) : Sg s 1 a (a + 1) (some v) := by
  refine ⟨by omega, fun st hl _ => ⟨1, ?_⟩⟩
  rw [go_step (by simp; omega) (h st hl), go_end (by simp)]
  rfl
/-- two pieces and what joins them -/
theorem Sg.bin {s : Int × List Int → Option (Option (Int × List Int))} {l1 l2 : Nat} {a b c k : Int} {V W : Option Int} (h1 : Sg s l1 a b V) (h2 : Sg s l2 b c W) (hl1 : 1 ≤ l1) (hV : okv V) (h : ∀ x y st, s (c, y :: x :: st) = some ((bst k x y).map (fun v => (c + 1, v :: st)))) : Sg s (l1 + l2) a (c + 1) (V.bind (fun x => W.bind (fun y => bst k x y))) := by
  have q1 := h1.1
  have q2 := h2.1
  refine ⟨by omega, fun st hl hv => ?_⟩
  obtain ⟨n1, hn1⟩ := h1.2 st (by omega) hv
  cases hVV : V with
  | none =>
    rw [hVV] at hn1
    exact ⟨n1, go_brk (by omega) n1 _ hn1⟩
  | some x =>
    rw [hVV] at hn1
    simp only [Option.map_some] at hn1
    obtain ⟨n2, hn2⟩ := h2.2 (x :: st) (by simp; omega) (fun v hm => by
      rw [List.mem_cons] at hm
      rcases hm with rfl | hm
      · exact hV _ hVV
      · exact hv v hm)
    cases hWW : W with
    | none =>
      rw [hWW] at hn2
      obtain ⟨n3, hn3⟩ := go_app (c := c + 1) (by omega) n1 _ _ n2 hn1
      exact ⟨n3, by rw [hn3]; exact go_brk (by omega) n2 _ hn2⟩
    | some y =>
      rw [hWW] at hn2
      simp only [Option.map_some] at hn2
      have hs := h x y st
      obtain ⟨n4, hn4⟩ := go_app (c := c + 1) (by omega) n2 _ _ 1 hn2
      obtain ⟨n3, hn3⟩ := go_app (c := c + 1) (by omega) n1 _ _ n4 hn1
      refine ⟨n3, ?_⟩
      rw [hn3, hn4]
      simp only [Option.bind_some]
      cases hb : bst k x y with
      | none => rw [hb] at hs; exact go_stepb (by simp; omega) hs
      | some v =>
        rw [hb] at hs
        rw [go_step (by simp; omega) hs, go_end (by simp)]
        rfl
def b01 (V : Option Int) : Prop := ∀ v, V = some v → v = 0 ∨ v = 1
/-- not -/
theorem Sg.neg {s : Int × List Int → Option (Option (Int × List Int))} {l1 : Nat} {a b : Int} {V : Option Int} (h1 : Sg s l1 a b V) (h : ∀ x st, (x = 0 ∨ x = 1) → s (b, x :: st) = some (some (b + 1, (1 - x) :: st))) (hV : b01 V) : Sg s l1 a (b + 1) (V.map (fun x => 1 - x)) := by
  have q1 := h1.1
  refine ⟨by omega, fun st hl hv => ?_⟩
  obtain ⟨n1, hn1⟩ := h1.2 st hl hv
  cases hVV : V with
  | none => rw [hVV] at hn1; exact ⟨n1, go_brk (by omega) n1 _ hn1⟩
  | some x =>
    rw [hVV] at hn1
    simp only [Option.map_some] at hn1
    obtain ⟨n3, hn3⟩ := go_app (c := b + 1) (by omega) n1 _ _ 1 hn1
    refine ⟨n3, ?_⟩
    rw [hn3, go_step (by simp; omega) (h x st (hV x hVV)), go_end (by simp)]
    rfl
/-- and (e = 0), or (e = 1): if the first is e, the second is passed over -/
def aov (e : Int) (V W : Option Int) : Option Int := V.bind (fun x => if x = e then some x else W)
theorem Sg.ao {s : Int × List Int → Option (Option (Int × List Int))} {l1 l2 : Nat} {a b c e : Int} {V W : Option Int} (h1 : Sg s l1 a b V) (h2 : Sg s l2 (b + 1) c W) (hV : b01 V) (he : ∀ st, s (b, e :: st) = some (some (c, e :: st))) (hn : ∀ x st, (x = 0 ∨ x = 1) → x ≠ e → s (b, x :: st) = some (some (b + 1, st))) : Sg s (l1 + l2) a c (aov e V W) := by
  have q1 := h1.1
  have q2 := h2.1
  refine ⟨by omega, fun st hl hv => ?_⟩
  obtain ⟨n1, hn1⟩ := h1.2 st (by omega) hv
  unfold aov
  cases hVV : V with
  | none => rw [hVV] at hn1; exact ⟨n1, go_brk (by omega) n1 _ hn1⟩
  | some x =>
    rw [hVV] at hn1
    simp only [Option.map_some] at hn1
    simp only [Option.bind_some]
    by_cases hxe : x = e
    · subst hxe
      rw [if_pos rfl]
      obtain ⟨n3, hn3⟩ := go_app (c := c) (by omega) n1 _ _ 1 hn1
      refine ⟨n3, ?_⟩
      rw [hn3, go_step (by simp; omega) (he st), go_end (by simp)]
      rfl
    · rw [if_neg hxe]
      obtain ⟨n2, hn2⟩ := h2.2 st (by omega) hv
      obtain ⟨n3, hn3⟩ := go_app (c := c) (by omega) n1 _ _ (n2 + 1) hn1
      refine ⟨n3, ?_⟩
      rw [hn3, go_step (by simp; omega) (hn x st (hV x hVV) hxe)]
      exact hn2
/-- a step of the class: the code C, what is known -/
def sB (C kn : Int → Int) (z : Int × List Int) : Option (Option (Int × List Int)) :=
  if sm_and (C z.1) 15 = 0 then (if z.2.length < 64 then some (some (z.1 + 1, sm_shr (C z.1) 4 :: z.2)) else some none)
  else if sm_and (C z.1) 15 = 1 then (if z.2.length < 64 then some (some (z.1 + 1, (if 0 ≤ sm_shr (C z.1) 4 ∧ sm_shr (C z.1) 4 < 10 then kn (sm_shr (C z.1) 4) else 0) :: z.2)) else some none)
  else if sm_and (C z.1) 15 = 10 ∨ sm_and (C z.1) 15 = 11 then (match z.2 with
    | [] => some none
    | x :: st => if (x ≠ 0) ↔ sm_and (C z.1) 15 = 11 then some (some ((if z.1 < sm_shr (C z.1) 4 - 1 then sm_shr (C z.1) 4 - 1 else z.1) + 1, x :: st)) else some (some (z.1 + 1, st)))
  else if sm_and (C z.1) 15 = 9 then (match z.2 with
    | [] => some none
    | x :: st => some (some (z.1 + 1, (1 - x) :: st)))
  else (match z.2 with
    | y :: x :: st => some ((bst (sm_and (C z.1) 15 - 2) x y).map (fun v => (z.1 + 1, v :: st)))
    | _ => some none)
/-- a step of the reference: its row r, the law's place, what is set -/
def sR (r : Int → Int) (lw : Int) (se : Int → Int) (z : Int × List Int) : Option (Option (Int × List Int)) :=
  if z.2.length ≤ 399 ∧ 0 ≤ z.1 ∧ z.1 < 400 then (
  if r (lw + 98 + 2 * z.1) < 20 then (if 0 ≤ r (lw + 98 + 2 * z.1) ∧ r (lw + 98 + 2 * z.1) < 11 then some (some (z.1 + 1, (if r (lw + 98 + 2 * z.1) = 0 then r (lw + 98 + 2 * z.1 + 1) else se (r (lw + 98 + 2 * z.1))) :: z.2)) else none)
  else if r (lw + 98 + 2 * z.1) < 27 then (match z.2 with
    | y :: x :: st => some ((bst (r (lw + 98 + 2 * z.1) - 20) x y).map (fun v => (z.1 + 1, v :: st)))
    | _ => none)
  else if r (lw + 98 + 2 * z.1) = 27 then (match z.2 with
    | [] => none
    | x :: st => some (some (z.1 + 1, (1 - x) :: st)))
  else (match z.2 with
    | [] => none
    | x :: st => if x = (if r (lw + 98 + 2 * z.1) = 28 then 0 else 1) then (if z.1 < r (lw + 98 + 2 * z.1 + 1) then some (some (r (lw + 98 + 2 * z.1 + 1), x :: st)) else none) else some (some (z.1 + 1, st)))) else none
theorem sB_fwd {C kn : Int → Int} (z w : Int × List Int) (h : sB C kn z = some (some w)) : z.1 < w.1 := by
  unfold sB at h
  split at h
  · split at h
    · simp at h; rw [← h]; simp; omega
    · simp at h
  split at h
  · split at h
    · simp at h; rw [← h]; simp; omega
    · simp at h
  split at h
  · split at h
    · simp at h
    · split at h
      · simp at h; rw [← h]; simp; split <;> omega
      · simp at h; rw [← h]; simp; omega
  split at h
  · split at h
    · simp at h
    · simp at h; rw [← h]; simp; omega
  · split at h
    · simp at h; obtain ⟨v, -, rfl⟩ := h; simp; omega
    · simp at h
theorem sR_fwd {r se : Int → Int} {lw : Int} (z w : Int × List Int) (h : sR r lw se z = some (some w)) : z.1 < w.1 := by
  unfold sR at h
  split at h
  · split at h
    · split at h
      · simp at h; rw [← h]; simp; omega
      · simp at h
    split at h
    · split at h
      · simp at h; obtain ⟨v, -, rfl⟩ := h; simp; omega
      · simp at h
    split at h
    · split at h
      · simp at h
      · simp at h; rw [← h]; simp; omega
    · split at h
      · simp at h
      · repeat' split at h
        all_goals first
          | (simp at h; done)
          | (simp at h; obtain ⟨h1, h2⟩ := h; rw [← h2]; simp; omega)
          | (simp at h; rw [← h]; simp; omega)
  · simp at h
/-- what a law tells of a head: cl clauses, of each the head, sum and test (some 1 without a test); the last that holds -/
def tl (hd : Nat → Int) (Vs Vt : Nat → Option Int) (h : Int) : Nat → Option Int
  | 0 => none
  | i + 1 => if hd i = h ∧ (∃ v, Vt i = some v ∧ v ≠ 0) ∧ (h < 3 → (Vs i).isSome) then (if h < 3 then Vs i else some 0) else tl hd Vs Vt h i
