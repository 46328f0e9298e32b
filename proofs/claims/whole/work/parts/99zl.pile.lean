/-! the reference's pile: numbers alone -/
/-- a step over the parser's own two rows of code -/
def sN (O A : Int → Int) (se : Int → Int) (z : Int × List Int) : Option (Option (Int × List Int)) :=
  if z.2.length ≤ 399 ∧ 0 ≤ z.1 ∧ z.1 < 400 then (
  if O z.1 < 20 then (if 0 ≤ O z.1 ∧ O z.1 < 11 then some (some (z.1 + 1, (if O z.1 = 0 then A z.1 else se (O z.1)) :: z.2)) else none)
  else if O z.1 < 27 then (match z.2 with
    | y :: x :: st => some ((bst (O z.1 - 20) x y).map (fun v => (z.1 + 1, v :: st)))
    | _ => none)
  else if O z.1 = 27 then (match z.2 with
    | [] => none
    | x :: st => some (some (z.1 + 1, (1 - x) :: st)))
  else (match z.2 with
    | [] => none
    | x :: st => if x = (if O z.1 = 28 then 0 else 1) then (if z.1 < A z.1 then some (some (A z.1, x :: st)) else none) else some (some (z.1 + 1, st)))) else none
theorem sR_sN (r : Int → Int) (lw0 : Int) : sR r lw0 = sN (fun i => r (lw0 + 98 + 2 * i)) (fun i => r (lw0 + 98 + 2 * i + 1)) := rfl
/-- the reference's steps, of what is known -/
def stN (O A : Int → Int) : Stq := fun kn => sN O A (fun j => kn (j - 1))
theorem sN_fwd {O A se : Int → Int} (z w : Int × List Int) (h : sN O A se z = some (some w)) : z.1 < w.1 := by
  unfold sN at h
  split at h
  · split at h
    · split at h
      · simp at h; rw [← h]; simp; omega
      · simp at h
    · split at h
      · split at h
        · simp at h; obtain ⟨v, -, rfl⟩ := h; simp; omega
        · simp at h
      · split at h
        · split at h
          · simp at h
          · simp at h; rw [← h]; simp; omega
        · repeat' split at h
          all_goals first
            | (simp at h; done)
            | (simp at h; obtain ⟨h1, h2⟩ := h; rw [← h2]; simp; omega)
            | (simp at h; rw [← h]; simp; omega)
  · simp at h
theorem sN_eq {O A O' A' se : Int → Int} {z : Int × List Int} (h : O' z.1 = O z.1) (h' : A' z.1 = A z.1) : sN O A se z = sN O' A' se z := by
  unfold sN
  rw [h, h']
theorem PzN.congr {O A O' A' : Int → Int} {l : Nat} {a b : Int} {V : Vl} (h : Pz (stN O A) l a b V) (he : ∀ i, a ≤ i → i < b → O' i = O i ∧ A' i = A i) : Pz (stN O' A') l a b V := h.congr (fun kn z z1 z2 => sN_eq (he z.1 z1 z2).1 (he z.1 z1 z2).2) (fun kn z w => sN_fwd z w)
theorem Sg.bin2 {s : Int × List Int → Option (Option (Int × List Int))} {l1 l2 : Nat} {a b c k : Int} {V W : Option Int} (h1 : Sg s l1 a b V) (h2 : Sg s l2 b c W) (hl1 : 1 ≤ l1) (hV : okv V) (h : ∀ x y st, st.length ≤ 64 → s (c, y :: x :: st) = some ((bst k x y).map (fun v => (c + 1, v :: st)))) : Sg s (l1 + l2) a (c + 1) (V.bind (fun x => W.bind (fun y => bst k x y))) := by
  have q1 := h1.1
  have q2 := h2.1
  refine ⟨by omega, fun st hl hv => ?_⟩
  obtain ⟨n1, hn1⟩ := h1.2 st (by omega) hv
  cases hVV : V with
  | none =>
    rw [hVV] at hn1
    exact ⟨n1, go_brk (by omega) n1 _ hn1⟩
  | some x =>
    rw [hVV] at hn1
    simp only [Option.map_some] at hn1
    obtain ⟨n2, hn2⟩ := h2.2 (x :: st) (by simp; omega) (fun v hm => by
      rw [List.mem_cons] at hm
      rcases hm with rfl | hm
      · exact hV _ hVV
      · exact hv v hm)
    cases hWW : W with
    | none =>
      rw [hWW] at hn2
      obtain ⟨n3, hn3⟩ := go_app (c := c + 1) (by omega) n1 _ _ n2 hn1
      exact ⟨n3, by rw [hn3]; exact go_brk (by omega) n2 _ hn2⟩
    | some y =>
      rw [hWW] at hn2
      simp only [Option.map_some] at hn2
      have hs := h x y st (by omega)
      obtain ⟨n4, hn4⟩ := go_app (c := c + 1) (by omega) n2 _ _ 1 hn2
      obtain ⟨n3, hn3⟩ := go_app (c := c + 1) (by omega) n1 _ _ n4 hn1
      refine ⟨n3, ?_⟩
      rw [hn3, hn4]
      simp only [Option.bind_some]
      cases hb : bst k x y with
      | none => rw [hb] at hs; exact go_stepb (by simp; omega) hs
      | some v =>
        rw [hb] at hs
        rw [go_step (by simp; omega) hs, go_end (by simp)]
        rfl
theorem Sg.neg2 {s : Int × List Int → Option (Option (Int × List Int))} {l1 : Nat} {a b : Int} {V : Option Int} (h1 : Sg s l1 a b V) (h : ∀ x st, (x = 0 ∨ x = 1) → st.length ≤ 64 → s (b, x :: st) = some (some (b + 1, (1 - x) :: st))) (hV : b01 V) : Sg s l1 a (b + 1) (V.map (fun x => 1 - x)) := by
  have q1 := h1.1
  refine ⟨by omega, fun st hl hv => ?_⟩
  obtain ⟨n1, hn1⟩ := h1.2 st hl hv
  cases hVV : V with
  | none => rw [hVV] at hn1; exact ⟨n1, go_brk (by omega) n1 _ hn1⟩
  | some x =>
    rw [hVV] at hn1
    simp only [Option.map_some] at hn1
    obtain ⟨n3, hn3⟩ := go_app (c := b + 1) (by omega) n1 _ _ 1 hn1
    refine ⟨n3, ?_⟩
    rw [hn3, go_step (by simp; omega) (h x st (hV x hVV) (by omega)), go_end (by simp)]
    rfl
theorem Sg.ao2 {s : Int × List Int → Option (Option (Int × List Int))} {l1 l2 : Nat} {a b c e : Int} {V W : Option Int} (h1 : Sg s l1 a b V) (h2 : Sg s l2 (b + 1) c W) (hV : b01 V) (he : ∀ st, st.length ≤ 64 → s (b, e :: st) = some (some (c, e :: st))) (hn : ∀ x st, (x = 0 ∨ x = 1) → x ≠ e → st.length ≤ 64 → s (b, x :: st) = some (some (b + 1, st))) : Sg s (l1 + l2) a c (aov e V W) := by
  have q1 := h1.1
  have q2 := h2.1
  refine ⟨by omega, fun st hl hv => ?_⟩
  obtain ⟨n1, hn1⟩ := h1.2 st (by omega) hv
  unfold aov
  cases hVV : V with
  | none => rw [hVV] at hn1; exact ⟨n1, go_brk (by omega) n1 _ hn1⟩
  | some x =>
    rw [hVV] at hn1
    simp only [Option.map_some] at hn1
    simp only [Option.bind_some]
    by_cases hxe : x = e
    · subst hxe
      rw [if_pos rfl]
      obtain ⟨n3, hn3⟩ := go_app (c := c) (by omega) n1 _ _ 1 hn1
      refine ⟨n3, ?_⟩
      rw [hn3, go_step (by simp; omega) (he st (by omega)), go_end (by simp)]
      rfl
    · rw [if_neg hxe]
      obtain ⟨n2, hn2⟩ := h2.2 st (by omega) hv
      obtain ⟨n3, hn3⟩ := go_app (c := c) (by omega) n1 _ _ (n2 + 1) hn1
      refine ⟨n3, ?_⟩
      rw [hn3, go_step (by simp; omega) (hn x st (hV x hVV) hxe (by omega))]
      exact hn2
/-- what binds how strongly -/
def bnd (op : Int) : Int := if 30 ≤ op then 0 else if op = 29 then 1 else if op = 28 then 2 else if op = 27 then 3 else if 24 ≤ op then 4 else if 22 ≤ op then 6 else 5
/-- what waits on the pile (the top first), with the pieces of code before it: from c0 on, the last piece begins at cb; F: what all comes to, of what that last piece comes to -/
def Ctx (O A : Int → Int) : List (Int × Int) → Int → Int → (Vl → Vl) → Nat → Bool → Bool → Prop
  | [], c0, cb, F, l, ti, to => cb = c0 ∧ F = id ∧ l = 0 ∧ ti = to
  | x :: r, c0, cb, F, l, ti, to => ∃ (cb' : Int) (F' : Vl → Vl) (l' : Nat) (ti' : Bool), Ctx O A r c0 cb' F' l' ti' to ∧
    ((20 ≤ x.1 ∧ x.1 ≤ 26 ∧ ti = false ∧ (x.1 < 24 → ti' = false) ∧ ∃ (lb : Nat) (VB : Vl), Pz (stN O A) lb cb' cb VB ∧ tyV false VB ∧ l = l' + lb ∧ F = fun W => F' (bnV (x.1 - 20) VB W)) ∨
     (x.1 = 27 ∧ ti = true ∧ ti' = true ∧ cb = cb' ∧ l = l' ∧ F = fun W => F' (ngV W)) ∨
     ((x.1 = 28 ∨ x.1 = 29) ∧ ti = true ∧ ti' = true ∧ ∃ (lb : Nat) (VB : Vl), Pz (stN O A) lb cb' x.2 VB ∧ tyV true VB ∧ cb = x.2 + 1 ∧ O x.2 = x.1 ∧ l = l' + lb ∧ F = fun W => F' (aoV (x.1 - 28) VB W)))
theorem Ctx.le {O A : Int → Int} : ∀ {P : List (Int × Int)} {c0 cb : Int} {F : Vl → Vl} {l : Nat} {ti to : Bool}, Ctx O A P c0 cb F l ti to → c0 ≤ cb
  | [], c0, cb, F, l, ti, to, h => by have := h.1; omega
  | x :: r, c0, cb, F, l, ti, to, h => by
    obtain ⟨cb', F', l', ti', h1, h2⟩ := h
    have := Ctx.le h1
    rcases h2 with ⟨-, -, -, -, lb, VB, h3, -⟩ | ⟨-, -, -, h3, -⟩ | ⟨-, -, -, lb, VB, h3, -, h4, -⟩
    · have := h3.2.1; omega
    · omega
    · have := h3.2.1; omega
theorem Ctx.congr {O A O' A' : Int → Int} : ∀ {P : List (Int × Int)} {c0 cb : Int} {F : Vl → Vl} {l : Nat} {ti to : Bool}, Ctx O A P c0 cb F l ti to → (∀ i, c0 ≤ i → i < cb → O' i = O i ∧ A' i = A i) → Ctx O' A' P c0 cb F l ti to
  | [], c0, cb, F, l, ti, to, h, _ => h
  | x :: r, c0, cb, F, l, ti, to, h, he => by
    obtain ⟨cb', F', l', ti', h1, h2⟩ := h
    have hle := Ctx.le h1
    rcases h2 with ⟨a1, a2, a3, a4, lb, VB, h3, h4⟩ | ⟨a1, a2, a3, h3, h4⟩ | ⟨a1, a2, a3, lb, VB, h3, h4, h5, h6, h7⟩
    · have h31 := h3.2.1
      exact ⟨cb', F', l', ti', h1.congr (fun i i0 i1 => he i i0 (by omega)), Or.inl ⟨a1, a2, a3, a4, lb, VB, PzN.congr h3 (fun i i0 i1 => he i (by omega) (by omega)), h4⟩⟩
    · exact ⟨cb', F', l', ti', h1.congr (fun i i0 i1 => he i i0 (by omega)), Or.inr (Or.inl ⟨a1, a2, a3, h3, h4⟩)⟩
    · have h31 := h3.2.1
      exact ⟨cb', F', l', ti', h1.congr (fun i i0 i1 => he i i0 (by omega)), Or.inr (Or.inr ⟨a1, a2, a3, lb, VB, PzN.congr h3 (fun i i0 i1 => he i (by omega) (by omega)), h4, h5, by rw [(he x.2 (by omega) (by omega)).1]; exact h6, h7⟩)⟩
theorem Ctx.app {O A : Int → Int} {P1 : List (Int × Int)} {c0 c1 : Int} {F1 : Vl → Vl} {l1 : Nat} {t1 to : Bool} (h1 : Ctx O A P1 c0 c1 F1 l1 t1 to) : ∀ {P2 : List (Int × Int)} {c2 : Int} {F2 : Vl → Vl} {l2 : Nat} {t2 : Bool}, Ctx O A P2 c1 c2 F2 l2 t2 t1 → Ctx O A (P2 ++ P1) c0 c2 (fun W => F1 (F2 W)) (l1 + l2) t2 to
  | [], c2, F2, l2, t2, h => by
    obtain ⟨rfl, rfl, rfl, rfl⟩ := h
    exact h1
  | x :: r, c2, F2, l2, t2, h => by
    obtain ⟨cb', F', l', ti', h3, h2⟩ := h
    have ih := Ctx.app h1 h3
    refine ⟨cb', _, l1 + l', ti', ih, ?_⟩
    rcases h2 with ⟨a1, a2, a3, a4, lb, VB, h3, h4, h5, h6⟩ | ⟨a1, a2, a3, h3, h4, h5⟩ | ⟨a1, a2, a3, lb, VB, h3, h4, h5, h6, h7, h8⟩
    · exact Or.inl ⟨a1, a2, a3, a4, lb, VB, h3, h4, by omega, by rw [h6]⟩
    · exact Or.inr (Or.inl ⟨a1, a2, a3, h3, by omega, by rw [h5]⟩)
    · exact Or.inr (Or.inr ⟨a1, a2, a3, lb, VB, h3, h4, h5, h6, by omega, by rw [h8]⟩)
/-- what joins (or turns) is written behind the last piece -/
theorem Ctx.emit {O A O' A' : Int → Int} {x : Int × Int} {r : List (Int × Int)} {c0 cb c : Int} {F : Vl → Vl} {l lw0 : Nat} {ti to : Bool} {W : Vl} (h : Ctx O A (x :: r) c0 cb F l ti to) (hW : Pz (stN O A) lw0 cb c W) (hty : tyV ti W) (hx : x.1 ≤ 27) (hc : 0 ≤ c ∧ c < 400) (he : ∀ i, i < c → O' i = O i ∧ A' i = A i) (hO : O' c = x.1) : ∃ (cb' : Int) (F' : Vl → Vl) (l' : Nat) (ti' : Bool) (lw' : Nat) (W' : Vl), Ctx O' A' r c0 cb' F' l' ti' to ∧ Pz (stN O' A') lw' cb' (c + 1) W' ∧ tyV ti' W' ∧ F' W' = F W ∧ l' + lw' = l + lw0 := by
  obtain ⟨cb', F', l', ti', h1, h2⟩ := h
  have hW2 : Pz (stN O' A') lw0 cb c W := PzN.congr hW (fun i _ i1 => he i i1)
  have w1 := hW.2.1
  rcases h2 with ⟨a1, a2, a3, a4, lb, VB, h3, h4, h5, h6⟩ | ⟨a1, a2, a3, h3, h4, h5⟩ | ⟨a1, a2, a3, lb, VB, h3, h4, h5, h6, h7, h8⟩
  · have h31 := h3.2.1
    have h3' : Pz (stN O' A') lb cb' cb VB := PzN.congr h3 (fun i _ i1 => he i (by omega))
    refine ⟨cb', F', l', ti', lb + lw0, bnV (x.1 - 20) VB W, h1.congr (fun i _ i1 => he i (by omega)), ⟨by have := h3.1; omega, by omega, fun kn hk => Sg.bin2 (h3'.2.2 kn hk) (hW2.2.2 kn hk) h3.1 (h4 kn hk).1 (fun u y st hst => ?_)⟩, ?_, by rw [h6], by omega⟩
    · show sN O' A' _ (c, y :: u :: st) = _
      unfold sN
      simp only []
      rw [if_pos ⟨by simp; omega, hc.1, hc.2⟩, hO, if_neg (by omega), if_pos (by omega)]
    · by_cases h24 : x.1 < 24
      · rw [a4 h24]; exact tyV.bin _ _ _
      · have := tyV.cmp (o := x.1 - 20) (by omega) VB W
        cases ti' with
        | true => exact this
        | false => exact this.low
  · subst a2; subst a3
    refine ⟨cb', F', l', true, lw0, ngV W, h1.congr (fun i _ i1 => he i (by omega)), ⟨hW.1, by omega, fun kn hk => Sg.neg2 (by rw [← h3]; exact hW2.2.2 kn hk) (fun u st hu hst => ?_) ((hty kn hk).2 rfl)⟩, hty.neg, by rw [h5], by omega⟩
    show sN O' A' _ (c, u :: st) = _
    unfold sN
    simp only []
    rw [if_pos ⟨by simp; omega, hc.1, hc.2⟩, hO, if_neg (by omega), if_neg (by omega), if_pos a1]
  · omega
/-- the jump of and, or is told where to -/
theorem Ctx.patch {O A A' : Int → Int} {x : Int × Int} {r : List (Int × Int)} {c0 cb c : Int} {F : Vl → Vl} {l lw0 : Nat} {ti to : Bool} {W : Vl} (h : Ctx O A (x :: r) c0 cb F l ti to) (hW : Pz (stN O A) lw0 cb c W) (hty : tyV ti W) (hx : x.1 = 28 ∨ x.1 = 29) (hx2 : 0 ≤ x.2 ∧ x.2 < 400) (he : ∀ i, i ≠ x.2 → A' i = A i) (hA : A' x.2 = c) : ∃ (cb' : Int) (F' : Vl → Vl) (l' : Nat) (ti' : Bool) (lw' : Nat) (W' : Vl), Ctx O A' r c0 cb' F' l' ti' to ∧ Pz (stN O A') lw' cb' c W' ∧ tyV ti' W' ∧ F' W' = F W ∧ l' + lw' = l + lw0 := by
  obtain ⟨cb', F', l', ti', h1, h2⟩ := h
  have w1 := hW.2.1
  rcases h2 with ⟨a1, a2, a3, a4, lb, VB, h3, h4, h5, h6⟩ | ⟨a1, a2, a3, h3, h4, h5⟩ | ⟨a1, a2, a3, lb, VB, h3, h4, h5, h6, h7, h8⟩
  · omega
  · omega
  · subst a2; subst a3
    have h31 := h3.2.1
    have h3' : Pz (stN O A') lb cb' x.2 VB := PzN.congr h3 (fun i _ i1 => ⟨rfl, he i (by omega)⟩)
    have hW2 : Pz (stN O A') lw0 (x.2 + 1) c W := PzN.congr (by rw [← h5]; exact hW) (fun i i0 i1 => ⟨rfl, he i (by omega)⟩)
    refine ⟨cb', F', l', true, lb + lw0, aoV (x.1 - 28) VB W, h1.congr (fun i _ i1 => ⟨rfl, he i (by omega)⟩), ⟨by have := h3.1; omega, by omega, fun kn hk => Sg.ao2 (h3'.2.2 kn hk) (hW2.2.2 kn hk) ((h4 kn hk).2 rfl) (fun st hst => ?_) (fun u st hu hue hst => ?_)⟩, h4.ao hty, by rw [h8], by omega⟩
    · show sN O A' _ (x.2, (x.1 - 28) :: st) = _
      unfold sN
      simp only []
      rw [if_pos ⟨by simp; omega, hx2.1, hx2.2⟩, h6, if_neg (by omega), if_neg (by omega), if_neg (by omega), hA, if_pos (by split <;> omega), if_pos (by omega)]
    · show sN O A' _ (x.2, u :: st) = _
      unfold sN
      simp only []
      rw [if_pos ⟨by simp; omega, hx2.1, hx2.2⟩, h6, if_neg (by omega), if_neg (by omega), if_neg (by omega), if_neg (by split <;> omega)]
