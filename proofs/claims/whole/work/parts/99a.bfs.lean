/-! a search in breadth -/
def ec (E : Int → Int → Int) (v t : Int) : Nat → Nat
  | 0 => 0
  | m + 1 => ec E v t m + (if E v m = t then 1 else 0)
def cwk (E : Int → Int → Int) (n : Nat) (bg : Int) (fa : Int → Int) (v : Int) : Nat := (wlk E n (fa v).toNat bg).count v
def pcs (E : Int → Int → Int) (n : Nat) (bg : Int) (fa : Int → Int) (t : Int) (P : List Int) : Nat := (P.map (fun v => if fa v + 1 = fa t then cwk E n bg fa v * ec E v t n else 0)).sum
def pc1 (E : Int → Int → Int) (n : Nat) (bg : Int) (fa : Int → Int) (t : Int) (c : Nat) : Option Int → Nat
  | none => 0
  | some s => if fa s + 1 = fa t then cwk E n bg fa s * ec E s t c else 0
/-- so far: the k first of the line are done, and c calls of the next -/
def BI (E : Int → Int → Int) (n : Nat) (N bg : Int) (ln : List Int) (fa wa : Int → Int) (k c : Nat) : Prop :=
  (ln.Nodup ∧ ln[0]? = some bg ∧ (∀ t ∈ ln, 0 ≤ t ∧ t < N)) ∧
  (∀ t : Int, 0 ≤ t → t < N → ((fa t ≠ -1 ↔ t ∈ ln) ∧ (t ∉ ln → wa t = 0))) ∧
  (fa bg = 0 ∧ ∀ t ∈ ln, 0 ≤ fa t) ∧
  ((∀ (i j : Nat) (u v : Int), i ≤ j → ln[i]? = some u → ln[j]? = some v → fa u ≤ fa v) ∧ (∀ s, ln[k]? = some s → ∀ t ∈ ln, fa t ≤ fa s + 1)) ∧
  (∀ (i : Nat) (v : Int) (c' : Nat), ln[i]? = some v → (i < k ∧ c' < n) ∨ (i = k ∧ c' < c) → E v c' ≠ -1 → E v c' ∈ ln ∧ fa (E v c') ≤ fa v + 1) ∧
  (∀ t ∈ ln, t ≠ bg → ∃ (i : Nat) (v : Int) (c' : Nat), ln[i]? = some v ∧ ((i < k ∧ c' < n) ∨ (i = k ∧ c' < c)) ∧ E v c' = t ∧ fa t = fa v + 1) ∧
  (∀ t ∈ ln, wa t = sat ((if t = bg then 1 else 0) + pcs E n bg fa t (ln.take k) + pc1 E n bg fa t c ln[k]?))
section BFS
variable {E : Int → Int → Int} {n : Nat} {N bg s t : Int} {ln : List Int} {fa wa : Int → Int} {k c : Nat}
theorem ec_count {v t : Int} (ht : t ≠ -1) : ∀ m : Nat, (scn E v m).count t = ec E v t m
  | 0 => rfl
  | m + 1 => by
    unfold scn ec
    rw [List.count_append, ec_count ht m]
    congr 1
    by_cases h : E v m = -1
    · rw [if_pos h, if_neg (by rw [h]; exact fun q => ht q.symm)]; rfl
    · rw [if_neg h]
      by_cases h2 : E v m = t
      · rw [if_pos h2, h2]; simp
      · rw [if_neg h2]; simp [h2]
theorem wlk_count {t : Int} (ht : t ≠ -1) {j : Nat} : (wlk E n (j + 1) bg).count t = ((wlk E n j bg).map (fun u => ec E u t n)).sum := by
  rw [wlk_end, List.count_flatMap]
  congr 1
  refine List.map_congr_left (fun u _ => ?_)
  exact ec_count ht n
theorem sum_one {f : Int → Nat} {u : Int} : ∀ (D : List Int), D.Nodup → (D.map (fun v => (if u = v then 1 else 0) * f v)).sum = if u ∈ D then f u else 0
  | [], _ => by simp
  | v :: D, h => by
    rw [List.nodup_cons] at h
    rw [List.map_cons, List.sum_cons, sum_one D h.2]
    by_cases huv : u = v
    · subst huv
      simp [h.1]
    · simp [huv]
theorem regroup {f : Int → Nat} {D : List Int} (hD : D.Nodup) : ∀ (W : List Int), (∀ u ∈ W, f u ≠ 0 → u ∈ D) → (W.map f).sum = (D.map (fun v => W.count v * f v)).sum
  | [], _ => by
    have : ∀ D : List Int, (D.map (fun v => ([] : List Int).count v * f v)).sum = 0 := fun D => by
      induction D with
      | nil => rfl
      | cons v D ih => rw [List.map_cons, List.sum_cons, ih]; simp
    rw [this D]; rfl
  | u :: W, h => by
    rw [List.map_cons, List.sum_cons, regroup hD W (fun x hx => h x (by simp [hx]))]
    have e : (D.map (fun v => (u :: W).count v * f v)) = D.map (fun v => W.count v * f v + (if u = v then 1 else 0) * f v) := by
      refine List.map_congr_left (fun v _ => ?_)
      rw [List.count_cons, Nat.add_mul]
      congr 2
      by_cases h : u = v
      · simp [h]
      · simp [h]
    have e2 : ∀ D : List Int, (D.map (fun v => W.count v * f v + (if u = v then 1 else 0) * f v)).sum = (D.map (fun v => W.count v * f v)).sum + (D.map (fun v => (if u = v then 1 else 0) * f v)).sum := fun D => by
      induction D with
      | nil => rfl
      | cons v D ih => simp only [List.map_cons, List.sum_cons, ih]; omega
    rw [e, e2, sum_one D hD]
    by_cases hu : u ∈ D
    · rw [if_pos hu]; omega
    · rw [if_neg hu]
      have : f u = 0 := Classical.byContradiction (fun q => hu (h u (by simp) q))
      omega
/-- whatever can be reached in fewer calls is in the line, and done -/
theorem BI.lvl (h : BI E n N bg ln fa wa k c) {d : Int} (hd : ∀ (i : Nat) (v : Int), ln[i]? = some v → fa v < d → i < k) : ∀ (j : Nat), (j : Int) ≤ d → ∀ t ∈ wlk E n j bg, t ∈ ln ∧ fa t ≤ j
  | 0, _, t, ht => by
    simp only [wlk, List.mem_singleton] at ht
    subst ht
    exact ⟨List.mem_of_getElem? h.1.2.1, by rw [h.2.2.1.1]; simp⟩
  | j + 1, hj, t, ht => by
    rw [wlk_end, List.mem_flatMap] at ht
    obtain ⟨u, u1, u2⟩ := ht
    obtain ⟨c', c1, c2, c3⟩ := (scn_mem _).mp u2
    obtain ⟨hu, hfu⟩ := BI.lvl h hd j (by omega) u u1
    obtain ⟨i, hi⟩ := List.getElem?_of_mem hu
    have hik := hd i u hi (by omega)
    have := h.2.2.2.2.1 i u c' hi (Or.inl ⟨hik, c1⟩) (by rw [c2]; exact c3)
    rw [c2] at this
    exact ⟨this.1, by omega⟩
/-- each in the line has a walk that is as long as it says -/
theorem BI.wk (h : BI E n N bg ln fa wa k c) (hc : c ≤ n) : ∀ (j : Nat) (t : Int), t ∈ ln → fa t = j → t ∈ wlk E n j bg
  | 0, t, ht, hj => by
    by_cases hb : t = bg
    · subst hb; simp [wlk]
    · obtain ⟨i, v, c', h1, h2, h3, h4⟩ := h.2.2.2.2.2.1 t ht hb
      have := h.2.2.1.2 v (List.mem_of_getElem? h1)
      omega
  | j + 1, t, ht, hj => by
    by_cases hb : t = bg
    · subst hb
      have := h.2.2.1.1
      omega
    · obtain ⟨i, v, c', h1, h2, h3, h4⟩ := h.2.2.2.2.2.1 t ht hb
      have hv := BI.wk h hc j v (List.mem_of_getElem? h1) (by omega)
      rw [wlk_end, List.mem_flatMap]
      have htb := h.1.2.2 t ht
      exact ⟨v, hv, (scn_mem _).mpr ⟨c', by omega, h3, by omega⟩⟩
/-- the ways to one whose level is done -/
theorem BI.ways (h : BI E n N bg ln fa wa k c) (hc : c ≤ n) {t : Int} (ht : t ∈ ln) (hd : ∀ (i : Nat) (v : Int), ln[i]? = some v → fa v < fa t → i < k) (hk : ∀ s, ln[k]? = some s → fa s + 1 ≠ fa t) : wa t = sat (cwk E n bg fa t) := by
  have hf := h.2.2.2.2.2.2 t ht
  have h0 := h.2.2.1.2 t ht
  have htb := h.1.2.2 t ht
  have hp1 : pc1 E n bg fa t c ln[k]? = 0 := by
    cases hs : ln[k]? with
    | none => rfl
    | some s =>
      show (if fa s + 1 = fa t then _ else 0) = 0
      rw [if_neg (hk s hs)]
  rw [hp1, Nat.add_zero] at hf
  rw [hf]
  congr 1
  obtain ⟨j, hj⟩ := Int.eq_ofNat_of_zero_le h0
  unfold cwk
  rw [hj, Int.toNat_natCast]
  have hnd : (ln.take k).Nodup := h.1.1.sublist (List.take_sublist k ln)
  cases j with
  | zero =>
    -- only the first has none ahead of it
    have hb : t = bg := Classical.byContradiction (fun hb => by
      obtain ⟨i, v, c', h1, h2, h3, h4⟩ := h.2.2.2.2.2.1 t ht hb
      have := h.2.2.1.2 v (List.mem_of_getElem? h1)
      omega)
    rw [if_pos hb]
    have hz : pcs E n bg fa t (ln.take k) = 0 := by
      unfold pcs
      have : ∀ P : List Int, (∀ v ∈ P, v ∈ ln) → (P.map (fun v => if fa v + 1 = fa t then cwk E n bg fa v * ec E v t n else 0)).sum = 0 := fun P => by
        induction P with
        | nil => intro _; rfl
        | cons v P ih =>
          intro hP
          rw [List.map_cons, List.sum_cons, ih (fun x hx => hP x (by simp [hx]))]
          have := h.2.2.1.2 v (hP v (by simp))
          rw [if_neg (by omega)]
      exact this _ (fun v hv => List.mem_of_mem_take hv)
    rw [hz, hb]
    simp [wlk]
  | succ j =>
    have hb : t ≠ bg := fun hb => by
      have := h.2.2.1.1
      rw [← hb] at this
      omega
    rw [if_neg hb, Nat.zero_add, wlk_count (by omega)]
    have hlv := BI.lvl (d := fa t) h hd j (by omega)
    rw [regroup (f := fun u => ec E u t n) hnd (wlk E n j bg) (fun u hu hne => by
      obtain ⟨h1, h2⟩ := hlv u hu
      obtain ⟨i, hi⟩ := List.getElem?_of_mem h1
      have hik := hd i u hi (by omega)
      exact List.mem_of_getElem? (i := i) (by rw [List.getElem?_take, if_pos hik]; exact hi))]
    unfold pcs
    congr 1
    refine List.map_congr_left (fun v hv => ?_)
    have hvl := List.mem_of_mem_take hv
    have hv0 := h.2.2.1.2 v hvl
    by_cases he : fa v + 1 = fa t
    · rw [if_pos he]
      unfold cwk
      rw [show (fa v).toNat = j by omega]
    · rw [if_neg he]
      by_cases hm : v ∈ wlk E n j bg
      · -- it has no call that leads to t
        have h2 := (hlv v hm).2
        have hz : ec E v t n = 0 := by
          refine Classical.byContradiction (fun hne => ?_)
          rw [← ec_count (by omega)] at hne
          have hmem := List.count_pos_iff.mp (Nat.pos_of_ne_zero hne)
          obtain ⟨c', c1, c2, c3⟩ := (scn_mem _).mp hmem
          obtain ⟨i, hi⟩ := List.getElem?_of_mem hvl
          have hik := hd i v hi (by omega)
          have := (h.2.2.2.2.1 i v c' hi (Or.inl ⟨hik, c1⟩) (by rw [c2]; exact c3)).2
          rw [c2] at this
          omega
        rw [hz, Nat.mul_zero]
      · rw [List.count_eq_zero.mpr hm, Nat.zero_mul]
end BFS
