/-! a search in breadth: its steps -/
section BFS2
variable {E : Int → Int → Int} {n : Nat} {N bg s t : Int} {ln : List Int} {fa wa : Int → Int} {k c : Nat}
theorem BI.ini (hb : 0 ≤ bg ∧ bg < N) (hf : ∀ t : Int, 0 ≤ t → t < N → fa t = if t = bg then 0 else -1) (hw : ∀ t : Int, 0 ≤ t → t < N → wa t = if t = bg then 1 else 0) : BI E n N bg [bg] fa wa 0 0 := by
  have f0 := hf bg hb.1 hb.2
  rw [if_pos rfl] at f0
  have w0 := hw bg hb.1 hb.2
  rw [if_pos rfl] at w0
  have mem : ∀ x : Int, x ∈ [bg] → x = bg := fun x hx => List.mem_singleton.mp hx
  have idx : ∀ (i : Nat) (v : Int), ([bg] : List Int)[i]? = some v → v = bg := fun i v h => mem v (List.mem_of_getElem? h)
  refine ⟨⟨by simp, rfl, fun t ht => by rw [mem t ht]; exact hb⟩, fun t t0 t1 => ⟨?_, fun hn => ?_⟩, ⟨f0, fun t ht => by rw [mem t ht, f0]; omega⟩, ⟨fun i j u v _ h1 h2 => by rw [idx i u h1, idx j v h2]; exact Int.le_refl _, fun s hs t ht => by rw [mem t ht, idx 0 s hs]; omega⟩, fun i v c' h1 h2 => by omega, fun t ht hn => absurd (mem t ht) hn, fun t ht => ?_⟩
  · rw [hf t t0 t1, List.mem_singleton]
    by_cases h : t = bg
    · simp [h]
    · simp [h]
  · rw [hw t t0 t1, if_neg (fun h => hn (by rw [h]; simp))]
  · rw [mem t ht, w0]
    show 1 = sat ((if bg = bg then 1 else 0) + 0 + pc1 E n bg fa bg 0 (some bg))
    have : pc1 E n bg fa bg 0 (some bg) = 0 := by
      show (if fa bg + 1 = fa bg then _ else 0) = 0
      rw [if_neg (by omega)]
    rw [this, if_pos rfl]
    rfl
/-- a call that leads nowhere -/
theorem BI.none' (h : BI E n N bg ln fa wa k c) (hs : ln[k]? = some s) (hE : E s c = -1) : BI E n N bg ln fa wa k (c + 1) := by
  obtain ⟨h1, h2, h3, h4, h5, h6, h7⟩ := h
  refine ⟨h1, h2, h3, h4, fun i v c' hi hc he => ?_, fun t ht hb => ?_, fun t ht => ?_⟩
  · by_cases hx : i = k ∧ c' = c
    · obtain ⟨rfl, rfl⟩ := hx
      rw [hs] at hi
      cases hi
      exact absurd hE he
    · exact h5 i v c' hi (by omega) he
  · obtain ⟨i, v, c', q1, q2, q3⟩ := h6 t ht hb
    exact ⟨i, v, c', q1, by omega, q3⟩
  · rw [h7 t ht, hs]
    have htb := h1.2.2 t ht
    show _ = sat (_ + (if fa s + 1 = fa t then cwk E n bg fa s * (ec E s t c + (if E s c = t then 1 else 0)) else 0))
    rw [if_neg (show ¬ E s c = t by omega), Nat.add_zero]
    rfl
/-- the one whose calls are gone over: its ways are known -/
theorem BI.top (h : BI E n N bg ln fa wa k c) (hc : c ≤ n) (hs : ln[k]? = some s) : wa s = sat (cwk E n bg fa s) ∧ s ∈ ln := by
  have hm := List.mem_of_getElem? hs
  refine ⟨h.ways hc hm (fun i v hi hlt => ?_) (fun u hu => ?_), hm⟩
  · rcases Nat.lt_or_ge i k with h1 | h1
    · exact h1
    · have := h.2.2.2.1.1 k i s v h1 hs hi
      omega
  · rw [hs] at hu
    cases hu
    omega
theorem cwk_congr {fa' : Int → Int} {v : Int} (h : fa' v = fa v) : cwk E n bg fa' v = cwk E n bg fa v := by
  unfold cwk
  rw [h]
theorem pcs_congr {fa' : Int → Int} : ∀ (P : List Int), (∀ v ∈ P, fa' v = fa v) → fa' t = fa t → pcs E n bg fa' t P = pcs E n bg fa t P
  | [], _, _ => rfl
  | v :: P, h, ht => by
    have ih := pcs_congr P (fun x hx => h x (by simp [hx])) ht
    unfold pcs at ih ⊢
    rw [List.map_cons, List.sum_cons, List.map_cons, List.sum_cons, ih, h v (by simp), ht, cwk_congr (h v (by simp))]
theorem sat_mul1 {x y : Nat} : (if (1000000000 : Int) < sat x + sat y then 1000000000 else sat x + sat y) = sat (x + y) := sat_add
/-- a call that leads to one in the line -/
theorem BI.old {wa' : Int → Int} (h : BI E n N bg ln fa wa k c) (hc : c < n) (hs : ln[k]? = some s) (hE : E s c = t) (ht : t ∈ ln) (hw : ∀ u : Int, 0 ≤ u → u < N → wa' u = if u = t ∧ fa t = fa s + 1 then (if (1000000000 : Int) < wa t + wa s then 1000000000 else wa t + wa s) else wa u) : BI E n N bg ln fa wa' k (c + 1) := by
  have htop := h.top (by omega) hs
  have hle := h.2.2.2.1.2 s hs t ht
  obtain ⟨h1, h2, h3, h4, h5, h6, h7⟩ := h
  have htb := h1.2.2 t ht
  refine ⟨h1, fun u u0 u1 => ⟨(h2 u u0 u1).1, fun hn => ?_⟩, h3, h4, fun i v c' hi hcc he => ?_, fun u hu hb => ?_, fun u hu => ?_⟩
  · rw [hw u u0 u1, if_neg (fun q => hn (by rw [q.1]; exact ht))]
    exact (h2 u u0 u1).2 hn
  · by_cases hx : i = k ∧ c' = c
    · obtain ⟨rfl, rfl⟩ := hx
      rw [hs] at hi
      cases hi
      rw [hE]
      exact ⟨ht, hle⟩
    · exact h5 i v c' hi (by omega) he
  · obtain ⟨i, v, c', q1, q2, q3⟩ := h6 u hu hb
    exact ⟨i, v, c', q1, by omega, q3⟩
  · have hub := h1.2.2 u hu
    have hu7 := h7 u hu
    rw [hs] at hu7 ⊢
    have e1 : pc1 E n bg fa u (c + 1) (some s) = pc1 E n bg fa u c (some s) + (if u = t ∧ fa t = fa s + 1 then cwk E n bg fa s else 0) := by
      show (if fa s + 1 = fa u then cwk E n bg fa s * (ec E s u c + (if E s c = u then 1 else 0)) else 0) = (if fa s + 1 = fa u then cwk E n bg fa s * ec E s u c else 0) + _
      by_cases hq : fa s + 1 = fa u
      · rw [if_pos hq, if_pos hq, hE, Nat.mul_add]
        by_cases hut : u = t
        · rw [if_pos hut.symm, if_pos ⟨hut, by rw [← hut]; exact hq.symm⟩, Nat.mul_one]
        · rw [if_neg (fun q => hut q.symm), if_neg (fun q => hut q.1), Nat.mul_zero]
      · rw [if_neg hq, if_neg hq, if_neg (fun q => hq (by rw [q.1]; exact q.2.symm))]
    rw [hw u hub.1 hub.2, e1]
    by_cases hut : u = t ∧ fa t = fa s + 1
    · rw [if_pos hut, if_pos hut, ← Nat.add_assoc, ← sat_add, ← hu7, ← htop.1, hut.1]
    · rw [if_neg hut, if_neg hut, Nat.add_zero]
      exact hu7
/-- a call that leads to a new one -/
theorem BI.new {fa' wa' : Int → Int} (h : BI E n N bg ln fa wa k c) (hc : c < n) (hs : ln[k]? = some s) (hE : E s c = t) (hn : t ∉ ln) (htb : 0 ≤ t ∧ t < N) (hf : ∀ u : Int, 0 ≤ u → u < N → fa' u = if u = t then fa s + 1 else fa u) (hw : ∀ u : Int, 0 ≤ u → u < N → wa' u = if u = t then wa s else wa u) : BI E n N bg (ln ++ [t]) fa' wa' k (c + 1) := by
  have htop := h.top (by omega) hs
  have hsup := h.2.2.2.1.2 s hs
  obtain ⟨h1, h2, h3, h4, h5, h6, h7⟩ := h
  have hkl : k < ln.length := (List.getElem?_eq_some_iff.mp hs).1
  have ef : ∀ u ∈ ln, fa' u = fa u := fun u hu => by
    have hb := h1.2.2 u hu
    rw [hf u hb.1 hb.2, if_neg (fun q => hn (by rw [← q]; exact hu))]
  have eft : fa' t = fa s + 1 := by rw [hf t htb.1 htb.2, if_pos rfl]
  have hbl : bg ∈ ln := List.mem_of_getElem? h1.2.1
  have hsb := h1.2.2 s htop.2
  have hs0 := h3.2 s htop.2
  have ig : ∀ (i : Nat) (v : Int), (ln ++ [t])[i]? = some v → (ln[i]? = some v ∧ i < ln.length) ∨ (i = ln.length ∧ v = t) := fun i v hi => by
    rcases Nat.lt_or_ge i ln.length with h | h
    · rw [List.getElem?_append_left h] at hi
      exact Or.inl ⟨hi, h⟩
    · rw [List.getElem?_append_right h] at hi
      have hz : i - ln.length = 0 := by
        rcases Nat.eq_zero_or_pos (i - ln.length) with h9 | h9
        · exact h9
        · rw [List.getElem?_eq_none (by simp; omega)] at hi; cases hi
      rw [hz] at hi
      have : t = v := by simpa using hi
      exact Or.inr ⟨by omega, this.symm⟩
  have hk' : (ln ++ [t])[k]? = some s := by rw [List.getElem?_append_left hkl]; exact hs
  have mem' : ∀ u : Int, u ∈ ln ++ [t] ↔ u ∈ ln ∨ u = t := fun u => by simp
  refine ⟨⟨?_, ?_, fun u hu => ?_⟩, fun u u0 u1 => ⟨?_, fun hnn => ?_⟩, ⟨by rw [ef bg hbl]; exact h3.1, fun u hu => ?_⟩, ⟨fun i j u v hij hi hj => ?_, fun s' hs' u hu => ?_⟩, fun i v c' hi hcc he => ?_, fun u hu hb => ?_, fun u hu => ?_⟩
  · rw [List.nodup_append]
    refine ⟨h1.1, by simp, fun a ha b hb => ?_⟩
    rw [List.mem_singleton] at hb
    rw [hb]
    exact fun q => hn (by rw [← q]; exact ha)
  · rw [List.getElem?_append_left (by omega)]; exact h1.2.1
  · rcases (mem' u).mp hu with h | h
    · exact h1.2.2 u h
    · rw [h]; exact htb
  · rw [mem' u, hf u u0 u1]
    by_cases hut : u = t
    · rw [if_pos hut]
      exact ⟨fun _ => Or.inr hut, fun _ => by omega⟩
    · rw [if_neg hut, (h2 u u0 u1).1]
      exact ⟨Or.inl, fun q => q.resolve_right hut⟩
  · have hut : u ≠ t := fun q => hnn ((mem' u).mpr (Or.inr q))
    rw [hw u u0 u1, if_neg hut]
    exact (h2 u u0 u1).2 (fun q => hnn ((mem' u).mpr (Or.inl q)))
  · rcases (mem' u).mp hu with h | h
    · rw [ef u h]; exact h3.2 u h
    · rw [h, eft]; omega
  · rcases ig i u hi with ⟨hi1, hi2⟩ | ⟨hi1, hi2⟩
    · have hu := List.mem_of_getElem? hi1
      rw [ef u hu]
      rcases ig j v hj with ⟨hj1, hj2⟩ | ⟨hj1, hj2⟩
      · rw [ef v (List.mem_of_getElem? hj1)]; exact h4.1 i j u v hij hi1 hj1
      · rw [hj2, eft]; exact hsup u hu
    · rcases ig j v hj with ⟨hj1, hj2⟩ | ⟨hj1, hj2⟩
      · omega
      · rw [hi2, hj2]; exact Int.le_refl _
  · rw [hk'] at hs'
    cases hs'
    rw [ef s htop.2]
    rcases (mem' u).mp hu with h | h
    · rw [ef u h]; exact hsup u h
    · rw [h, eft]; exact Int.le_refl _
  · by_cases hx : i = k ∧ c' = c
    · obtain ⟨rfl, rfl⟩ := hx
      rw [hk'] at hi
      cases hi
      rw [hE, eft, ef s htop.2]
      exact ⟨(mem' t).mpr (Or.inr rfl), Int.le_refl _⟩
    · rcases ig i v hi with ⟨hi1, hi2⟩ | ⟨hi1, hi2⟩
      · have q := h5 i v c' hi1 (by omega) he
        rw [ef _ q.1, ef v (List.mem_of_getElem? hi1)]
        exact ⟨(mem' _).mpr (Or.inl q.1), q.2⟩
      · omega
  · rcases (mem' u).mp hu with h | h
    · obtain ⟨i, v, c', q1, q2, q3, q4⟩ := h6 u h hb
      refine ⟨i, v, c', ?_, by omega, q3, by rw [ef u h, ef v (List.mem_of_getElem? q1)]; exact q4⟩
      rw [List.getElem?_append_left (List.getElem?_eq_some_iff.mp q1).1]; exact q1
    · exact ⟨k, s, c, hk', by omega, by rw [h]; exact hE, by rw [h, eft, ef s htop.2]⟩
  · have htk : (ln ++ [t]).take k = ln.take k := List.take_append_of_le_length (by omega)
    rw [hk', htk]
    have epre : ∀ v ∈ ln.take k, fa' v = fa v := fun v hv => ef v (List.mem_of_mem_take hv)
    have e1 : ∀ u, pc1 E n bg fa' u (c + 1) (some s) = if fa s + 1 = fa' u then cwk E n bg fa s * (ec E s u c + (if E s c = u then 1 else 0)) else 0 := fun u => by
      show (if fa' s + 1 = fa' u then cwk E n bg fa' s * _ else 0) = _
      rw [ef s htop.2, cwk_congr (ef s htop.2)]
      rfl
    have hub : 0 ≤ u ∧ u < N := by
      rcases (mem' u).mp hu with h | h
      · exact h1.2.2 u h
      · rw [h]; exact htb
    rw [hw u hub.1 hub.2, e1]
    rcases (mem' u).mp hu with h | h
    · have hut : u ≠ t := fun q => hn (by rw [← q]; exact h)
      rw [if_neg hut, pcs_congr _ epre (ef u h), ef u h, if_neg (show ¬ E s c = u by rw [hE]; exact fun q => hut q.symm), Nat.add_zero, h7 u h, hs]
      rfl
    · subst h
      have hz : pcs E n bg fa' u (ln.take k) = 0 := by
        unfold pcs
        have : ∀ P : List Int, (∀ v ∈ P, ∃ i, i < k ∧ ln[i]? = some v) → (P.map (fun v => if fa' v + 1 = fa' u then cwk E n bg fa' v * ec E v u n else 0)).sum = 0 := fun P => by
          induction P with
          | nil => intro _; rfl
          | cons v P ih =>
            intro hP
            rw [List.map_cons, List.sum_cons, ih (fun x hx => hP x (by simp [hx]))]
            obtain ⟨i, hi, hv⟩ := hP v (by simp)
            have hec : ec E v u n = 0 := by
              refine Classical.byContradiction (fun hne => ?_)
              rw [← ec_count (by omega)] at hne
              have hmem := List.count_pos_iff.mp (Nat.pos_of_ne_zero hne)
              obtain ⟨c', c1, c2, c3⟩ := (scn_mem _).mp hmem
              have := (h5 i v c' hv (Or.inl ⟨hi, c1⟩) (by rw [c2]; exact c3)).1
              rw [c2] at this
              exact hn this
            rw [hec, Nat.mul_zero]
            split <;> rfl
        refine this _ (fun v hv => ?_)
        obtain ⟨i, hi⟩ := List.getElem?_of_mem hv
        rw [List.getElem?_take] at hi
        split at hi
        · exact ⟨i, by assumption, hi⟩
        · cases hi
      have hec : ec E s u c = 0 := by
        refine Classical.byContradiction (fun hne => ?_)
        rw [← ec_count (by omega)] at hne
        have hmem := List.count_pos_iff.mp (Nat.pos_of_ne_zero hne)
        obtain ⟨c', c1, c2, c3⟩ := (scn_mem _).mp hmem
        have := (h5 k s c' hs (Or.inr ⟨rfl, c1⟩) (by rw [c2]; exact c3)).1
        rw [c2] at this
        exact hn this
      rw [if_pos rfl, hz, eft, if_pos rfl, hec, if_pos hE, if_neg (fun q => hn (by rw [q]; exact hbl)), htop.1]
      simp
/-- the next in the line -/
theorem BI.next (h : BI E n N bg ln fa wa k n) (hs : ln[k]? = some s) : BI E n N bg ln fa wa (k + 1) 0 := by
  obtain ⟨h1, h2, h3, h4, h5, h6, h7⟩ := h
  have hkl : k < ln.length := (List.getElem?_eq_some_iff.mp hs).1
  refine ⟨h1, h2, h3, ⟨h4.1, fun s' hs' t ht => ?_⟩, fun i v c' hi hcc he => h5 i v c' hi (by omega) he, fun t ht hb => ?_, fun t ht => ?_⟩
  · have := h4.2 s hs t ht
    have := h4.1 k (k + 1) s s' (by omega) hs hs'
    omega
  · obtain ⟨i, v, c', q1, q2, q3⟩ := h6 t ht hb
    exact ⟨i, v, c', q1, by omega, q3⟩
  · rw [h7 t ht, hs]
    congr 1
    have e1 : pcs E n bg fa t (ln.take (k + 1)) = pcs E n bg fa t (ln.take k) + pc1 E n bg fa t n (some s) := by
      have : ln.take (k + 1) = ln.take k ++ [s] := by
        rw [List.take_add_one, hs]; rfl
      rw [this]
      unfold pcs
      rw [List.map_append, List.sum_append]
      simp [pc1]
    have e2 : pc1 E n bg fa t 0 ln[k + 1]? = 0 := by
      cases ln[k + 1]? with
      | none => rfl
      | some u =>
        show (if fa u + 1 = fa t then cwk E n bg fa u * 0 else 0) = 0
        simp
    rw [e1, e2]
    omega
end BFS2
