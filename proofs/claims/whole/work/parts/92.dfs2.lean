/-! the class's drives: one turn -/
section DFS2
variable {Ls : sm_K} {G G' G0 : sm_H} {tw : Int → (Int → Int) → Option Int} {m bg s t : Int} {VP : Int → Nat → Int × Int → Prop} {a b : Nat} {sl : List Int} {j : Nat} {rest : List (Int × Nat)}
theorem EX.lnk' {stk : List (Int × Nat)} (h : EX Ls G0 tw m VP a b bg G stk sl) (hab : 114 ≤ a ∧ 114 ≤ b) : G 82 = G0 82 ∧ lnk (G0 82) (G0 82 0).toNat ∧ (0 ≤ G0 82 0 ∧ G0 82 0 ≤ 5) := by
  have e : G 82 = G0 82 := by funext i; exact h.1.2.2 _ _ (by unfold Dt Pt; omega)
  have h1 := h.1.1.lnk
  have h2 := h.1.1.rn
  rw [e] at h1 h2
  exact ⟨e, h1, h2⟩
/-- the call of the last one leads nowhere -/
theorem EX.skip (hV : VPok (G0 82) tw m VP) (hab : 114 ≤ a ∧ 114 ≤ b ∧ a ≠ b) (h : EX Ls G0 tw m VP a b bg G ((s, j) :: rest) sl) (hj : j < (G0 82 0).toNat) (hE : Em (G0 82) tw m s j = -1) (hP : PC Ls G' tw) (hS : PSt G') (e : ∀ x i, ¬ (Pt x i ∨ ((x = 64 ∨ x = 65) ∧ i = rest.length)) → G' x i = G x i) (h64 : G' 64 rest.length = (j : Int) + 1) : EX Ls G0 tw m VP a b bg G' ((s, j + 1) :: rest) sl := by
  have hl := h.lnk' ⟨hab.1, hab.2.1⟩
  obtain ⟨⟨p1, p2, p3⟩, h9, ⟨⟨s1, s2, s3, s4, s5⟩, s6, s7⟩, ⟨n1, n2⟩, ⟨l1, l2, l3⟩, c1, r1, b1⟩ := h
  have ea : ∀ t, G' a t = G a t := fun t => e _ _ (by unfold Pt; omega)
  have eb : ∀ t, G' b t = G b t := fun t => e _ _ (by unfold Pt; omega)
  refine ⟨⟨hP, hS, fun x i hx => ?_⟩, ?_, ⟨⟨s1, ?_, ?_, ?_, s5⟩, ⟨?_, by omega⟩, ?_⟩, ⟨n1, ?_⟩, ⟨l1, l2, ?_⟩, ?_, r1, b1⟩
  · rw [e x i (by unfold Dt Pt at hx; unfold Pt; omega), p3 x i hx]
  · rw [e _ _ (by unfold Pt; omega)]; exact h9
  · rw [e _ _ (by unfold Pt; omega)]; exact s2
  · rw [ea, eb]; exact hV.2.1 s j _ hj hE s3
  · intro c hc he
    by_cases hcj : c = j
    · subst hcj; exact absurd hE he
    · exact s4 c (by omega) he
  · rw [h64]; omega
  · exact s7.keep (fun x hx => hx) rest (some s) (fun x hx => ⟨ea _, eb _⟩) (fun i i0 i1 => by
      rw [e 63 i (by unfold Pt; omega), e 64 i (by unfold Pt; omega), e 65 i (by unfold Pt; omega)]
      exact ⟨rfl, rfl, fun _ => rfl, fun _ => rfl⟩)
  · intro x hx
    rw [List.mem_cons] at hx
    rcases hx with rfl | hx
    · exact n2 (s, j) (by simp)
    · exact n2 x (by simp [hx])
  · intro t t0 t1; rw [ea]; exact l3 t t0 t1
  · intro t ht hx
    rw [ea, eb]
    exact c1 t ht (fun x hx' => by
      rw [List.mem_cons] at hx'
      rcases hx' with rfl | hx'
      · exact hx (s, j + 1) (by simp)
      · exact hx x (by simp [hx']))
/-- it leads to one that is known -/
theorem EX.learn (hV : VPok (G0 82) tw m VP) (hab : 114 ≤ a ∧ 114 ≤ b ∧ a ≠ b) (h : EX Ls G0 tw m VP a b bg G ((s, j) :: rest) sl) (hj : j < (G0 82 0).toNat) (hE : Em (G0 82) tw m s j = t) (ht : t ≠ -1) (htl : t ∈ sl) (hP : PC Ls G' tw) (hS : PSt G') (e : ∀ x i, ¬ (Pt x i ∨ ((x = 64 ∨ x = 65) ∧ i = rest.length) ∨ ((x = a ∨ x = b) ∧ i = s)) → G' x i = G x i) (h64 : G' 64 rest.length = (j : Int) + 1) (hz : (G' a s, G' b s) = lrm m (G a s, G b s) (G a t, G b t) (gpm (G0 82) m t)) : EX Ls G0 tw m VP a b bg G' ((s, j + 1) :: rest) sl := by
  have hl := h.lnk' ⟨hab.1, hab.2.1⟩
  obtain ⟨⟨p1, p2, p3⟩, h9, ⟨⟨s1, s2, s3, s4, s5⟩, s6, s7⟩, ⟨n1, n2⟩, ⟨l1, l2, l3⟩, c1, r1, b1⟩ := h
  rw [List.map_cons, List.nodup_cons] at n1
  have hne : ∀ x ∈ rest, x.1 ≠ s := fun x hx he => n1.1 (List.mem_map.mpr ⟨x, hx, he⟩)
  have hlt := Em_lf (tw := tw) (m := m) hl.2.1 s1 (c := j) (by rw [hE]; exact ht)
  rw [hE] at hlt
  have hbl := s7.below hl.2.1
  have hts : ∀ x ∈ (s, j) :: rest, x.1 ≠ t := fun x hx he => by
    rw [List.mem_cons] at hx
    rcases hx with rfl | hx
    · simp only at he; rw [he] at hlt; omega
    · have := hbl x hx; rw [he] at this; omega
  have ea : ∀ u, u ≠ s → G' a u = G a u := fun u hu => e _ _ (by unfold Pt; omega)
  have eb : ∀ u, u ≠ s → G' b u = G b u := fun u hu => e _ _ (by unfold Pt; omega)
  have hVt := (c1 t htl hts).1
  have hnew : VP s (j + 1) (G' a s, G' b s) := by
    rw [hz, ← hE]
    exact hV.2.2.1 s j _ _ s1.1 s1.2 hj (by rw [hE]; exact ht) s3 (by rw [hE]; exact hVt)
  refine ⟨⟨hP, hS, fun x i hx => ?_⟩, ?_, ⟨⟨s1, ?_, hnew, ?_, s5⟩, ⟨?_, by omega⟩, ?_⟩, ⟨?_, ?_⟩, ⟨l1, l2, ?_⟩, ?_, r1, b1⟩
  · rw [e x i (by unfold Dt Pt at hx; unfold Pt; omega), p3 x i hx]
  · rw [e _ _ (by unfold Pt; omega)]; exact h9
  · rw [e _ _ (by unfold Pt; omega)]; exact s2
  · intro c hc he
    by_cases hcj : c = j
    · subst hcj; rw [hE]; exact htl
    · exact s4 c (by omega) he
  · rw [h64]; omega
  · exact s7.keep (fun x hx => hx) rest (some s) (fun x hx => ⟨ea _ (hne x hx), eb _ (hne x hx)⟩) (fun i i0 i1 => by
      rw [e 63 i (by unfold Pt; omega), e 64 i (by unfold Pt; omega), e 65 i (by unfold Pt; omega)]
      exact ⟨rfl, rfl, fun _ => rfl, fun _ => rfl⟩)
  · rw [List.map_cons, List.nodup_cons]; exact n1
  · intro x hx
    rw [List.mem_cons] at hx
    rcases hx with rfl | hx
    · exact n2 (s, j) (by simp)
    · exact n2 x (by simp [hx])
  · intro u u0 u1
    by_cases hu : u = s
    · subst hu
      have h1 := (hV.2.2.2 _ _ _ hnew).1
      simp only at h1
      exact ⟨fun _ => n2 (u, j) (by simp), fun _ => by omega⟩
    · rw [ea u hu]; exact l3 u u0 u1
  · intro u hu hx
    have hus : u ≠ s := fun he => hx (s, j + 1) (by simp) he.symm
    rw [ea u hus, eb u hus]
    exact c1 u hu (fun x hx' => by
      rw [List.mem_cons] at hx'
      rcases hx' with rfl | hx'
      · exact hx (s, j + 1) (by simp)
      · exact hx x (by simp [hx']))
/-- it leads to a new one -/
theorem EX.opn (hV : VPok (G0 82) tw m VP) (hab : 114 ≤ a ∧ 114 ≤ b ∧ a ≠ b) (h : EX Ls G0 tw m VP a b bg G ((s, j) :: rest) sl) (hj : j < (G0 82 0).toNat) (hE : Em (G0 82) tw m s j = t) (ht : t ≠ -1) (htl : t ∉ sl) (hP : PC Ls G' tw) (hS : PSt G') (e : ∀ x i, ¬ (Pt x i ∨ ((x = 64 ∨ x = 65) ∧ i = rest.length) ∨ ((x = a ∨ x = b) ∧ i = t) ∨ ((x = 63 ∨ x = 64) ∧ i = (rest.length : Int) + 1) ∨ (x = 59 ∧ i = 9)) → G' x i = G x i) (h64 : G' 64 rest.length = (j : Int) + 1) (h65 : G' 65 rest.length = gpm (G0 82) m t) (hz : (G' a t, G' b t) = inm (G0 82) m t) (g63 : G' 63 ((rest.length : Int) + 1) = t) (g64 : G' 64 ((rest.length : Int) + 1) = 0) (g9 : G' 59 9 = (rest.length : Int) + 2) : EX Ls G0 tw m VP a b bg G' ((t, 0) :: (s, j) :: rest) (t :: sl) := by
  have hl := h.lnk' ⟨hab.1, hab.2.1⟩
  obtain ⟨⟨p1, p2, p3⟩, h9, ⟨⟨s1, s2, s3, s4, s5⟩, s6, s7⟩, ⟨n1, n2⟩, ⟨l1, l2, l3⟩, c1, r1, b1⟩ := h
  have hlt := Em_lf (tw := tw) (m := m) hl.2.1 s1 (c := j) (by rw [hE]; exact ht)
  rw [hE] at hlt
  have htb : 0 ≤ t ∧ t < sd (G0 82) (G0 82 0).toNat := by
    have := Em_b (tw := tw) (m := m) hl.2.1 (s := s) (c := j)
    rw [hE] at this
    exact this.resolve_left ht
  have hsl : s ∈ sl := n2 (s, j) (by simp)
  have hne : ∀ u, u ∈ sl → u ≠ t := fun u hu he => htl (by rw [← he]; exact hu)
  have ea : ∀ u, u ≠ t → G' a u = G a u := fun u hu => e _ _ (by unfold Pt; omega)
  have eb : ∀ u, u ≠ t → G' b u = G b u := fun u hu => e _ _ (by unfold Pt; omega)
  have hnew : VP t 0 (G' a t, G' b t) := by rw [hz]; exact hV.1 t htb.1 htb.2
  refine ⟨⟨hP, hS, fun x i hx => ?_⟩, ?_, ⟨⟨htb, ?_, hnew, fun c hc => by omega, ?_⟩, ⟨?_, by omega⟩, ⟨⟨s1, ?_, ?_, ?_, s5⟩, ⟨h64, hj, hE, ht, h65⟩, ?_⟩⟩, ⟨?_, ?_⟩, ⟨?_, ?_, ?_⟩, ?_, ?_, ?_⟩
  · rw [e x i (by unfold Dt Pt at hx; unfold Pt; omega), p3 x i hx]
  · rw [g9]; simp; omega
  · rw [show (((s, j) :: rest).length : Int) = (rest.length : Int) + 1 by simp]; exact g63
  · simp only [List.length_cons]; omega
  · rw [show (((s, j) :: rest).length : Int) = (rest.length : Int) + 1 by simp]; exact g64
  · rw [e _ _ (by unfold Pt; omega)]; exact s2
  · rw [ea s (hne s hsl), eb s (hne s hsl)]; exact s3
  · intro c hc he; exact List.mem_cons_of_mem _ (s4 c hc he)
  · exact s7.keep (fun x hx => List.mem_cons_of_mem _ hx) rest (some s) (fun x hx => ⟨ea _ (hne _ (n2 x (by simp [hx]))), eb _ (hne _ (n2 x (by simp [hx])))⟩) (fun i i0 i1 => by
      rw [e 63 i (by unfold Pt; omega), e 64 i (by unfold Pt; omega), e 65 i (by unfold Pt; omega)]
      exact ⟨rfl, rfl, fun _ => rfl, fun _ => rfl⟩)
  · rw [List.map_cons, List.nodup_cons]
    refine ⟨fun hm => ?_, n1⟩
    obtain ⟨x, hx, he⟩ := List.mem_map.mp hm
    exact hne _ (n2 x hx) he
  · intro x hx
    rw [List.mem_cons] at hx
    rcases hx with rfl | hx
    · simp
    · exact List.mem_cons_of_mem _ (n2 x hx)
  · rw [List.nodup_cons]; exact ⟨htl, l1⟩
  · intro u hu
    rw [List.mem_cons] at hu
    rcases hu with rfl | hu
    · exact htb
    · exact l2 u hu
  · intro u u0 u1
    by_cases hu : u = t
    · subst hu
      have h1 := (hV.2.2.2 _ _ _ hnew).1
      simp only at h1
      exact ⟨fun _ => by simp, fun _ => by omega⟩
    · rw [ea u hu, l3 u u0 u1, List.mem_cons]
      exact ⟨fun q => Or.inr q, fun q => q.resolve_left hu⟩
  · intro u hu hx
    rw [List.mem_cons] at hu
    rcases hu with rfl | hu
    · exact absurd rfl (hx (u, 0) (by simp))
    · rw [ea u (hne u hu), eb u (hne u hu)]
      have := c1 u hu (fun x hx' => hx x (List.mem_cons_of_mem _ hx'))
      exact ⟨this.1, fun c hc he => List.mem_cons_of_mem _ (this.2 c hc he)⟩
  · intro u hu
    rw [List.mem_cons] at hu
    rcases hu with rfl | hu
    · obtain ⟨i, hi⟩ := r1 s hsl
      refine ⟨i + 1, ?_⟩
      rw [wlk_end, List.mem_flatMap]
      exact ⟨s, hi, (scn_mem _).mpr ⟨j, hj, hE, ht⟩⟩
    · exact r1 u hu
  · exact List.mem_cons_of_mem _ b1
/-- the last one is shut, and it was the first -/
theorem EX.end0 (hab : 114 ≤ a ∧ 114 ≤ b ∧ a ≠ b) (h : EX Ls G0 tw m VP a b bg G [(s, (G0 82 0).toNat)] sl) (hP : PC Ls G' tw) (hS : PSt G') (e : ∀ x i, ¬ (x = 59 ∧ i = 9) → G' x i = G x i) (g9 : G' 59 9 = 0) : EX Ls G0 tw m VP a b bg G' [] sl := by
  obtain ⟨⟨p1, p2, p3⟩, h9, ⟨⟨s1, s2, s3, s4, s5⟩, s6, s7⟩, ⟨n1, n2⟩, ⟨l1, l2, l3⟩, c1, r1, b1⟩ := h
  have ea : ∀ u, G' a u = G a u := fun u => e _ _ (by omega)
  have eb : ∀ u, G' b u = G b u := fun u => e _ _ (by omega)
  refine ⟨⟨hP, hS, fun x i hx => ?_⟩, by rw [g9]; rfl, trivial, ⟨by simp, fun x hx => by simp at hx⟩, ⟨l1, l2, fun u u0 u1 => by rw [ea]; exact l3 u u0 u1⟩, fun u hu _ => ?_, r1, b1⟩
  · rw [e x i (by unfold Dt at hx; omega), p3 x i hx]
  · rw [ea, eb]
    by_cases hus : u = s
    · subst hus; exact ⟨s3, s4⟩
    · exact c1 u hu (fun x hx => by
        rw [List.mem_singleton] at hx
        rw [hx]
        exact fun he => hus he.symm)
/-- the last one is shut, and the one ahead of it learns -/
theorem EX.end1 (hV : VPok (G0 82) tw m VP) (hab : 114 ≤ a ∧ 114 ≤ b ∧ a ≠ b) (h : EX Ls G0 tw m VP a b bg G ((t, (G0 82 0).toNat) :: (s, j) :: rest) sl) (hP : PC Ls G' tw) (hS : PSt G') (e : ∀ x i, ¬ (((x = a ∨ x = b) ∧ i = s) ∨ (x = 59 ∧ i = 9)) → G' x i = G x i) (g9 : G' 59 9 = (rest.length : Int) + 1) (hz : (G' a s, G' b s) = lrm m (G a s, G b s) (G a t, G b t) (gpm (G0 82) m t)) : EX Ls G0 tw m VP a b bg G' ((s, j + 1) :: rest) sl := by
  have hl := h.lnk' ⟨hab.1, hab.2.1⟩
  obtain ⟨⟨p1, p2, p3⟩, h9, ⟨⟨t1, t2, t3, t4, t5⟩, t6, ⟨⟨s1, s2, s3, s4, s5⟩, ⟨k1, k2, k3, k4, k5⟩, s7⟩⟩, ⟨n1, n2⟩, ⟨l1, l2, l3⟩, c1, r1, b1⟩ := h
  simp only [List.map_cons, List.nodup_cons, List.mem_cons, not_or] at n1
  have hne : ∀ x ∈ rest, x.1 ≠ s := fun x hx he => n1.2.1 (List.mem_map.mpr ⟨x, hx, he⟩)
  have hts : t ≠ s := n1.1.1
  have ea : ∀ u, u ≠ s → G' a u = G a u := fun u hu => e _ _ (by omega)
  have eb : ∀ u, u ≠ s → G' b u = G b u := fun u hu => e _ _ (by omega)
  have hnew : VP s (j + 1) (G' a s, G' b s) := by
    rw [hz, ← k3]
    exact hV.2.2.1 s j _ _ s1.1 s1.2 k2 (by rw [k3]; exact k4) s3 (by rw [k3]; exact t3)
  refine ⟨⟨hP, hS, fun x i hx => ?_⟩, ?_, ⟨⟨s1, ?_, hnew, ?_, s5⟩, ⟨?_, by omega⟩, ?_⟩, ⟨?_, ?_⟩, ⟨l1, l2, ?_⟩, ?_, r1, b1⟩
  · rw [e x i (by unfold Dt at hx; omega), p3 x i hx]
  · rw [g9]; simp
  · rw [e _ _ (by omega)]; exact s2
  · intro c hc he
    by_cases hcj : c = j
    · subst hcj; rw [k3]; exact n2 (t, (G0 82 0).toNat) (by simp)
    · exact s4 c (by omega) he
  · rw [e _ _ (by omega), k1]; omega
  · exact s7.keep (fun x hx => hx) rest (some s) (fun x hx => ⟨ea _ (hne x hx), eb _ (hne x hx)⟩) (fun i i0 i1 => by
      rw [e 63 i (by omega), e 64 i (by omega), e 65 i (by omega)]
      exact ⟨rfl, rfl, fun _ => rfl, fun _ => rfl⟩)
  · rw [List.map_cons, List.nodup_cons]; exact n1.2
  · intro x hx
    rw [List.mem_cons] at hx
    rcases hx with rfl | hx
    · exact n2 (s, j) (by simp)
    · exact n2 x (by simp [hx])
  · intro u u0 u1
    by_cases hu : u = s
    · subst hu
      have h1 := (hV.2.2.2 _ _ _ hnew).1
      simp only at h1
      exact ⟨fun _ => n2 (u, j) (by simp), fun _ => by omega⟩
    · rw [ea u hu]; exact l3 u u0 u1
  · intro u hu hx
    have hus : u ≠ s := fun he => hx (s, j + 1) (by simp) he.symm
    rw [ea u hus, eb u hus]
    by_cases hut : u = t
    · subst hut
      exact ⟨t3, t4⟩
    · exact c1 u hu (fun x hx' => by
        simp only [List.mem_cons] at hx'
        rcases hx' with rfl | rfl | hx'
        · exact fun he => hut he.symm
        · exact fun he => hus he.symm
        · exact hx x (by simp [hx']))
end DFS2
