/-! calls: which stands lead on -/
section LEADS
variable {r : Int → Int} {tw : Int → (Int → Int) → Option Int} {best : Int} {G0 G : sm_H} {ln : List Int}
theorem wlk_add {E : Int → Int → Int} {n : Nat} : ∀ (i j : Nat) (s t u : Int), u ∈ wlk E n i s → t ∈ wlk E n j u → t ∈ wlk E n (i + j) s
  | 0, j, s, t, u, h1, h2 => by
    simp only [wlk, List.mem_singleton] at h1
    rw [Nat.zero_add, ← h1]; exact h2
  | i + 1, j, s, t, u, h1, h2 => by
    simp only [wlk, List.mem_flatMap] at h1
    obtain ⟨v, v1, v2⟩ := h1
    rw [show i + 1 + j = (i + j) + 1 by omega]
    show t ∈ (scn E s n).flatMap (wlk E n (i + j))
    exact List.mem_flatMap.mpr ⟨v, v1, wlk_add i j v t u v2 h2⟩
/-- it lies on a shortest drive -/
def lsp (r : Int → Int) (tw : Int → (Int → Int) → Option Int) (fa : Int → Int) (best s : Int) : Prop := fa s ≤ best ∧ 0 < pn (Eg r tw (r 5)) (r 0).toNat (gol r) (best - fa s).toNat s
/-- no nearer than that -/
theorem SE.near (h : SE r tw (r 5) G0 G ln best) {u : Int} (hu : u ∈ ln) {j : Nat} (hp : 0 < pn (Eg r tw (r 5)) (r 0).toNat (gol r) j u) : best ≤ G 101 u + j ∧ best ≠ -1 := by
  obtain ⟨t, t1, t2⟩ := pn_pos.mp hp
  have hw := h.wk hu
  have ht := wlk_add _ _ _ _ _ hw.1 t1
  have hq : 0 < pn (Eg r tw (r 5)) (r 0).toNat (gol r) ((G 101 u).toNat + j) (bgn r) := pn_pos.mpr ⟨t, ht, t2⟩
  rcases h.nearest with ⟨-, q2⟩ | ⟨i, q1, q2, q3⟩
  · rw [q2] at hq; omega
  · rcases Nat.lt_or_ge ((G 101 u).toNat + j) i with h1 | h1
    · rw [q3 _ h1] at hq; omega
    · omega
/-- where the calls of one in the line lead -/
theorem SE.child (h : SE r tw (r 5) G0 G ln best) {s : Int} (hs : s ∈ ln) {c : Nat} (hc : c < (r 0).toNat) (he : Eg r tw (r 5) s c ≠ -1) : Eg r tw (r 5) s c ∈ ln ∧ G 101 (Eg r tw (r 5) s c) ≤ G 101 s + 1 := by
  obtain ⟨i, hi⟩ := List.getElem?_of_mem hs
  exact h.2.2.1.2.2.2.2.1 i s c hi (Or.inl ⟨(List.getElem?_eq_some_iff.mp hi).1, hc⟩) he
theorem lsp_iff (h : SE r tw (r 5) G0 G ln best) {s : Int} (hs : s ∈ ln) : lsp r tw (G 101) best s ↔ (G 101 s = best ∧ gol r s = true) ∨ ∃ c : Nat, c < (r 0).toNat ∧ Eg r tw (r 5) s c ≠ -1 ∧ G 101 (Eg r tw (r 5) s c) = G 101 s + 1 ∧ lsp r tw (G 101) best (Eg r tw (r 5) s c) := by
  have h0 := (h.wk hs).2
  constructor
  · rintro ⟨h1, h2⟩
    by_cases hb : G 101 s = best
    · refine Or.inl ⟨hb, ?_⟩
      rw [hb, Int.sub_self] at h2
      obtain ⟨t, t1, t2⟩ := pn_pos.mp h2
      simp only [Int.toNat_zero, wlk, List.mem_singleton] at t1
      rw [← t1]; exact t2
    · refine Or.inr ?_
      obtain ⟨j, hj⟩ : ∃ j : Nat, (best - G 101 s).toNat = j + 1 := ⟨(best - G 101 s).toNat - 1, by omega⟩
      rw [hj] at h2
      obtain ⟨t, t1, t2⟩ := pn_pos.mp h2
      simp only [wlk, List.mem_flatMap] at t1
      obtain ⟨u, u1, u2⟩ := t1
      obtain ⟨c, c1, c2, c3⟩ := (scn_mem _).mp u1
      have hch := h.child hs c1 (by rw [c2]; exact c3)
      rw [c2] at hch
      have hp : 0 < pn (Eg r tw (r 5)) (r 0).toNat (gol r) j u := pn_pos.mpr ⟨t, u2, t2⟩
      have hn := h.near hch.1 hp
      have hfu : G 101 u = G 101 s + 1 := by omega
      refine ⟨c, c1, by rw [c2]; exact c3, by rw [c2]; exact hfu, ?_⟩
      rw [c2]
      refine ⟨by omega, ?_⟩
      rw [show (best - G 101 u).toNat = j by omega]
      exact hp
  · rintro (⟨h1, h2⟩ | ⟨c, c1, c2, c3, c4, c5⟩)
    · refine ⟨by omega, ?_⟩
      rw [h1, Int.sub_self]
      exact pn_pos.mpr ⟨s, by simp [wlk], h2⟩
    · rw [c3] at c4 c5
      refine ⟨by omega, ?_⟩
      obtain ⟨t, t1, t2⟩ := pn_pos.mp c5
      refine pn_pos.mpr ⟨t, ?_, t2⟩
      rw [show (best - G 101 s).toNat = (best - (G 101 s + 1)).toNat + 1 by omega]
      show t ∈ (scn _ s _).flatMap _
      exact List.mem_flatMap.mpr ⟨_, (scn_mem _).mpr ⟨c, c1, rfl, c2⟩, t1⟩
/-- the distance of one in the line -/
theorem SE.dist (hl : lnk r (r 0).toNat) (h5 : r 0 ≤ 5) (h : SE r tw (r 5) G0 G ln best) {s : Int} (hs : s ∈ ln) : (Ah r tw s = 47 ∧ ∀ j, pn (Eg r tw (r 5)) (r 0).toNat (gol r) j s = 0) ∨ ∃ j : Nat, j ≤ 45 ∧ Ah r tw s = (j : Int) + 1 ∧ 0 < pn (Eg r tw (r 5)) (r 0).toNat (gol r) j s ∧ ∀ i, i < j → pn (Eg r tw (r 5)) (r 0).toNat (gol r) i s = 0 := by
  have hd := dst_spec (E := Em r tw 0) (n := (r 0).toNat) (gl := gol r) (s := s) (fun j hj => pn_45 hl h5 (h.2.2.1.1.2.2 s hs) hj)
  rw [← Em0]
  rcases hd with ⟨hz, hno⟩ | ⟨j, j1, j2, j3, hz⟩
  · exact Or.inl ⟨congrArg Prod.fst hz, hno⟩
  · exact Or.inr ⟨j, j1, congrArg Prod.fst hz, j2, j3⟩
/-- the class's way of choosing a call is the reference's -/
theorem fcp_on (hl : lnk r (r 0).toNat) (h5 : r 0 ≤ 5) (h : SE r tw (r 5) G0 G ln best) {s : Int} (hs : s ∈ ln) {k : Int} (hk : G 101 s = k) (hA : Ah r tw s = best - k + 1) (h47 : Ah r tw s ≠ 47) {c : Nat} (hc : c < (r 0).toNat) : fcp (Em r tw 0) (r 0).toNat (gol r) s c = true ↔ Eg r tw (r 5) s c ≠ -1 ∧ G 101 (Eg r tw (r 5) s c) = G 101 s + 1 ∧ lsp r tw (G 101) best (Eg r tw (r 5) s c) := by
  unfold fcp
  rw [decide_eq_true_iff, Em0]
  constructor
  · rintro ⟨h1, h2⟩
    have hch := h.child hs hc h1
    have h2' : Ah r tw (Eg r tw (r 5) s c) = Ah r tw s - 1 := by
      show ahv (Em r tw 0) _ _ _ = ahv (Em r tw 0) _ _ _ - 1
      rw [Em0]; exact h2
    rcases h.dist hl h5 hch.1 with ⟨q, -⟩ | ⟨j, j1, j2, j3, j4⟩
    · have := Ah_b (r := r) (tw := tw) (s := s); omega
    · have hn := h.near hch.1 j3
      refine ⟨h1, by omega, by omega, ?_⟩
      rw [show (best - G 101 (Eg r tw (r 5) s c)).toNat = j by omega]
      exact j3
  · rintro ⟨h1, h2, h3, h4⟩
    have hch := h.child hs hc h1
    refine ⟨h1, ?_⟩
    show ahv (Eg r tw (r 5)) _ _ _ = _
    rw [← Em0]
    show Ah r tw _ = Ah r tw _ - 1
    rw [Em0]
    rcases h.dist hl h5 hch.1 with ⟨-, q⟩ | ⟨j, j1, j2, j3, j4⟩
    · rw [q] at h4; omega
    · have hn := h.near hch.1 j3
      have hle : j ≤ (best - G 101 (Eg r tw (r 5) s c)).toNat := by
        rcases Nat.lt_or_ge (best - G 101 (Eg r tw (r 5) s c)).toNat j with h9 | h9
        · rw [j4 _ h9] at h4; omega
        · exact h9
      omega
end LEADS
