/-! behind image and back -/
section INV3
variable {K E : sm_K} {Ls Ls' : sm_K} {H H' H2 : sm_H} {a b rm : Nat} {own own' : Nat → Nat} {p92 p93 : Int → Int} {k : Int} {tw : Int → (Int → Int) → Option Int}
theorem IM.ik (h : IM own K H k) : IK K H k := h.elim Or.inl (fun ⟨h1, b, h2, ⟨h3, h4⟩, _⟩ => Or.inr ⟨h1, b, h2, h3, h4⟩)
theorem SR.tk (h : SR H) (e : ∀ x i, x ≤ 113 → ¬ ((33 ≤ x ∧ x ≤ 45) ∨ (82 ≤ x ∧ x ≤ 84) ∨ Tk5 x i) → H2 x i = H x i) (ht : Tkn H2) : SR H2 := by
  have er : ∀ x : Nat, x ≤ 113 → ¬ (33 ≤ x ∧ x ≤ 45) → ¬ (82 ≤ x ∧ x ≤ 84) → x ≠ 32 → x ≠ 59 → x ≠ 80 → H2 x = H x := fun x x0 x1 x2 x3 x4 x5 => by
    funext i
    exact e x i x0 (by unfold Tk5; omega)
  refine h.congr (e _ _ (by omega) (by unfold Tk5; omega)) (e _ _ (by omega) (by unfold Tk5; omega)) (er _ (by omega) (by omega) (by omega) (by omega) (by omega) (by omega)) (er _ (by omega) (by omega) (by omega) (by omega) (by omega) (by omega)) (e _ _ (by omega) (by unfold Tk5; omega)) (e _ _ (by omega) (by unfold Tk5; omega)) (e _ _ (by omega) (by unfold Tk5; omega)) (e _ _ (by omega) (by unfold Tk5; omega)) (by rw [ht.1, ht.2.2.1]) (fun k k1 k2 => ?_) (e _ _ (by omega) (by unfold Tk5; omega)) (e _ _ (by omega) (by unfold Tk5; omega)) (er _ (by omega) (by omega) (by omega) (by omega) (by omega) (by omega)) (er _ (by omega) (by omega) (by omega) (by omega) (by omega) (by omega)) (Or.inl ht.2.2.2)
  rw [er 79 (by omega) (by omega) (by omega) (by omega) (by omega) (by omega), er 81 (by omega) (by omega) (by omega) (by omega) (by omega) (by omega)]
  exact h.2.2.2.2.2.1 k k1 k2
theorem Inv.ip0 {c : Nat} (h : Inv p92 p93 Ls H a b rm own) (hk : 0 ≤ k ∧ k < 2) (oo : ∀ x : Nat, x < 82 + Ls.length + 32 → own' x = own x) (oc : ∀ x : Nat, c ≤ x → x ≤ c + 11 → own' x = 2 + k.toNat) (hc : 114 ≤ c ∧ HK (kk0 ++ (Ls ++ E)) c) (e4 : H2 45 k = (c : Int) ∧ H2 84 k = 1) (hB : Bec H H2 c 33) (e83 : ∀ j : Int, 0 ≤ j → j < 5620 → H2 83 (5620 * k + j) = H 82 j) (ht : Tkn H2) (e : ∀ x i, ¬ ((c ≤ x ∧ x ≤ c + 11) ∨ (x = 45 ∧ i = k) ∨ (x = 84 ∧ i = k) ∨ (x = 83 ∧ 5620 * k ≤ i ∧ i < 5620 * k + 5620) ∨ Tk5 x i) → H2 x i = H x i) : Inv p92 p93 (Ls ++ E) H2 a b rm own' := by
  obtain ⟨⟨hS, hH⟩, hX, hq, hI, ⟨hs1, hs2⟩, ⟨hD, oa, ob⟩, -, hc1, hc2⟩ := h
  have hlt := hD.lt
  have c114 := hc.1
  have er : ∀ x : Nat, x ≤ 113 → x ≠ 32 → x ≠ 45 → x ≠ 59 → x ≠ 80 → x ≠ 83 → x ≠ 84 → H2 x = H x := fun x _ _ _ _ _ _ _ => by
    funext i
    exact e x i (by unfold Tk5; omega)
  have n6 : H 82 1 ≤ 6 := hH.2.2.2.1.2.2
  have e82 := er 82 (by omega) (by omega) (by omega) (by omega) (by omega) (by omega) (by omega)
  have e41 := er 41 (by omega) (by omega) (by omega) (by omega) (by omega) (by omega) (by omega)
  have eo : ∀ x : Nat, 114 ≤ x → x < (kk0 ++ Ls).length + 32 → own' x = own x := fun x _ x1 => oo x (by rw [kk_len] at x1; exact x1)
  have eH : ∀ (x : Nat) (i : Int), 114 ≤ x → x < (kk0 ++ Ls).length + 32 → own x ≠ 2 + k.toNat → H2 x i = H x i := fun x i x0 x1 x2 => by
    have q1 : ¬ (c ≤ x ∧ x ≤ c + 11) := fun hx => x2 (by rw [← eo x x0 x1]; exact oc x hx.1 hx.2)
    exact e x i (by unfold Tk5; omega)
  have eL : ∀ (x : Nat) (i : Int), 114 ≤ x → x < (kk0 ++ Ls).length + 32 → own x = 1 → H2 x i = H x i := fun x i x0 x1 x2 => eH x i x0 x1 (by omega)
  have eoL : ∀ x : Nat, 114 ≤ x → x < (kk0 ++ Ls).length + 32 → own x = 1 → own' x = 1 := fun x x0 x1 x2 => by rw [eo x x0 x1]; exact x2
  have hX2 : XL own' (kk0 ++ (Ls ++ E)) H2 41 (H2 82) (H2 82 1) := by
    rw [← List.append_assoc, e82]
    exact hX.step n6 (fun j _ _ => by rw [e41]) eoL eL (fun i _ _ => rfl)
  have hH2 : HR H2 33 (H2 82) := hH.same (fun x h1 h2 => er x (by omega) (by omega) (by omega) (by omega) (by omega) (by omega) (by omega)) (fun i _ => by rw [e82])
  have h41 : ∀ j : Int, 0 ≤ j → j < 6 → H2 (c + 8) j = H 41 j := hB.2.2.2.2.2.2.2.2.1
  refine ⟨⟨hS.tk (fun x i x0 x1 => e x i (by unfold Tk5 at x1 ⊢; omega)) ht, hH2⟩, hX2, fun t ht => ?_, fun k' k0 k1 => ?_, ⟨by rw [e82]; exact hs1, fun k' k0 k1 i i0 i1 => ?_⟩, ⟨(hD.ext).same (fun i hi => e _ _ (by unfold Tk5; omega)), by rw [oo a hlt.1]; exact oa, by rw [oo b hlt.2]; exact ob⟩, ?_, by rw [er 92 (by omega) (by omega) (by omega) (by omega) (by omega) (by omega) (by omega)]; exact hc1, by rw [er 93 (by omega) (by omega) (by omega) (by omega) (by omega) (by omega) (by omega)]; exact hc2⟩
  · rw [← List.append_assoc, e41]
    exact lawq_app (hq t ht)
  · by_cases hkk : k' = k
    · subst hkk
      refine Or.inr ⟨e4.2, c, e4.1, hc, hH.bec hB (fun i i0 i1 => e83 i i0 (by omega)), ?_, fun t ht => ?_, oc⟩
      · rw [e83 1 (by omega) (by omega), ← List.append_assoc]
        exact hX.step n6 h41 eoL eL (fun i i0 i1 => e83 i (by omega) i1)
      · rw [h41 t (by omega) (by omega), ← List.append_assoc]
        exact lawq_app (hq t ht)
    · rw [← List.append_assoc]
      exact (hI k' k0 k1).step k0 (fun x x0 x1 _ => eo x x0 x1) (e _ _ (by unfold Tk5; omega)) (e _ _ (by unfold Tk5; omega)) (fun i i0 i1 => e _ _ (by unfold Tk5; omega)) (fun x i x0 x1 x2 => eH x i x0 x1 (by omega))
  · by_cases hkk : k' = k
    · subst hkk
      show -100000000 ≤ H2 83 (5620 * k' + i) ∧ H2 83 (5620 * k' + i) ≤ 100000000
      rw [e83 i (by omega) i1]
      exact hs1 i i0 i1
    · show -100000000 ≤ H2 83 (5620 * k' + i) ∧ H2 83 (5620 * k' + i) ≤ 100000000
      rw [e 83 _ (by unfold Tk5; omega)]
      exact hs2 k' k0 k1 i i0 i1
  · obtain ⟨tw, hL⟩ := hX2.lo hH2.2.2.2.2.1.2
    exact ⟨tw, hL, Or.inl ht.2.1, Or.inl ht.2.2.2⟩
theorem Inv.ip (h : Inv p92 p93 Ls H a b rm own) (hk : 0 ≤ k ∧ k < 2) (hP : IP Ls H k Ls' H2) : ∃ own', Inv p92 p93 Ls' H2 a b rm own' ∧ (Ls' = Ls ∨ ∃ c, Ls' = Ls ++ hcells c) := by
  obtain ⟨c, hcs, hc, e4, hB, e83, ht, e⟩ := hP
  rcases hcs with ⟨hLs, h45, h84⟩ | ⟨rfl, hce, h84⟩
  · refine ⟨own, ?_, Or.inl hLs⟩
    rw [hLs] at hc ⊢
    rcases h.2.2.2.1 k hk.1 hk.2 with ⟨-, q⟩ | ⟨-, c', q1, -, -, -, -, q6⟩
    · omega
    · obtain rfl : c = c' := by omega
      have q := h.ip0 (E := []) hk (fun _ _ => rfl) q6 (by rw [List.append_nil]; exact hc) e4 hB e83 ht e
      rw [List.append_nil] at q
      exact q
  · exact ⟨owx own (82 + Ls.length + 32) (2 + k.toNat), h.ip0 hk (fun x hx => owx_lt hx) (fun x x0 x1 => owx_ge (by omega)) hc e4 hB e83 ht e, Or.inr ⟨c, rfl⟩⟩
theorem Inv.bp (h : Inv p92 p93 Ls H a b rm own) (hk : 0 ≤ k ∧ k < 2) (hP : BP Ls H k Ls' H2) : Inv p92 p93 Ls' H2 a b rm own := by
  obtain ⟨⟨hS, hH⟩, hX, hq, hI, ⟨hs1, hs2⟩, ⟨hD, oa, ob⟩, -, hc1, hc2⟩ := h
  obtain ⟨hLs, c, ⟨h45, h84⟩, hB, e82, ht, e⟩ := hP
  rw [hLs]
  rcases hI k hk.1 hk.2 with ⟨-, q⟩ | ⟨-, c', q1, ⟨q2, q2'⟩, q3, q4, q5, q6⟩
  · omega
  · obtain rfl : c = c' := by omega
    have er : ∀ x : Nat, ¬ (33 ≤ x ∧ x ≤ 44) → x ≠ 32 → x ≠ 59 → x ≠ 80 → x ≠ 82 → H2 x = H x := fun x _ _ _ _ _ => by
      funext i
      exact e x i (by unfold Tk5; omega)
    have n6 : H 83 (5620 * k + 1) ≤ 6 := q3.2.2.2.1.2.2
    have h41 : ∀ j : Int, 0 ≤ j → j < 6 → H2 41 j = H (c + 8) j := hB.2.2.2.2.2.2.2.2.1
    have eH : ∀ (x : Nat) (i : Int), 114 ≤ x → H2 x i = H x i := fun x i x0 => by rw [er x (by omega) (by omega) (by omega) (by omega) (by omega)]
    have hX2 : XL own (kk0 ++ Ls) H2 41 (H2 82) (H2 82 1) := by
      have q := q4.step (E := []) (x' := 41) (H' := H2) (r' := H2 82) (own' := own) n6 h41 (fun _ _ _ h => h) (fun x i x0 _ _ => eH x i x0) (fun i i0 i1 => e82 i (by omega) i1)
      rw [List.append_nil] at q
      rw [e82 1 (by omega) (by omega)]
      exact q
    have hH2 : HR H2 33 (H2 82) := q3.bec hB (fun i i0 i1 => e82 i i0 (by omega))
    refine ⟨⟨hS.tk (fun x i x0 x1 => e x i (by unfold Tk5 at x1 ⊢; omega)) ht, hH2⟩, hX2, fun t ht => ?_, fun k' k0 k1 => ?_, ⟨fun i i0 i1 => ?_, fun k' k0 k1 => by rw [er 83 (by omega) (by omega) (by omega) (by omega) (by omega)]; exact hs2 k' k0 k1⟩, ⟨hD.same (fun i hi => e _ _ (by unfold Tk5; omega)), oa, ob⟩, ?_, by rw [er 92 (by omega) (by omega) (by omega) (by omega) (by omega)]; exact hc1, by rw [er 93 (by omega) (by omega) (by omega) (by omega) (by omega)]; exact hc2⟩
    · rw [h41 t (by omega) (by omega)]
      exact q5 t ht
    · have q := (hI k' k0 k1).step (E := []) (H2 := H2) (own' := own) k0 (fun _ _ _ _ => rfl) (by rw [er 45 (by omega) (by omega) (by omega) (by omega) (by omega)]) (by rw [er 84 (by omega) (by omega) (by omega) (by omega) (by omega)]) (fun i _ _ => by rw [er 83 (by omega) (by omega) (by omega) (by omega) (by omega)]) (fun x i x0 _ _ => eH x i x0)
      rw [List.append_nil] at q
      exact q
    · rw [e82 i (by omega) i1]
      exact hs2 k hk.1 hk.2 i i0 i1
    · obtain ⟨tw, hL⟩ := hX2.lo hH2.2.2.2.2.1.2
      exact ⟨tw, hL, Or.inl ht.2.1, Or.inl ht.2.2.2⟩
end INV3
