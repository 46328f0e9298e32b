/-! behind drive, calls, dogs; behind image; behind back -/
section INV2
variable {K E : sm_K} {Ls Ls' : sm_K} {H H' H2 : sm_H} {a b rm : Nat} {own own' : Nat → Nat} {p92 p93 : Int → Int} {k : Int} {tw : Int → (Int → Int) → Option Int}
theorem kk_len : (kk0 ++ Ls).length + 32 = 82 + Ls.length + 32 := by rw [List.length_append, kk0_len]
theorem DV.lt (h : DV Ls H a b rm) : a < 82 + Ls.length + 32 ∧ b < 82 + Ls.length + 32 := by
  rcases h.2 with ⟨h1, h2, -⟩ | ⟨-, ⟨x, h1⟩, ⟨y, h2⟩, -⟩
  · omega
  · have q1 := (kd_lt h1).2
    have q2 := (kd_lt h2).2
    rw [kk_len] at q1 q2
    exact ⟨q1, q2⟩
theorem DV.ext (h : DV Ls H a b rm) : DV (Ls ++ E) H a b rm := by
  refine ⟨h.1, h.2.elim Or.inl (fun ⟨h1, ⟨x, h2⟩, ⟨y, h3⟩, h4⟩ => Or.inr ⟨h1, ⟨x, ?_⟩, ⟨y, ?_⟩, h4⟩)⟩
  · rw [← List.append_assoc]
    exact kd_app h2
  · rw [← List.append_assoc]
    exact kd_app h3
/-- the owners, when cells are made for w -/
def owx (own : Nat → Nat) (n w : Nat) (x : Nat) : Nat := if x < n then own x else w
theorem owx_lt {n w x : Nat} (h : x < n) : owx own n w x = own x := by unfold owx; rw [if_pos h]
theorem owx_ge {n w x : Nat} (h : ¬ x < n) : owx own n w x = w := by unfold owx; rw [if_neg h]
/-- behind drive, calls, dogs: one way of saying both cases -/
theorem Inv.dp0 {a' b' rm' : Nat} (h : Inv p92 p93 Ls H a b rm own) (hD : DV (Ls ++ E) H2 a' b' rm') (oo : ∀ x : Nat, x < 82 + Ls.length + 32 → own' x = own x) (oa : own' a' = 4) (ob : own' b' = 4) (hL : LO (kk0 ++ Ls) H tw) (hC : H2 59 0 = 1 ∨ (H2 59 0 = 0 ∧ CC (H 82) tw H2)) (hF : H2 80 39 = 0 ∨ (H2 80 39 = 1 ∧ FS (H 82) tw H2)) (e : ∀ x i, ¬ Gt a' b' x i → H2 x i = H x i) : Inv p92 p93 (Ls ++ E) H2 a' b' rm' own' := by
  obtain ⟨⟨hS, hH⟩, hX, hq, hI, ⟨hs1, hs2⟩, -, -, hc1, hc2⟩ := h
  have hab := hD.ab
  have er : ∀ x : Nat, x < 114 → ¬ (50 ≤ x ∧ x ≤ 65) → ¬ (94 ≤ x ∧ x ≤ 104) → x ≠ 80 → H2 x = H x := fun x x0 x1 x2 x3 => by
    funext i
    exact e x i (by unfold Gt; omega)
  have n6 : H 82 1 ≤ 6 := hH.2.2.2.1.2.2
  have e82 := er 82 (by omega) (by omega) (by omega) (by omega)
  have e41 := er 41 (by omega) (by omega) (by omega) (by omega)
  have eo : ∀ x : Nat, 114 ≤ x → x < (kk0 ++ Ls).length + 32 → own' x = own x := fun x _ x1 => oo x (by rw [kk_len] at x1; exact x1)
  have eH : ∀ (x : Nat) (i : Int), 114 ≤ x → x < (kk0 ++ Ls).length + 32 → own x ≠ 4 → H2 x i = H x i := fun x i x0 x1 x2 => by
    have q1 : x ≠ a' := fun hx => x2 (by rw [← eo x x0 x1, hx]; exact oa)
    have q2 : x ≠ b' := fun hx => x2 (by rw [← eo x x0 x1, hx]; exact ob)
    exact e x i (by unfold Gt; omega)
  have hX2 : XL own' (kk0 ++ (Ls ++ E)) H2 41 (H2 82) (H2 82 1) := by
    rw [← List.append_assoc, e82]
    exact hX.step n6 (fun j _ _ => by rw [e41]) (fun x x0 x1 x2 => by rw [eo x x0 x1]; exact x2) (fun x i x0 x1 x2 => eH x i x0 x1 (by omega)) (fun i _ _ => rfl)
  have hL2 : LO (kk0 ++ Ls) H2 tw := hL.congr2 (fun x i hx => by
    rcases hx with rfl | rfl | hx
    · rw [e41]
    · rw [e82]
    · have q1 := LC.of hL hx
      have q2 := (LC.lt (E := []) hL (by rw [List.append_nil]; exact hx)).2
      by_cases ho : own x = 1
      · exact eH x i q1 (by rw [kk_len]; exact q2) (by omega)
      · exact absurd hx (hX.nlc hH.2.2.2.2.1.2 ho))
  refine ⟨⟨hS.congr (e _ _ (by unfold Gt; omega)) (e _ _ (by unfold Gt; omega)) (er _ (by omega) (by omega) (by omega) (by omega)) (er _ (by omega) (by omega) (by omega) (by omega)) (e _ _ (by unfold Gt; omega)) (e _ _ (by unfold Gt; omega)) (e _ _ (by unfold Gt; omega)) (e _ _ (by unfold Gt; omega)) ?_ (fun k k1 k2 => ?_) (e _ _ (by unfold Gt; omega)) (e _ _ (by unfold Gt; omega)) (er _ (by omega) (by omega) (by omega) (by omega)) (er _ (by omega) (by omega) (by omega) (by omega)) (hF.elim Or.inl (fun q => Or.inr q.1)), hH.same (fun x h1 h2 => er x (by omega) (by omega) (by omega) (by omega)) (fun i _ => by rw [e82])⟩, hX2, fun t ht => ?_, fun k k0 k1 => ?_, ⟨by rw [e82]; exact hs1, fun k k0 k1 => by rw [er 83 (by omega) (by omega) (by omega) (by omega)]; exact hs2 k k0 k1⟩, ⟨hD, oa, ob⟩, ⟨tw, hL2.ext, ?_, ?_⟩, by rw [er 92 (by omega) (by omega) (by omega) (by omega)]; exact hc1, by rw [er 93 (by omega) (by omega) (by omega) (by omega)]; exact hc2⟩
  · rw [er 32 (by omega) (by omega) (by omega) (by omega), e 80 1 (by unfold Gt; omega)]
    exact hS.2.2.2.2.1
  · rw [er 79 (by omega) (by omega) (by omega) (by omega), er 81 (by omega) (by omega) (by omega) (by omega)]
    exact hS.2.2.2.2.2.1 k k1 k2
  · rw [← List.append_assoc, e41]
    exact lawq_app (hq t ht)
  · rw [← List.append_assoc]
    exact (hI k k0 k1).step k0 (fun x x0 x1 _ => eo x x0 x1) (by rw [er 45 (by omega) (by omega) (by omega) (by omega)]) (by rw [er 84 (by omega) (by omega) (by omega) (by omega)]) (fun i _ _ => by rw [er 83 (by omega) (by omega) (by omega) (by omega)]) (fun x i x0 x1 x2 => eH x i x0 x1 (by omega))
  · rw [e82]
    exact hC
  · rw [e82]
    exact hF
theorem Inv.dp (h : Inv p92 p93 Ls H a b rm own) (hL : LO (kk0 ++ Ls) H tw) (hP : DP Ls H tw a b rm Ls' H2) : ∃ a' b' rm' own', Inv p92 p93 Ls' H2 a' b' rm' own' ∧ Grow Ls Ls' a b rm a' b' rm' := by
  obtain ⟨a', b', rm', hG, hD, hC, hF, e⟩ := hP
  obtain ⟨hDV, oa, ob⟩ := h.2.2.2.2.2.1
  rcases id hG with ⟨rfl, rfl, rfl, rfl⟩ | ⟨rfl, ha, hb, -⟩
  · refine ⟨_, _, _, own, ?_, hG⟩
    have q := h.dp0 (E := []) (by rw [List.append_nil]; exact hD) (fun _ _ => rfl) oa ob hL hC hF e
    rw [List.append_nil] at q
    exact q
  · exact ⟨_, _, _, owx own (82 + Ls.length + 32) 4, h.dp0 hD (fun x hx => owx_lt hx) (owx_ge (by omega)) (owx_ge (by omega)) hL hC hF e, hG⟩
end INV2
