/-! WHAT HOLDS BETWEEN THE CALLS, all of it -/
/-- an image of the class is that of the reference -/
def IM (own : Nat → Nat) (K : sm_K) (H : sm_H) (k : Int) : Prop := (H 45 k = 0 ∧ H 84 k = 0) ∨ (H 84 k = 1 ∧ ∃ b : Nat, H 45 k = (b : Int) ∧ (114 ≤ b ∧ HK K b) ∧ HR H b (fun i => H 83 (5620 * k + i)) ∧ XL own K H (b + 8) (fun i => H 83 (5620 * k + i)) (H 83 (5620 * k + 1)) ∧ (∀ t : Nat, t < 6 → sm_lawq K (H (b + 8) t).toNat = true) ∧ ∀ x : Nat, b ≤ x → x ≤ b + 11 → own x = 2 + k.toNat)
/-- the numbers of the laws are small -/
def Sm (r : Int → Int) : Prop := ∀ i : Int, 220 ≤ i → i < 5620 → -100000000 ≤ r i ∧ r i ≤ 100000000
/-- the law in force, and what both found with it -/
def Cash (K : sm_K) (H : sm_H) : Prop := ∃ tw, LO K H tw ∧ (H 59 0 = 1 ∨ (H 59 0 = 0 ∧ CC (H 82) tw H)) ∧ (H 80 39 = 0 ∨ (H 80 39 = 1 ∧ FS (H 82) tw H))
def Inv (p92 p93 : Int → Int) (Ls : sm_K) (H : sm_H) (a b rm : Nat) (own : Nat → Nat) : Prop :=
  (SR H ∧ HR H 33 (H 82)) ∧ XL own (kk0 ++ Ls) H 41 (H 82) (H 82 1) ∧ (∀ t : Nat, t < 6 → sm_lawq (kk0 ++ Ls) (H 41 t).toNat = true) ∧
  (∀ k : Int, 0 ≤ k → k < 2 → IM own (kk0 ++ Ls) H k) ∧ (Sm (H 82) ∧ ∀ k : Int, 0 ≤ k → k < 2 → Sm (fun i => H 83 (5620 * k + i))) ∧
  (DV Ls H a b rm ∧ own a = 4 ∧ own b = 4) ∧ Cash (kk0 ++ Ls) H ∧ (H 92 = p92 ∧ H 93 = p93)
section INV
variable {K E : sm_K} {Ls Ls' : sm_K} {H H' H2 : sm_H} {a b rm : Nat} {own own' : Nat → Nat} {p92 p93 : Int → Int} {k : Int} {tw : Int → (Int → Int) → Option Int}
theorem HR.bgn (h : HR H 33 (H 82)) : 0 ≤ bgn (H 82) ∧ bgn (H 82) < sd (H 82) (H 82 0).toNat := en_lt _ h.lnk (fun c hc => by
  have := h.1.2.2.1 c (by omega) (by omega)
  omega)
theorem Bec.same {b : Nat} (e : ∀ (x : Nat) (i : Int), b ≤ x → x ≤ b + 11 → H2 x i = H x i) : Bec H H2 b b := ⟨fun i _ => e _ _ (by omega) (by omega), fun i _ _ => e _ _ (by omega) (by omega), fun i _ _ => e _ _ (by omega) (by omega), fun i _ _ => e _ _ (by omega) (by omega), fun i _ _ => e _ _ (by omega) (by omega), fun i _ _ => e _ _ (by omega) (by omega), fun i _ _ => e _ _ (by omega) (by omega), fun i _ _ => e _ _ (by omega) (by omega), fun i _ _ => e _ _ (by omega) (by omega), fun i _ _ => e _ _ (by omega) (by omega), fun i _ _ => e _ _ (by omega) (by omega), fun i _ _ => e _ _ (by omega) (by omega)⟩
theorem LO.deaf (h : LO (kk0 ++ Ls) H tw) (e : ∀ i : Int, i ≠ 7 → H2 82 i = H 82 i) (e41 : ∀ i, H2 41 i = H 41 i) (eH : ∀ (x : Nat) (i : Int), 114 ≤ x → H2 x i = H x i) : LO (kk0 ++ Ls) H2 tw := by
  unfold LO at h ⊢
  rw [e 2 (by omega), e 1 (by omega), e41]
  rcases h with h | ⟨h1, cl, hd, Vs, Vt, hB, hM, ht⟩
  · exact Or.inl h
  · refine Or.inr ⟨h1, cl, hd, Vs, Vt, ?_, hM.congr (fun i i0 _ => e i (by omega)), ht⟩
    obtain ⟨f, g, ng, q, xf, xg, ⟨k1, k2, k3⟩, ⟨b1, b2, b3, b4, b5⟩, -⟩ := id hB
    have q := hB.step (E := []) (H' := H2) (fun x i hx => by
      obtain ⟨q', f', g', hk, hx⟩ := hx
      rw [k1] at hk
      cases hk
      exact eH _ _ (by omega))
    rw [List.append_nil] at q
    exact q
/-- an image behind a call that leaves it -/
theorem IM.step (h : IM own K H k) (hk : 0 ≤ k) (eo : ∀ x : Nat, 114 ≤ x → x < K.length + 32 → own x ≠ 0 → own' x = own x) (e45 : H2 45 k = H 45 k) (e84 : H2 84 k = H 84 k) (e83 : ∀ i : Int, 0 ≤ i → i < 5620 → H2 83 (5620 * k + i) = H 83 (5620 * k + i)) (eH : ∀ (x : Nat) (i : Int), 114 ≤ x → x < K.length + 32 → (own x = 1 ∨ own x = 2 + k.toNat) → H2 x i = H x i) : IM own' (K ++ E) H2 k := by
  rcases h with ⟨h1, h2⟩ | ⟨h1, b, h2, ⟨hb, hK⟩, h3, h4, h5, h6⟩
  · exact Or.inl ⟨by rw [e45]; exact h1, by rw [e84]; exact h2⟩
  · have hlt : b + 11 < K.length + 32 := (kd_lt hK.2.2.2.2.2.2.2.2.2.2.2).2
    have hx : ∀ (x : Nat) (i : Int), b ≤ x → x ≤ b + 11 → H2 x i = H x i := fun x i x0 x1 => eH x i (by omega) (by omega) (Or.inr (h6 x x0 x1))
    have n6 : H 83 (5620 * k + 1) ≤ 6 := h3.2.2.2.1.2.2
    refine Or.inr ⟨by rw [e84]; exact h1, b, by rw [e45]; exact h2, ⟨hb, hK.app⟩, h3.bec (Bec.same hx) (fun i i0 i1 => e83 i i0 (by omega)), ?_, fun t ht => ?_, fun x x0 x1 => ?_⟩
    · rw [e83 1 (by omega) (by omega)]
      exact h4.step n6 (fun j _ _ => hx _ _ (by omega) (by omega)) (fun x x0 x1 x2 => by rw [eo x x0 x1 (by omega)]; exact x2) (fun x i x0 x1 x2 => eH x i x0 x1 (Or.inl x2)) (fun i i0 i1 => e83 i (by omega) i1)
    · rw [hx _ _ (by omega) (by omega)]
      exact lawq_app (h5 t ht)
    · have := h6 x x0 x1
      rw [eo x (by omega) (by omega) (by omega)]
      exact this
/-- behind a simple call -/
theorem Inv.good (h : Inv p92 p93 Ls H a b rm own) (g : Good H H2) : Inv p92 p93 Ls H2 a b rm own := by
  obtain ⟨⟨hS, hH⟩, hX, hq, hI, ⟨hs1, hs2⟩, ⟨hD, oa, ob⟩, ⟨tw, hL, hC, hF⟩, hc1, hc2⟩ := h
  obtain ⟨gS, gH, f1, ⟨f2, f3, f4⟩, f5, f6, f7, f8⟩ := g
  have eH : ∀ (x : Nat) (i : Int), 114 ≤ x → H2 x i = H x i := fun x i x0 => by rw [f1 x (by omega)]
  have n6 : H 82 1 ≤ 6 := hH.2.2.2.1.2.2
  have h0 := hH.rn
  have hX2 : XL own (kk0 ++ Ls) H2 41 (H2 82) (H2 82 1) := by
    have q := hX.step (E := []) (x' := 41) (H' := H2) (r' := H2 82) (own' := own) n6 (fun j _ _ => by rw [f1 41 (by omega)]) (fun _ _ _ h => h) (fun x i x0 _ _ => eH x i x0) (fun i i0 _ => f4 i i0)
    rw [List.append_nil] at q
    rw [f3]
    exact q
  refine ⟨⟨gS, gH⟩, hX2, fun t ht => by rw [f1 41 (by omega)]; exact hq t ht, fun k k0 k1 => ?_, ⟨fun i i0 i1 => by rw [f4 i i0]; exact hs1 i i0 i1, fun k k0 k1 => by rw [f1 83 (by omega)]; exact hs2 k k0 k1⟩, ⟨hD.same (fun i hi => f5 i (by omega)), oa, ob⟩, ?_, by rw [f1 92 (by omega)]; exact hc1, by rw [f1 93 (by omega)]; exact hc2⟩
  · have q := (hI k k0 k1).step (E := []) (H2 := H2) (own' := own) k0 (fun _ _ _ _ => rfl) (by rw [f1 45 (by omega)]) (by rw [f1 84 (by omega)]) (fun i _ _ => by rw [f1 83 (by omega)]) (fun x i x0 _ _ => eH x i x0)
    rw [List.append_nil] at q
    exact q
  · by_cases he : ∀ i : Int, i ≠ 7 → H2 82 i = H 82 i
    · refine ⟨tw, hL.deaf he (fun i => by rw [f1 41 (by omega)]) eH, ?_, ?_⟩
      · rcases f7 with z | ⟨z, -⟩
        · exact Or.inl z
        · rw [z]
          exact hC.elim Or.inl (fun q => Or.inr ⟨q.1, q.2.deaf he h0.1 h0.2 hH.lnk hH.bgn (fun x i hx => by
            rcases hx with ⟨rfl, h1, h2⟩ | rfl
            · exact f5 i (by omega)
            · rw [f1 60 (by omega)])⟩)
      · rcases f8 with z | ⟨z, -⟩
        · exact Or.inl z
        · rw [z]
          exact hF.elim Or.inl (fun q => Or.inr ⟨q.1, q.2.deaf he h0.1 hH.lnk (fun i => by rw [f1 98 (by omega)]) (fun i => by rw [f1 99 (by omega)]) (fun i => by rw [f1 100 (by omega)]) (f6 47 (by omega))⟩)
    · obtain ⟨tw', hL'⟩ := hX2.lo gH.2.2.2.2.1.2
      exact ⟨tw', hL', f7.elim Or.inl (fun q => absurd q.2 he), f8.elim Or.inl (fun q => absurd q.2 he)⟩
end INV
