/-! the laws between the calls -/
section LAWS
variable {K E : sm_K} {Ls : sm_K} {H H' : sm_H} {r r' : Int → Int} {k : Int} {La cl : Nat} {hd : Nat → Int} {Vs Vt : Nat → (Int → Int) → Option Int} {own own' : Nat → Nat}
theorem sR_ea {lw : Int} (e : ∀ i : Int, lw ≤ i → i < lw + 900 → r' i = r i) : sR r' lw = sR r lw := by
  funext se z
  unfold sR
  by_cases hz : z.2.length ≤ 399 ∧ 0 ≤ z.1 ∧ z.1 < 400
  · rw [if_pos hz, if_pos hz, e (lw + 98 + 2 * z.1) (by omega) (by omega), e (lw + 98 + 2 * z.1 + 1) (by omega) (by omega)]
  · rw [if_neg hz, if_neg hz]
theorem LM.congr (h : LM r k cl hd Vs Vt) (e : ∀ i : Int, 220 + 900 * k ≤ i → i < 220 + 900 * k + 900 → r' i = r i) : LM r' k cl hd Vs Vt := by
  unfold LM at h ⊢
  obtain ⟨h1, h2, h3, h4⟩ := h
  refine ⟨by rw [e _ (by omega) (by omega)]; exact h1, h2, fun i i0 i1 => by rw [e _ (by omega) (by omega)]; exact h3 i i0 i1, fun i hi => ?_⟩
  rw [sR_ea e, e (220 + 900 * k + 2 + 8 * i) (by omega) (by omega), e (220 + 900 * k + 2 + 8 * i + 3) (by omega) (by omega), e (220 + 900 * k + 2 + 8 * i + 4) (by omega) (by omega), e (220 + 900 * k + 2 + 8 * i + 5) (by omega) (by omega), e (220 + 900 * k + 2 + 8 * i + 6) (by omega) (by omega)]
  exact h4 i hi
theorem LB.step (h : LB K H La cl hd Vs Vt) (e : ∀ (x : Nat) (i : Int), (∃ q f g, sm_kd K La = some (4, (3, [q, f, g])) ∧ (x = La ∨ x = f ∨ x = g)) → H' x i = H x i) : LB (K ++ E) H' La cl hd Vs Vt := by
  obtain ⟨f, g, ng, q, xf, xg, ⟨k1, k2, k3⟩, hb, h1⟩ := h
  have eL : H' La = H La := by
    funext i
    exact e _ _ ⟨q, f, g, k1, Or.inl rfl⟩
  have ef : H' f = H f := by
    funext i
    exact e _ _ ⟨q, f, g, k1, Or.inr (Or.inl rfl)⟩
  have eg : H' g = H g := by
    funext i
    exact e _ _ ⟨q, f, g, k1, Or.inr (Or.inr rfl)⟩
  refine ⟨f, g, ng, q, xf, xg, ⟨kd_app k1, kd_app k2, kd_app k3⟩, hb, ?_⟩
  rw [eL, ef, eg]
  exact h1
/-- the k-th law, at La in the class, in the row r of the reference -/
def XB (own : Nat → Nat) (K : sm_K) (H : sm_H) (La : Nat) (r : Int → Int) (k : Int) : Prop := ∃ (cl : Nat) (hd : Nat → Int) (Vs Vt : Nat → (Int → Int) → Option Int), LB K H La cl hd Vs Vt ∧ LM r k cl hd Vs Vt ∧ ∀ q f g, sm_kd K La = some (4, (3, [q, f, g])) → own La = 1 ∧ own f = 1 ∧ own g = 1
theorem XB.step (h : XB own K H La r k) (eo : ∀ x : Nat, 114 ≤ x → x < K.length + 32 → own x = 1 → own' x = 1) (eH : ∀ (x : Nat) (i : Int), 114 ≤ x → x < K.length + 32 → own x = 1 → H' x i = H x i) (er : ∀ i : Int, 220 + 900 * k ≤ i → i < 220 + 900 * k + 900 → r' i = r i) : XB own' (K ++ E) H' La r' k := by
  obtain ⟨cl, hd, Vs, Vt, hB, hM, ho⟩ := h
  obtain ⟨f, g, ng, q, xf, xg, ⟨k1, k2, k3⟩, ⟨b1, b2, b3, b4, b5⟩, h1⟩ := id hB
  have oo := ho q f g k1
  have l1 := (kd_lt k1).2
  have l2 := (kd_lt k2).2
  have l3 := (kd_lt k3).2
  refine ⟨cl, hd, Vs, Vt, hB.step (fun x i hx => ?_), hM.congr er, fun q' f' g' hk => ?_⟩
  · obtain ⟨q', f', g', hk, hx⟩ := hx
    rw [k1] at hk
    cases hk
    rcases hx with rfl | rfl | rfl
    · exact eH _ _ b3 (by omega) oo.1
    · exact eH _ _ b4 (by omega) oo.2.1
    · exact eH _ _ b5 (by omega) oo.2.2
  · rw [kd_app k1] at hk
    cases hk
    exact ⟨eo _ b3 (by omega) oo.1, eo _ b4 (by omega) oo.2.1, eo _ b5 (by omega) oo.2.2⟩
/-- the laws of the Herd whose law row is x -/
def XL (own : Nat → Nat) (K : sm_K) (H : sm_H) (x : Nat) (r : Int → Int) (n : Int) : Prop := ∀ j : Int, 0 ≤ j → j < n → XB own K H (H x j).toNat r j
theorem XL.step {x x' : Nat} {n : Int} (h : XL own K H x r n) (hn : n ≤ 6) (ex : ∀ j : Int, 0 ≤ j → j < 6 → H' x' j = H x j) (eo : ∀ x : Nat, 114 ≤ x → x < K.length + 32 → own x = 1 → own' x = 1) (eH : ∀ (x : Nat) (i : Int), 114 ≤ x → x < K.length + 32 → own x = 1 → H' x i = H x i) (er : ∀ i : Int, 220 ≤ i → i < 5620 → r' i = r i) : XL own' (K ++ E) H' x' r' n := fun j j0 j1 => by
  rw [ex j j0 (by omega)]
  exact (h j j0 j1).step eo eH (fun i i0 i1 => er i (by omega) (by omega))
/-- a law in force gives what the calls ask for -/
theorem XL.lo (h : XL own (kk0 ++ Ls) H 41 (H 82) (H 82 1)) (h2 : -1 ≤ H 82 2 ∧ H 82 2 < H 82 1) : ∃ tw, LO (kk0 ++ Ls) H tw := by
  by_cases hm : H 82 2 = -1
  · exact ⟨_, Or.inl ⟨hm, rfl⟩⟩
  · obtain ⟨cl, hd, Vs, Vt, hB, hM, -⟩ := h (H 82 2) (by omega) h2.2
    exact ⟨_, Or.inr ⟨⟨by omega, h2.2⟩, cl, hd, Vs, Vt, hB, hM, rfl⟩⟩
/-- what is not a law's is no cell of the law in force -/
theorem XL.nlc (h : XL own (kk0 ++ Ls) H 41 (H 82) (H 82 1)) (h2 : -1 ≤ H 82 2 ∧ H 82 2 < H 82 1) {x : Nat} (hx : own x ≠ 1) : ¬ LC Ls H x := by
  rintro ⟨q, f, g, hk, hc⟩
  by_cases hm : H 82 2 = -1
  · have e0 : la H = 0 := by unfold la; rw [if_pos hm]
    rw [e0] at hk
    have := (kd_lt hk).1
    omega
  · obtain ⟨cl, hd, Vs, Vt, hB, hM, ho⟩ := h (H 82 2) (by omega) h2.2
    have e0 : la H = (H 41 (H 82 2)).toNat := by unfold la; rw [if_neg hm]
    rw [e0] at hk hc
    have oo := ho q f g hk
    rcases hc with rfl | rfl | rfl
    · exact hx oo.1
    · exact hx oo.2.1
    · exact hx oo.2.2
end LAWS
