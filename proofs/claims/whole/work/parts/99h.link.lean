/-! what the search in breadth has found, and the shortest drives -/
section LINK
variable {r : Int → Int} {tw : Int → (Int → Int) → Option Int} {g best : Int} {G0 G : sm_H} {ln : List Int}
theorem Em0 : Em r tw 0 = Eg r tw (r 5) := by
  funext s c
  unfold Em
  rw [if_pos rfl]
theorem SE.lv (h : SE r tw g G0 G ln best) : ∀ (j : Nat) (t : Int), t ∈ wlk (Eg r tw g) (r 0).toNat j (bgn r) → t ∈ ln ∧ G 101 t ≤ j := fun j t ht =>
  h.2.2.1.lvl (d := j) (fun i v hi _ => (List.getElem?_eq_some_iff.mp hi).1) j (Int.le_refl _) t ht
theorem SE.wk (h : SE r tw g G0 G ln best) {t : Int} (ht : t ∈ ln) : t ∈ wlk (Eg r tw g) (r 0).toNat (G 101 t).toNat (bgn r) ∧ 0 ≤ G 101 t := by
  have h0 := h.2.2.1.2.2.1.2 t ht
  exact ⟨h.2.2.1.wk (by omega) _ t ht (by omega), h0⟩
theorem SE.mem (h : SE r tw g G0 G ln best) {t : Int} : t ∈ ln ↔ ∃ j, t ∈ wlk (Eg r tw g) (r 0).toNat j (bgn r) := ⟨fun ht => ⟨_, (h.wk ht).1⟩, fun ⟨j, hj⟩ => (h.lv j t hj).1⟩
theorem SE.wy (h : SE r tw g G0 G ln best) {t : Int} (ht : t ∈ ln) : G 103 t = sat (cwk (Eg r tw g) (r 0).toNat (bgn r) (G 101) t) :=
  h.2.2.1.ways (by omega) ht (fun i v hi _ => (List.getElem?_eq_some_iff.mp hi).1) (fun s hs => by rw [List.getElem?_eq_none (Nat.le_refl _)] at hs; cases hs)
/-- the best is the nearest goal -/
theorem SE.nearest (h : SE r tw g G0 G ln best) : (best = -1 ∧ ∀ j, pn (Eg r tw g) (r 0).toNat (gol r) j (bgn r) = 0) ∨ ∃ j : Nat, best = j ∧ 0 < pn (Eg r tw g) (r 0).toNat (gol r) j (bgn r) ∧ ∀ i, i < j → pn (Eg r tw g) (r 0).toNat (gol r) i (bgn r) = 0 := by
  rcases h.2.2.2.1 with ⟨q1, q2⟩ | ⟨i, v, q1, q2, q3, q4, q5⟩
  · refine Or.inl ⟨q1, fun j => ?_⟩
    refine Classical.byContradiction (fun hne => ?_)
    obtain ⟨t, t1, t2⟩ := pn_pos.mp (Nat.pos_of_ne_zero hne)
    have ht := (h.lv j t t1).1
    obtain ⟨i, hi⟩ := List.getElem?_of_mem ht
    rw [q2 i t (List.getElem?_eq_some_iff.mp hi).1 hi] at t2
    simp at t2
  · have hv := List.mem_of_getElem? q2
    have hw := h.wk hv
    refine Or.inr ⟨(G 101 v).toNat, by omega, pn_pos.mpr ⟨v, hw.1, q3⟩, fun j hj => ?_⟩
    refine Classical.byContradiction (fun hne => ?_)
    obtain ⟨t, t1, t2⟩ := pn_pos.mp (Nat.pos_of_ne_zero hne)
    obtain ⟨ht, hf⟩ := h.lv j t t1
    obtain ⟨i2, hi2⟩ := List.getElem?_of_mem ht
    rcases Nat.lt_or_ge i2 i with h1 | h1
    · rw [q5 i2 t h1 hi2] at t2
      simp at t2
    · have := h.2.2.1.2.2.2.1.1 i i2 v t h1 q2 hi2
      omega
/-- how many: over the goals of that level -/
def gsu (r : Int → Int) (fa : Int → Int) (best : Int) (wv : Int → Nat) (l : List Int) : Nat := (l.map (fun v => if fa v = best ∧ gol r v = true then wv v else 0)).sum
theorem SE.sum (h : SE r tw g G0 G ln best) (hb : best ≠ -1) : gsu r (G 101) best (cwk (Eg r tw g) (r 0).toNat (bgn r) (G 101)) ln = pn (Eg r tw g) (r 0).toNat (gol r) best.toNat (bgn r) := by
  rcases h.nearest with ⟨q, -⟩ | ⟨j, q1, q2, q3⟩
  · exact absurd q hb
  · subst q1
    rw [Int.toNat_natCast]
    unfold pn
    have e1 : (wlk (Eg r tw g) (r 0).toNat j (bgn r)).countP (gol r) = ((wlk (Eg r tw g) (r 0).toNat j (bgn r)).map (fun u => if gol r u = true then 1 else 0)).sum := by
      induction wlk (Eg r tw g) (r 0).toNat j (bgn r) with
      | nil => rfl
      | cons u W ih => rw [List.countP_cons, List.map_cons, List.sum_cons, ih]; omega
    rw [e1, regroup (f := fun u => if gol r u = true then 1 else 0) h.2.2.1.1.1 _ (fun u hu _ => (h.lv j u hu).1)]
    unfold gsu
    congr 1
    refine List.map_congr_left (fun v hv => ?_)
    by_cases hg : gol r v = true
    · rw [if_pos hg, Nat.mul_one]
      by_cases hf : G 101 v = (j : Int)
      · rw [if_pos ⟨hf, hg⟩]
        unfold cwk
        rw [hf, Int.toNat_natCast]
      · rw [if_neg (fun q => hf q.1)]
        refine (List.count_eq_zero.mpr (fun hm => ?_)).symm
        have h1 := (h.lv j v hm).2
        have hw := h.wk hv
        have := q3 (G 101 v).toNat (by omega)
        have hp : 0 < pn (Eg r tw g) (r 0).toNat (gol r) (G 101 v).toNat (bgn r) := pn_pos.mpr ⟨v, hw.1, hg⟩
        omega
    · rw [if_neg hg, Nat.mul_zero, if_neg (fun q => hg q.2)]
/-- sums of capped numbers, capped -/
theorem sat_sum {fa : Int → Int} {wv : Int → Nat} : ∀ (l : List Int), sat (gsu r fa best wv l) = if (1000000000 : Int) < (l.map (fun v => if fa v = best ∧ gol r v = true then sat (wv v) else 0)).sum then 1000000000 else (l.map (fun v => if fa v = best ∧ gol r v = true then sat (wv v) else 0)).sum
  | [] => by unfold gsu sat; simp
  | v :: l => by
    have ih := sat_sum (fa := fa) (wv := wv) l
    have hnn : ∀ l : List Int, 0 ≤ (l.map (fun v => if fa v = best ∧ gol r v = true then sat (wv v) else 0)).sum := fun l => by
      induction l with
      | nil => simp
      | cons v l ih =>
        rw [List.map_cons, List.sum_cons]
        have := sat_b (x := wv v)
        split <;> omega
    have h1 := hnn l
    have e : gsu r fa best wv (v :: l) = (if fa v = best ∧ gol r v = true then wv v else 0) + gsu r fa best wv l := rfl
    rw [e, ← sat_add, ih, List.map_cons, List.sum_cons]
    generalize (l.map (fun v => if fa v = best ∧ gol r v = true then sat (wv v) else 0)).sum = X at *
    have hsv := sat_b (x := wv v)
    have h0 : sat 0 = 0 := rfl
    by_cases hc : fa v = best ∧ gol r v = true
    · rw [if_pos hc, if_pos hc]
      generalize sat (wv v) = Y at *
      repeat' split
      all_goals omega
    · rw [if_neg hc, if_neg hc, h0]
      repeat' split
      all_goals omega
theorem SE.bgr (h : SE r tw g G0 G ln best) : 0 ≤ bgn r ∧ bgn r < sd r (r 0).toNat := h.2.2.1.1.2.2 _ (List.mem_of_getElem? h.2.2.1.1.2.1)
/-- the class's numbers out of the reference's -/
theorem SE.ah (hl : lnk r (r 0).toNat) (h5 : r 0 ≤ 5) (h : SE r tw (r 5) G0 G ln best) : best = (if Ah r tw (bgn r) = 47 then -1 else Ah r tw (bgn r) - 1) ∧ (best = -1 → Wy r tw (bgn r) = 0) ∧ (best ≠ -1 → Wy r tw (bgn r) = sat (pn (Eg r tw (r 5)) (r 0).toNat (gol r) best.toNat (bgn r))) := by
  have hs := dst_spec (E := Em r tw 0) (n := (r 0).toNat) (gl := gol r) (s := bgn r) (fun j hj => pn_45 hl h5 h.bgr hj)
  have hb := h.nearest
  rw [← Em0] at hb
  show best = (if ahv _ _ _ _ = 47 then -1 else ahv _ _ _ _ - 1) ∧ (best = -1 → wyv _ _ _ _ = 0) ∧ (best ≠ -1 → wyv _ _ _ _ = _)
  rw [← Em0]
  rcases hs with ⟨hz, hno⟩ | ⟨j, j1, j2, j3, hz⟩
  · have z1 : ahv (Em r tw 0) (r 0).toNat (gol r) (bgn r) = 47 := congrArg Prod.fst hz
    have z2 : wyv (Em r tw 0) (r 0).toNat (gol r) (bgn r) = 0 := congrArg Prod.snd hz
    rw [z1, z2, if_pos rfl]
    rcases hb with ⟨q1, -⟩ | ⟨i, q1, q2, -⟩
    · exact ⟨q1, fun _ => rfl, fun q => absurd q1 q⟩
    · have : pn (Em r tw 0) (r 0).toNat (gol r) i (bgn r) = 0 := hno i
      omega
  · have z1 : ahv (Em r tw 0) (r 0).toNat (gol r) (bgn r) = (j : Int) + 1 := congrArg Prod.fst hz
    have z2 : wyv (Em r tw 0) (r 0).toNat (gol r) (bgn r) = sat (pn (Em r tw 0) (r 0).toNat (gol r) j (bgn r)) := congrArg Prod.snd hz
    rw [z1, z2, if_neg (by omega)]
    rcases hb with ⟨q1, q2⟩ | ⟨i, q1, q2, q3⟩
    · have : 0 < pn (Em r tw 0) (r 0).toNat (gol r) j (bgn r) := j2
      rw [q2 j] at this
      omega
    · have hij : i = j := by
        rcases Nat.lt_trichotomy i j with hh | hh | hh
        · have : pn (Em r tw 0) (r 0).toNat (gol r) i (bgn r) = 0 := j3 i hh
          omega
        · exact hh
        · have : 0 < pn (Em r tw 0) (r 0).toNat (gol r) j (bgn r) := j2
          rw [q3 j hh] at this
          omega
      subst hij
      exact ⟨by omega, fun q => by omega, fun _ => by rw [q1, Int.toNat_natCast]⟩
end LINK
