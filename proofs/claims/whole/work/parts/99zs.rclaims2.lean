section RCLAIMS2
variable {d : Nat} {Q : sm_O → Prop} {Ls : sm_K} {S : sm_E} {T : Int → Int} {n te : Int}
theorem opq_r {q : Int} (lv : Nat) (h : opq T n q lv ≠ -1) : (lv = 6 → opq T n q lv = 2 ∨ opq T n q lv = 3) ∧ (lv = 5 → opq T n q lv = 0 ∨ opq T n q lv = 1) ∧ (lv = 2 → opq T n q lv = 8) ∧ (lv = 1 → opq T n q lv = 9) := by
  refine ⟨fun e => ?_, fun e => ?_, fun e => ?_, fun e => ?_⟩
  · subst e
    by_cases s1 : sgq T n q 42
    · left; simp [opq, s1]
    · by_cases s2 : sgq T n q 47
      · right; simp [opq, s1, s2]
      · exact absurd (by simp [opq, s1, s2]) h
  · subst e
    by_cases s1 : sgq T n q 43
    · left; simp [opq, s1]
    · by_cases s2 : sgq T n q 45
      · right; simp [opq, s1, s2]
      · exact absurd (by simp [opq, s1, s2]) h
  · subst e
    by_cases s1 : iw T n q 1476
    · simp [opq, s1]
    · exact absurd (by simp [opq, s1]) h
  · subst e
    by_cases s1 : iw T n q 498
    · simp [opq, s1]
    · exact absurd (by simp [opq, s1]) h
theorem bnd_op {o : Int} {lv : Nat} (h : (lv = 5 ∧ (o = 0 ∨ o = 1)) ∨ (lv = 6 ∧ (o = 2 ∨ o = 3))) : bnd (o + 20) = lv := by
  unfold bnd
  rw [if_neg (by omega), if_neg (by omega), if_neg (by omega), if_neg (by omega), if_neg (by omega)]
  split <;> omega
theorem bnd_ao {lv : Nat} (h : lv = 1 ∨ lv = 2) : bnd (30 - (lv : Int)) = lv := by
  rcases h with rfl | rfl <;> decide
theorem no_and {q : Int} (h : opq T n q 2 = -1) : ¬ iw T n q 1476 := fun h' => by simp [opq, h'] at h
theorem z_restBad {lv k p : Nat} {q x : Int} {V : Vl} (ho : opq T n q lv ≠ -1) (hM : Mz S T n d Ls te (subT lv) k (le T n q) p (.bad x)) : Mz S T n d Ls te (.rest lv V) k q p (.bad x) := by
  have hor := opq_r lv ho
  refine ⟨fun h5 h6 p0 P c0 H0 H Q e hk8 ht hN hE => ?_, fun h5 h6 p0 P c0 H0 H Q e hk8 ht hC hN hE => ?_⟩
  · have h5' : 5 ≤ lv := h5
    have h6' : lv ≤ 6 := h6
    have hl : lv = 5 ∨ lv = 6 := by omega
    have hb := bnd_op (o := opq T n q lv) (lv := lv) (by omega)
    obtain ⟨h0, pend, c', g1, g2, g3, g4⟩ := e
    refine bl_op g1 g3 g4 ht hl ho (fun H1 c1 z1 z2 z3 z4 z5 => ?_)
    have hM1 : Mz S T n d Ls te (lv + 1, none) k (le T n q) p (.bad x) := by
      rcases hl with rfl | rfl <;> exact hM
    exact hM1.1 (by show 5 ≤ lv + 1; omega) ((opq T n q lv + 20, 0) :: P) c1 H1 1 Q z1 (by rw [nbr_cons (by show opq T n q lv + 20 < 30; omega)]; exact hk8) (topb.cons (by show bnd (opq T n q lv + 20) < ((lv + 1 : Nat) : Int); omega)) (Or.inl rfl) (fun H2 t' f1 f2 => hE H2 t' f1 ((g2.trans z2).trans f2))
  · have h5' : 1 ≤ lv := h5
    have h6' : lv ≤ 2 := h6
    have hl : lv = 1 ∨ lv = 2 := by omega
    have hb := bnd_ao hl
    obtain ⟨h0, pend, c', g1, g2, g3, g4⟩ := e
    refine bl_ao g1 g3 g4 ht (by
      rcases hl with rfl | rfl
      · exact Or.inr ⟨rfl, no_and (hN.2.2.1 (Or.inl rfl))⟩
      · exact Or.inl rfl) ho (fun H1 c1 z1 z2 z3 z4 z5 z6 => ?_)
    have hM1 : Mz S T n d Ls te (lv + 1, none) k (le T n q) p (.bad x) := by
      rcases hl with rfl | rfl <;> exact hM
    exact hM1.2 (by show lv + 1 ≤ 3; omega) ((30 - (lv : Int), c1) :: P) (c1 + 1) H1 Q z1 (by rw [nbr_cons (by show 30 - (lv : Int) < 30; omega)]; exact hk8) (topb.cons (by
      show bnd (30 - (lv : Int)) < (if lv + 1 = 3 then (4 : Int) else ((lv + 1 : Nat) : Int))
      rw [hb]
      split <;> omega)) (hC.cons (by show 30 - (lv : Int) < 30; omega)) (fun H2 t' f1 f2 => hE H2 t' f1 ((g2.trans z2).trans f2))
theorem z_restOk {lv k p p1 : Nat} {q q1 : Int} {V W : Vl} {r : Rz} (ho : opq T n q lv ≠ -1) (hM : Mz S T n d Ls te (subT lv) k (le T n q) p (.ok q1 p1 W)) (hN2 : Mz S T n d Ls te (.rest lv (jnV (opq T n q lv) V W)) k q1 p1 r) : Mz S T n d Ls te (.rest lv V) k q p r := by
  have hor := opq_r lv ho
  refine ⟨fun h5 h6 p0 P c0 H0 H Q e hk8 ht hN hE => ?_, fun h5 h6 p0 P c0 H0 H Q e hk8 ht hC hN hE => ?_⟩
  · have h5' : 5 ≤ lv := h5
    have h6' : lv ≤ 6 := h6
    have hl : lv = 5 ∨ lv = 6 := by omega
    have hb := bnd_op (o := opq T n q lv) (lv := lv) (by omega)
    obtain ⟨h0, pend, c', g1, g2, g3, g4⟩ := e
    refine bl_op g1 g3 g4 ht hl ho (fun H1 c1 z1 z2 z3 z4 z5 => ?_)
    have hM1 : Mz S T n d Ls te (lv + 1, none) k (le T n q) p (.ok q1 p1 W) := by
      rcases hl with rfl | rfl <;> exact hM
    refine hM1.1 (by show 5 ≤ lv + 1; omega) ((opq T n q lv + 20, 0) :: P) c1 H1 1 Q z1 (by rw [nbr_cons (by show opq T n q lv + 20 < 30; omega)]; exact hk8) (topb.cons (by show bnd (opq T n q lv + 20) < ((lv + 1 : Nat) : Int); omega)) (Or.inl rfl) (fun H2 e1 e2 => ?_)
    have hc01 := z3.2.1
    have ez : EZ T n lv q1 p1 p0 P c0 H0 (jnV (opq T n q lv) V W) false H2 := EZ.join (lv' := lv + 1) (c1 := c1) (H1 := H1) (F1 := fun W => bnV (opq T n q lv) V W) e1 (by show (lv : Int) ≤ bnd (opq T n q lv + 20); omega) (by omega) (by omega) (g2.trans z2) z5 (by omega) (fun O A hOA => ⟨c0, id, 0, false, ⟨rfl, rfl, rfl, rfl⟩, Or.inl ⟨by show 20 ≤ opq T n q lv + 20; omega, by show opq T n q lv + 20 ≤ 26; omega, rfl, fun _ => rfl, p - p0, V, PzN.congr z3 (fun i _ hi => hOA i hi), z4, by omega, by
        show _ = fun W => bnV (opq T n q lv + 20 - 20) V W
        rw [show opq T n q lv + 20 - 20 = opq T n q lv by omega]⟩⟩) (by unfold jnV; rw [if_pos (by omega)])
    exact hN2.1 h5 h6 p0 P c0 H0 H2 Q ez hk8 ht e2 hE
  · have h5' : 1 ≤ lv := h5
    have h6' : lv ≤ 2 := h6
    have hl : lv = 1 ∨ lv = 2 := by omega
    have hb := bnd_ao hl
    obtain ⟨h0, pend, c', g1, g2, g3, g4⟩ := e
    refine bl_ao g1 g3 g4 ht (by
      rcases hl with rfl | rfl
      · exact Or.inr ⟨rfl, no_and (hN.2.2.1 (Or.inl rfl))⟩
      · exact Or.inl rfl) ho (fun H1 c1 z1 z2 z3 z4 z5 z6 => ?_)
    have hM1 : Mz S T n d Ls te (lv + 1, none) k (le T n q) p (.ok q1 p1 W) := by
      rcases hl with rfl | rfl <;> exact hM
    refine hM1.2 (by show lv + 1 ≤ 3; omega) ((30 - (lv : Int), c1) :: P) (c1 + 1) H1 Q z1 (by rw [nbr_cons (by show 30 - (lv : Int) < 30; omega)]; exact hk8) (topb.cons (by
      show bnd (30 - (lv : Int)) < (if lv + 1 = 3 then (4 : Int) else ((lv + 1 : Nat) : Int))
      rw [hb]
      split <;> omega)) (hC.cons (by show 30 - (lv : Int) < 30; omega)) (fun H2 e1 e2 => ?_)
    have hc01 := z3.2.1
    have ez : EZ T n lv q1 p1 p0 P c0 H0 (jnV (opq T n q lv) V W) true H2 := EZ.join (lv' := lv + 1) (c1 := c1 + 1) (H1 := H1) (F1 := fun W => aoV (2 - (lv : Int)) V W) e1 (by show (lv : Int) ≤ bnd (30 - (lv : Int)); omega) (by omega) (by omega) (g2.trans z2) z6 (by omega) (fun O A hOA => ⟨c0, id, 0, true, ⟨rfl, rfl, rfl, rfl⟩, Or.inr (Or.inr ⟨by show 30 - (lv : Int) = 28 ∨ 30 - (lv : Int) = 29; omega, rfl, rfl, p - p0, V, PzN.congr z3 (fun i _ hi => hOA i (by have : i < c1 := hi; omega)), z5, rfl, by show O c1 = _; rw [(hOA c1 (by omega)).1]; exact z4, by omega, by
        show _ = fun W => aoV (30 - (lv : Int) - 28) V W
        rw [show 30 - (lv : Int) - 28 = 2 - (lv : Int) by omega]⟩)⟩) (by unfold jnV; rw [if_neg (by omega), show opq T n q lv - 8 = 2 - (lv : Int) by omega])
    exact hN2.2 h5 h6 p0 P c0 H0 H2 Q ez hk8 ht hC e2 hE
theorem z_notBad {k p : Nat} {q x : Int} (hw : iw T n q 14836) (hM : Mz S T n d Ls te .plain k (le T n q) p (.bad x)) : Mz S T n d Ls te .plain k q p (.bad x) := by
  refine ⟨fun h5 => by exact absurd h5 (by decide), fun _ P c0 H0 Q hR hk8 ht hC hE => ?_⟩
  refine bl_not hR hw (fun H1 z1 z2 z3 => ?_)
  exact hM.2 (by decide) ((27, 0) :: P) c0 H1 Q z1 (by rw [nbr_cons (by show (27 : Int) < 30; omega)]; exact hk8) (topb.cons (by decide)) (hC.cons (by show (27 : Int) < 30; omega)) (fun H2 t' f1 f2 => hE H2 t' f1 (z2.trans f2))
theorem z_notOk {k p p1 : Nat} {q q1 : Int} {V : Vl} (hw : iw T n q 14836) (hM : Mz S T n d Ls te .plain k (le T n q) p (.ok q1 p1 V)) : Mz S T n d Ls te .plain k q p (.ok q1 p1 (ngV V)) := by
  refine ⟨fun h5 => by exact absurd h5 (by decide), fun _ P c0 H0 Q hR hk8 ht hC hE => ?_⟩
  refine bl_not hR hw (fun H1 z1 z2 z3 => ?_)
  refine hM.2 (by decide) ((27, 0) :: P) c0 H1 Q z1 (by rw [nbr_cons (by show (27 : Int) < 30; omega)]; exact hk8) (topb.cons (by decide)) (hC.cons (by show (27 : Int) < 30; omega)) (fun H2 e1 e2 => ?_)
  exact hE H2 (EZ.join (lv' := 3) (c1 := c0) (H1 := H1) (F1 := ngV) e1 (by decide) (by decide) (Nat.le_refl _) z2 z3 (by omega) (fun O A hOA => ⟨c0, id, 0, true, ⟨rfl, rfl, rfl, rfl⟩, Or.inr (Or.inl ⟨rfl, rfl, rfl, rfl, by omega, rfl⟩)⟩) rfl) (NO.triv (by decide))
theorem z_brDeep {p : Nat} {q : Int} (hw : ¬ iw T n q 14836) (hs : sgq T n q 40) : Mz S T n d Ls te .plain 0 q p (.bad q) := ⟨fun h5 => by exact absurd h5 (by decide), fun _ P c0 H0 Q hR hk8 ht hC hE => bl_br0 hR hw hs (by omega) hE⟩
theorem ct30 {P : List (Int × Int)} {a : Int} : CTx ((30, a) :: P) te := Or.inl (by show (if (30 : Int) ≤ 30 then (30 : Int) else _) = 30; rw [if_pos (by omega)])
theorem z_brBad {k p : Nat} {q x : Int} (hw : ¬ iw T n q 14836) (hs : sgq T n q 40) (hM : Mz S T n d Ls te (.lev 1) k (le T n q) p (.bad x)) : Mz S T n d Ls te .plain (k + 1) q p (.bad x) := by
  refine ⟨fun h5 => by exact absurd h5 (by decide), fun _ P c0 H0 Q hR hk8 ht hC hE => ?_⟩
  refine bl_br1 hR hw hs (by omega) (fun H1 z1 z2 z3 => ?_)
  exact hM.2 (by decide) ((30, 0) :: P) c0 H1 Q z1 (by rw [nbr_br (by show (30 : Int) ≤ 30; omega)]; omega) (topb.cons (by decide)) ct30 (fun H2 t' f1 f2 => hE H2 t' f1 (z2.trans f2))
theorem z_brNo {k p p1 : Nat} {q q1 : Int} {V : Vl} (hw : ¬ iw T n q 14836) (hs : sgq T n q 40) (hM : Mz S T n d Ls te (.lev 1) k (le T n q) p (.ok q1 p1 V)) (hs2 : ¬ sgq T n q1 41) : Mz S T n d Ls te .plain (k + 1) q p (.bad q1) := by
  refine ⟨fun h5 => by exact absurd h5 (by decide), fun _ P c0 H0 Q hR hk8 ht hC hE => ?_⟩
  refine bl_br1 hR hw hs (by omega) (fun H1 z1 z2 z3 => ?_)
  refine hM.2 (by decide) ((30, 0) :: P) c0 H1 Q z1 (by rw [nbr_br (by show (30 : Int) ≤ 30; omega)]; omega) (topb.cons (by decide)) ct30 (fun H2 e1 e2 => ?_)
  obtain ⟨h0, pend, c', g1, g2, g3, g4⟩ := e1
  exact bl_rd0 g1 g4 (e2.2.2.2 rfl) (e2.2.2.1 (Or.inr rfl)) hs2 (fun H3 t' f1 f2 => hE H3 t' f1 ((z2.trans g2).trans f2))
theorem z_br {k p p1 : Nat} {q q1 : Int} {V : Vl} (hw : ¬ iw T n q 14836) (hs : sgq T n q 40) (hM : Mz S T n d Ls te (.lev 1) k (le T n q) p (.ok q1 p1 V)) (hs2 : sgq T n q1 41) : Mz S T n d Ls te .plain (k + 1) q p (.ok (le T n q1) p1 V) := by
  refine ⟨fun h5 => by exact absurd h5 (by decide), fun _ P c0 H0 Q hR hk8 ht hC hE => ?_⟩
  refine bl_br1 hR hw hs (by omega) (fun H1 z1 z2 z3 => ?_)
  refine hM.2 (by decide) ((30, 0) :: P) c0 H1 Q z1 (by rw [nbr_br (by show (30 : Int) ≤ 30; omega)]; omega) (topb.cons (by decide)) ct30 (fun H2 e1 e2 => ?_)
  obtain ⟨h0, pend, c', g1, g2, g3, g4⟩ := e1
  exact bl_rd1 g1 g3 g4 (e2.2.2.2 rfl) (e2.2.2.1 (Or.inr rfl)) hs2 (fun H3 c3 f1 f2 f3 f4 f5 => hE H3 (EZ.one h0 f1 ((z2.trans g2).trans f2) f3 f4 (fun i hi => by rw [(f5 i hi).1, (f5 i hi).2]; exact z3 i hi)) (NO.triv (by decide)))
theorem z_cBad {k p : Nat} {q x : Int} (hw : ¬ iw T n q 14836) (hs : ¬ sgq T n q 40) (hM : Mz S T n d Ls te (.lev 5) k q p (.bad x)) : Mz S T n d Ls te .plain k q p (.bad x) := ⟨fun h5 => by exact absurd h5 (by decide), fun _ P c0 H0 Q hR hk8 ht hC hE => hM.1 (by decide) P c0 H0 0 Q hR hk8 (topb.up ht (by decide)) (Or.inr ⟨rfl, hw, hs⟩) hE⟩
/-- over a sum's own signs -/
theorem isc_app : ∀ (pend P : List (Int × Int)), (∀ x ∈ pend, 5 ≤ bnd x.1 ∧ 20 ≤ x.1) → isc (pend ++ P) = isc P
  | [], P, _ => rfl
  | x :: r, P, h => by
    have ih := isc_app r P (fun y hy => h y (by simp [hy]))
    obtain ⟨h1, h2⟩ := h x (by simp)
    have h3 : x.1 ≤ 23 := by
      unfold bnd at h1
      repeat' split at h1
      all_goals omega
    show (if 20 ≤ x.1 ∧ x.1 ≤ 23 then isc (r ++ P) else _) = _
    rw [if_pos ⟨h2, h3⟩, ih]
theorem isc_top {P : List (Int × Int)} (h : topb P 4) (hw : wfp P) : isc P = false := by
  rcases h with rfl | ⟨y, r, rfl, hy⟩
  · rfl
  · have h1 : 27 ≤ y.1 := by
      have h20 := (hw y (by simp)).1
      unfold bnd at hy
      repeat' split at hy
      all_goals omega
    show (if 20 ≤ y.1 ∧ y.1 ≤ 23 then isc r else decide (24 ≤ y.1 ∧ y.1 ≤ 26)) = false
    rw [if_neg (by omega)]
    simp; omega
theorem isc_pend {q c : Int} {p : Nat} {pend P : List (Int × Int)} {H : sm_H} (h : RS T n q p (pend ++ P) c H) (hp : ∀ x ∈ pend, 5 ≤ bnd x.1) : isc (pend ++ P) = isc P ∧ inr (pend ++ P) = inr P ∧ wfp P := ⟨isc_app pend P (fun x hx => ⟨hp x hx, (h.2.2.1.2.2 x (by simp [hx])).1⟩), (nbr_app pend P (fun x hx => by have := hp x hx; omega)).2, fun x hx => h.2.2.1.2.2 x (by simp [hx])⟩
theorem z_cNo {k p p1 : Nat} {q q1 : Int} {V : Vl} (hw : ¬ iw T n q 14836) (hs : ¬ sgq T n q 40) (hM : Mz S T n d Ls te (.lev 5) k q p (.ok q1 p1 V)) (hc : cmq T n q1 = -1) : Mz S T n d Ls te .plain k q p (.bad q1) := by
  refine ⟨fun h5 => by exact absurd h5 (by decide), fun _ P c0 H0 Q hR hk8 ht hC hE => ?_⟩
  refine hM.1 (by decide) P c0 H0 0 Q hR hk8 (topb.up ht (by decide)) (Or.inr ⟨rfl, hw, hs⟩) (fun H2 e1 e2 => ?_)
  obtain ⟨h0, pend, c', g1, g2, g3, g4⟩ := e1
  obtain ⟨i1, i2, i3⟩ := isc_pend g1 g4
  exact bl_cmp0 g1 (by rw [i2]; exact hC) (by rw [i1]; exact isc_top (topb.up ht (by decide)) i3) (e2.2.1 rfl) (e2.1 (Or.inr rfl)) hc (fun H3 t' f1 f2 => hE H3 t' f1 (g2.trans f2))
theorem bnd_cm {o : Int} (h : 6 ≤ o ∧ o ≤ 8) : bnd (o + 18) = 4 := by
  unfold bnd
  rw [if_neg (by omega), if_neg (by omega), if_neg (by omega), if_neg (by omega), if_pos (by omega)]
theorem z_cBad2 {k p p1 : Nat} {q q1 x : Int} {V : Vl} (hw : ¬ iw T n q 14836) (hs : ¬ sgq T n q 40) (hM : Mz S T n d Ls te (.lev 5) k q p (.ok q1 p1 V)) (hc : cmq T n q1 ≠ -1) (hM2 : Mz S T n d Ls te (.lev 5) k (le T n q1) p1 (.bad x)) : Mz S T n d Ls te .plain k q p (.bad x) := by
  refine ⟨fun h5 => by exact absurd h5 (by decide), fun _ P c0 H0 Q hR hk8 ht hC hE => ?_⟩
  refine hM.1 (by decide) P c0 H0 0 Q hR hk8 (topb.up ht (by decide)) (Or.inr ⟨rfl, hw, hs⟩) (fun H2 e1 e2 => ?_)
  obtain ⟨h0, pend, c', g1, g2, g3, g4⟩ := e1
  obtain ⟨i1, i2, i3⟩ := isc_pend g1 g4
  have hcr := (cmq_k hc).2
  have hb := bnd_cm hcr
  refine bl_cmp1 g1 g3 g4 (topb.up ht (by decide)) (by rw [i2]; exact hC) (by rw [i1]; exact isc_top (topb.up ht (by decide)) i3) (e2.2.1 rfl) (e2.1 (Or.inr rfl)) hc (fun H3 c3 z1 z2 z3 z4 z5 => ?_)
  exact hM2.1 (by decide) ((cmq T n q1 + 18, 0) :: P) c3 H3 1 Q z1 (by rw [nbr_cons (by show cmq T n q1 + 18 < 30; omega)]; exact hk8) (topb.cons (by show bnd (cmq T n q1 + 18) < 5; omega)) (Or.inl rfl) (fun H4 t' f1 f2 => hE H4 t' f1 ((g2.trans z2).trans f2))
theorem z_cOk {k p p1 p2 : Nat} {q q1 q2 : Int} {V W : Vl} (hw : ¬ iw T n q 14836) (hs : ¬ sgq T n q 40) (hM : Mz S T n d Ls te (.lev 5) k q p (.ok q1 p1 V)) (hc : cmq T n q1 ≠ -1) (hM2 : Mz S T n d Ls te (.lev 5) k (le T n q1) p1 (.ok q2 p2 W)) : Mz S T n d Ls te .plain k q p (.ok q2 p2 (bnV (cmq T n q1 - 2) V W)) := by
  refine ⟨fun h5 => by exact absurd h5 (by decide), fun _ P c0 H0 Q hR hk8 ht hC hE => ?_⟩
  refine hM.1 (by decide) P c0 H0 0 Q hR hk8 (topb.up ht (by decide)) (Or.inr ⟨rfl, hw, hs⟩) (fun H2 e1 e2 => ?_)
  obtain ⟨h0, pend, c', g1, g2, g3, g4⟩ := e1
  obtain ⟨i1, i2, i3⟩ := isc_pend g1 g4
  have hcr := (cmq_k hc).2
  have hb := bnd_cm hcr
  refine bl_cmp1 g1 g3 g4 (topb.up ht (by decide)) (by rw [i2]; exact hC) (by rw [i1]; exact isc_top (topb.up ht (by decide)) i3) (e2.2.1 rfl) (e2.1 (Or.inr rfl)) hc (fun H3 c3 z1 z2 z3 z4 z5 => ?_)
  refine hM2.1 (by decide) ((cmq T n q1 + 18, 0) :: P) c3 H3 1 Q z1 (by rw [nbr_cons (by show cmq T n q1 + 18 < 30; omega)]; exact hk8) (topb.cons (by show bnd (cmq T n q1 + 18) < 5; omega)) (Or.inl rfl) (fun H4 e3 e4 => ?_)
  have hc01 := z3.2.1
  have ez : EZ T n 3 q2 p2 p P c0 H0 (bnV (cmq T n q1 - 2) V W) true H4 := EZ.join (lv' := 5) (c1 := c3) (H1 := H3) (F1 := fun W => bnV (cmq T n q1 - 2) V W) e3 (by show ((3 : Nat) : Int) ≤ bnd (cmq T n q1 + 18); omega) (by decide) (by omega) (g2.trans z2) z5 (by omega) (fun O A hOA => ⟨c0, id, 0, true, ⟨rfl, rfl, rfl, rfl⟩, Or.inl ⟨by show 20 ≤ cmq T n q1 + 18; omega, by show cmq T n q1 + 18 ≤ 26; omega, rfl, fun h' => by have : cmq T n q1 + 18 < 24 := h'; omega, p1 - p, V, PzN.congr z3 (fun i _ hi => hOA i hi), z4, by omega, by
        show _ = fun W => bnV (cmq T n q1 + 18 - 20) V W
        rw [show cmq T n q1 + 18 - 20 = cmq T n q1 - 2 by omega]⟩⟩) rfl
  obtain ⟨h0', pend', c4, y1, y2, y3, y4⟩ := e3
  have hC' : CTx ((cmq T n q1 + 18, 0) :: P) te := hC.cons (by show cmq T n q1 + 18 < 30; omega)
  obtain ⟨j1, j2, j3⟩ := isc_pend y1 y4
  exact bl_told y1 (by rw [j2]; exact hC') (by
    rw [j1]
    show (if 20 ≤ cmq T n q1 + 18 ∧ cmq T n q1 + 18 ≤ 23 then isc P else decide (24 ≤ cmq T n q1 + 18 ∧ cmq T n q1 + 18 ≤ 26)) = true
    rw [if_neg (by omega)]
    simp; omega) (e4.2.1 rfl) (e4.1 (Or.inr rfl)) (hE H4 ez (NO.triv (by decide)))
theorem z_all : Cls T n (Mz S T n d Ls te) := by
  refine ⟨fun {k p q} h0 h1 h2 => ?_, fun {k p q} h0 h1 h2 h3 => ?_, z_noPart, z_deep, z_grpBad, z_grpNo, z_grp, z_levBad, z_levOk, z_restEnd, z_restBad, z_restOk, z_notBad, z_notOk, z_brDeep, z_brBad, z_brNo, z_br, z_cBad, z_cNo, z_cBad2, z_cOk⟩
  · have := z_leaf (S := S) (d := d) (Ls := Ls) (te := te) (k := k) h0 (fun h => h1 h.1) h2
    rw [if_neg h1] at this
    exact this
  · have := z_leaf (S := S) (d := d) (Ls := Ls) (te := te) (k := k) h0 (fun h => h2 h.2) h3
    rw [if_pos h1] at this
    exact this
end RCLAIMS2
