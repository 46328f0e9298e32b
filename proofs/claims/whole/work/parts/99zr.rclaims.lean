/-! the reference reads what Dz says -/
def NO (T : Int → Int) (n : Int) (lv : Nat) (q : Int) : Prop := ((lv = 6 ∨ lv = 5) → opq T n q 6 = -1) ∧ (lv = 5 → opq T n q 5 = -1) ∧ ((lv = 2 ∨ lv = 1) → opq T n q 2 = -1) ∧ (lv = 1 → opq T n q 1 = -1)
def EZ (T : Int → Int) (n : Int) (lv : Nat) (q : Int) (p p0 : Nat) (P : List (Int × Int)) (c0 : Int) (H0 : sm_H) (V : Vl) (ty : Bool) (H' : sm_H) : Prop := p0 < p ∧ ∃ (pend : List (Int × Int)) (c' : Int), RS T n q p (pend ++ P) c' H' ∧ GZ H0 H' ∧ EC (H0 88) (H0 89) c0 V ty (p - p0) pend c' (H' 88) (H' 89) ∧ ∀ x ∈ pend, (lv : Int) ≤ bnd x.1
def Ends (S : sm_E) (T : Int → Int) (n : Int) (d : Nat) (Ls : sm_K) (te : Int) (lv : Nat) (tt : Int) (ty : Bool) (p0 : Nat) (P : List (Int × Int)) (c0 : Int) (H0 : sm_H) (r : Rz) (Q : sm_O → Prop) : Prop := match r with
  | .inl x => ∀ (H' : sm_H) (t' : Int), RF T n x H' → GZ H0 H' → BL S d Ls te t' H' Q
  | .inr (q', (p', V)) => ∀ H' : sm_H, EZ T n lv q' p' p0 P c0 H0 V ty H' → NO T n lv q' → BL S d Ls te tt H' Q
def CTx (P : List (Int × Int)) (te : Int) : Prop := inr P = 30 ∨ (inr P = -1 ∧ te = 1)
def TO (T : Int → Int) (n q t : Int) : Prop := t = 1 ∨ (t = 0 ∧ ¬ iw T n q 14836 ∧ ¬ sgq T n q 40)
def Mz (S : sm_E) (T : Int → Int) (n : Int) (d : Nat) (Ls : sm_K) (te : Int) (tg : Tz) (k : Nat) (q : Int) (p : Nat) (r : Rz) : Prop := match tg.2 with
  | none => (5 ≤ tg.1 → ∀ (P : List (Int × Int)) (c0 : Int) (H0 : sm_H) (t : Int) (Q : sm_O → Prop), RS T n q p P c0 H0 → nbr P + k = 8 → topb P tg.1 → TO T n q t → Ends S T n d Ls te tg.1 3 false p P c0 H0 r Q → BL S d Ls te t H0 Q) ∧
    (tg.1 ≤ 3 → ∀ (P : List (Int × Int)) (c0 : Int) (H0 : sm_H) (Q : sm_O → Prop), RS T n q p P c0 H0 → nbr P + k = 8 → topb P (if tg.1 = 3 then 4 else tg.1) → CTx P te → Ends S T n d Ls te tg.1 2 true p P c0 H0 r Q → BL S d Ls te 0 H0 Q)
  | some V => (5 ≤ tg.1 → tg.1 ≤ 6 → ∀ (p0 : Nat) (P : List (Int × Int)) (c0 : Int) (H0 H : sm_H) (Q : sm_O → Prop), EZ T n tg.1 q p p0 P c0 H0 V false H → nbr P + k = 8 → topb P tg.1 → NO T n (tg.1 + 1) q → Ends S T n d Ls te tg.1 3 false p0 P c0 H0 r Q → BL S d Ls te 3 H Q) ∧
    (1 ≤ tg.1 → tg.1 ≤ 2 → ∀ (p0 : Nat) (P : List (Int × Int)) (c0 : Int) (H0 H : sm_H) (Q : sm_O → Prop), EZ T n tg.1 q p p0 P c0 H0 V true H → nbr P + k = 8 → topb P tg.1 → CTx P te → NO T n (tg.1 + 1) q → Ends S T n d Ls te tg.1 2 true p0 P c0 H0 r Q → BL S d Ls te 2 H Q)
theorem NO.triv {T : Int → Int} {n q : Int} {lv : Nat} (h : lv ≠ 1 ∧ lv ≠ 2 ∧ lv ≠ 5 ∧ lv ≠ 6) : NO T n lv q := ⟨fun h' => by omega, fun h' => by omega, fun h' => by omega, fun h' => by omega⟩
theorem topb.up {P : List (Int × Int)} {k k' : Int} (h : topb P k) (hk : k ≤ k') : topb P k' := by
  rcases h with h | ⟨y, r, h1, h2⟩
  · exact Or.inl h
  · exact Or.inr ⟨y, r, h1, by omega⟩
theorem topb.cons {P : List (Int × Int)} {x : Int × Int} {k : Int} (h : bnd x.1 < k) : topb (x :: P) k := Or.inr ⟨x, P, rfl, h⟩
theorem CTx.cons {P : List (Int × Int)} {x : Int × Int} {te : Int} (h : CTx P te) (hx : x.1 < 30) : CTx (x :: P) te := by
  have e : inr (x :: P) = inr P := by
    show (if 30 ≤ x.1 then x.1 else inr P) = _
    rw [if_neg (by omega)]
  unfold CTx
  rw [e]
  exact h
theorem nbr_cons {P : List (Int × Int)} {x : Int × Int} (hx : x.1 < 30) : nbr (x :: P) = nbr P := by
  show (if 30 ≤ x.1 then 1 else 0) + nbr P = _
  rw [if_neg (by omega)]; omega
theorem nbr_br {P : List (Int × Int)} {x : Int × Int} (hx : 30 ≤ x.1) : nbr (x :: P) = nbr P + 1 := by
  show (if 30 ≤ x.1 then 1 else 0) + nbr P = _
  rw [if_pos (by omega)]; omega
section RCLAIMS
variable {d : Nat} {Q : sm_O → Prop} {Ls : sm_K} {S : sm_E} {T : Int → Int} {n te : Int}
theorem EZ.up {lv lv' : Nat} {q : Int} {p p0 : Nat} {P : List (Int × Int)} {c0 : Int} {H0 H' : sm_H} {V : Vl} {ty : Bool} (h : EZ T n lv' q p p0 P c0 H0 V ty H') (hl : lv ≤ lv') : EZ T n lv q p p0 P c0 H0 V ty H' := by
  obtain ⟨h0, pend, c', h1, h2, h3, h4⟩ := h
  exact ⟨h0, pend, c', h1, h2, h3, fun x hx => by have := h4 x hx; omega⟩
/-- a piece alone -/
theorem EZ.one {lv : Nat} {q : Int} {p p0 : Nat} {P : List (Int × Int)} {c0 c' : Int} {H0 H' : sm_H} {V : Vl} {ty : Bool} (hp : p0 < p) (h : RS T n q p P c' H') (hg : GZ H0 H') (hP : Pz (stN (H' 88) (H' 89)) (p - p0) c0 c' V) (hV : tyV ty V) (hlo : ∀ i : Int, i < c0 → H' 88 i = H0 88 i ∧ H' 89 i = H0 89 i) : EZ T n lv q p p0 P c0 H0 V ty H' := ⟨hp, [], c', h, hg, ⟨hlo, c0, id, 0, ty, p - p0, V, ⟨rfl, rfl, rfl, rfl⟩, hP, hV, rfl, by omega⟩, fun x hx => by cases hx⟩
theorem EZ.join {lv lv' : Nat} {q : Int} {p p0 p1 : Nat} {P : List (Int × Int)} {x : Int × Int} {c0 c1 : Int} {H0 H1 H2 : sm_H} {V' W : Vl} {F1 : Vl → Vl} {ty1 to : Bool} (h : EZ T n lv' q p1 p (x :: P) c1 H1 W ty1 H2) (hx : (lv : Int) ≤ bnd x.1) (hl : lv ≤ lv') (hp : p0 ≤ p) (hg : GZ H0 H1) (hlo : ∀ i : Int, i < c0 → H1 88 i = H0 88 i ∧ H1 89 i = H0 89 i) (hc : c0 ≤ c1) (hC : ∀ O A : Int → Int, (∀ i : Int, i < c1 → O i = H1 88 i ∧ A i = H1 89 i) → Ctx O A [x] c0 c1 F1 (p - p0) ty1 to) (hV : F1 W = V') : EZ T n lv q p1 p0 P c0 H0 V' to H2 := by
  obtain ⟨h0, pend, c', h1, h2, ⟨k1, cb, F, l, ti, lw0, W2, k2, k3, k4, k5, k6⟩, h4⟩ := h
  refine ⟨by omega, pend ++ [x], c', by rw [List.append_assoc]; exact h1, hg.trans h2, ⟨fun i hi => by rw [(k1 i (by omega)).1, (k1 i (by omega)).2]; exact hlo i hi, cb, _, _, ti, lw0, W2, Ctx.app (hC _ _ k1) k2, k3, k4, by show F1 (F W2) = _; rw [k5]; exact hV, by omega⟩, fun y hy => ?_⟩
  rw [List.mem_append] at hy
  rcases hy with hy | hy
  · have := h4 y hy; omega
  · rw [List.mem_singleton] at hy; subst hy; exact hx
theorem z_leaf {k p : Nat} {q : Int} (h : ¬ sgq T n q 91) (hk : ¬ (pwq T n q = -1 ∧ nh T n q = -1)) (hp : p < 50) : Mz S T n d Ls te .part k q p (.ok (le T n q) (p + 1) (if pwq T n q = -1 then fun _ => some (nh T n q) else fun kn => some (kn (pwq T n q)))) := by
  refine ⟨fun _ P c0 H0 t Q hR hk8 ht hT hE => ?_, fun h3 => by exact absurd h3 (by decide)⟩
  refine bl_leaf1 hR hT h hk hp (fun H' z1 z2 z3 z4 z5 => ?_)
  have hq := hR.qq
  have hpr := pw_r T n q
  have hnr := nh_r (T := T) hq.2.1
  obtain ⟨b1, b2, b3, b4, b5, b6, b7⟩ := z1.pb
  have hc0 := hR.pb.2.2.2.1
  have hc4 : c0 < 400 := by
    have := ems_nn P
    have := z1.qq
    omega
  refine hE H' (EZ.one (by omega) z1 z2 ?_ ?_ z3) (NO.triv (by decide))
  · rw [show p + 1 - p = 1 by omega]
    by_cases h1 : pwq T n q = -1
    · rw [if_pos h1] at z4 ⊢
      refine Pz.leaf (V := fun _ => nh T n q) (fun kn hk st hst => ?_)
      show sN _ _ _ (c0, st) = _
      unfold sN
      simp only []
      rw [if_pos ⟨by omega, hc0, hc4⟩, z4, if_pos (by omega), if_pos (by omega), if_pos rfl, z5 h1]
    · rw [if_neg h1] at z4 ⊢
      refine Pz.leaf (V := fun kn => kn (pwq T n q)) (fun kn hk st hst => ?_)
      show sN _ _ _ (c0, st) = _
      unfold sN
      simp only []
      rw [if_pos ⟨by omega, hc0, hc4⟩, z4, if_pos (by omega), if_pos (by omega), if_neg (by omega), show pwq T n q + 1 - 1 = pwq T n q by omega]
  · intro kn hkn
    refine ⟨fun v hv => ?_, fun e => by cases e⟩
    by_cases h1 : pwq T n q = -1
    · rw [if_pos h1] at hv
      have := Option.some.inj hv
      omega
    · rw [if_neg h1] at hv
      have e := Option.some.inj hv
      have := hkn (pwq T n q) (by omega) (by omega)
      omega
theorem z_noPart {k p : Nat} {q : Int} (h : ¬ sgq T n q 91) (hk : (pwq T n q = -1 ∧ nh T n q = -1) ∨ 50 ≤ p) : Mz S T n d Ls te .part k q p (.bad q) := ⟨fun _ P c0 H0 t Q hR hk8 ht hT hE => bl_leaf0 hR hT h hk hE, fun h3 => by exact absurd h3 (by decide)⟩
theorem z_deep {p : Nat} {q : Int} (h : sgq T n q 91) : Mz S T n d Ls te .part 0 q p (.bad q) := ⟨fun _ P c0 H0 t Q hR hk8 ht hT hE => bl_open0 hR hT h (by omega) hE, fun h3 => by exact absurd h3 (by decide)⟩
theorem z_grpBad {k p : Nat} {q x : Int} (h : sgq T n q 91) (hM : Mz S T n d Ls te (.lev 5) k (le T n q) p (.bad x)) : Mz S T n d Ls te .part (k + 1) q p (.bad x) := by
  refine ⟨fun _ P c0 H0 t Q hR hk8 ht hT hE => ?_, fun h3 => by exact absurd h3 (by decide)⟩
  refine bl_open1 hR hT h (by omega) (fun H' z1 z2 z3 => ?_)
  refine hM.1 (by decide) ((31, 0) :: P) c0 H' 1 Q z1 ?_ (topb.cons (by show bnd 31 < 5; decide)) (Or.inl rfl) (fun H2 t' f1 f2 => hE H2 t' f1 (z2.trans f2))
  rw [nbr_br (by show (30 : Int) ≤ 31; omega)]
  omega
theorem z_grpNo {k p p1 : Nat} {q q1 : Int} {V : Vl} (h : sgq T n q 91) (hM : Mz S T n d Ls te (.lev 5) k (le T n q) p (.ok q1 p1 V)) (hs : ¬ sgq T n q1 93) : Mz S T n d Ls te .part (k + 1) q p (.bad q1) := by
  refine ⟨fun _ P c0 H0 t Q hR hk8 ht hT hE => ?_, fun h3 => by exact absurd h3 (by decide)⟩
  refine bl_open1 hR hT h (by omega) (fun H' z1 z2 z3 => ?_)
  refine hM.1 (by decide) ((31, 0) :: P) c0 H' 1 Q z1 ?_ (topb.cons (by show bnd 31 < 5; decide)) (Or.inl rfl) (fun H2 e1 e2 => ?_)
  · rw [nbr_br (by show (30 : Int) ≤ 31; omega)]
    omega
  · obtain ⟨h0, pend, c', g1, g2, g3, g4⟩ := e1
    exact bl_sq0 g1 g4 (e2.2.1 rfl) (e2.1 (Or.inr rfl)) hs (fun H3 t' f1 f2 => hE H3 t' f1 ((z2.trans g2).trans f2))
theorem z_grp {k p p1 : Nat} {q q1 : Int} {V : Vl} (h : sgq T n q 91) (hM : Mz S T n d Ls te (.lev 5) k (le T n q) p (.ok q1 p1 V)) (hs : sgq T n q1 93) : Mz S T n d Ls te .part (k + 1) q p (.ok (le T n q1) p1 V) := by
  refine ⟨fun _ P c0 H0 t Q hR hk8 ht hT hE => ?_, fun h3 => by exact absurd h3 (by decide)⟩
  refine bl_open1 hR hT h (by omega) (fun H' z1 z2 z3 => ?_)
  refine hM.1 (by decide) ((31, 0) :: P) c0 H' 1 Q z1 ?_ (topb.cons (by show bnd 31 < 5; decide)) (Or.inl rfl) (fun H2 e1 e2 => ?_)
  · rw [nbr_br (by show (30 : Int) ≤ 31; omega)]
    omega
  · obtain ⟨h0, pend, c', g1, g2, g3, g4⟩ := e1
    exact bl_sq1 g1 g3 g4 (e2.2.1 rfl) (e2.1 (Or.inr rfl)) hs (fun H3 c3 f1 f2 f3 f4 f5 => hE H3 (EZ.one h0 f1 ((z2.trans g2).trans f2) f3 f4 (fun i hi => by rw [(f5 i hi).1, (f5 i hi).2]; exact z3 i hi)) (NO.triv (by decide)))
theorem z_levBad {lv k p : Nat} {q x : Int} (hl : lv = 1 ∨ lv = 2 ∨ lv = 5 ∨ lv = 6) (hM : Mz S T n d Ls te (subT lv) k q p (.bad x)) : Mz S T n d Ls te (.lev lv) k q p (.bad x) := by
  rcases hl with rfl | rfl | rfl | rfl
  · have hM' : Mz S T n d Ls te (.lev 2) k q p (.bad x) := hM
    exact ⟨fun h5 => by exact absurd h5 (by decide), fun _ P c0 H0 Q hR hk8 ht hC hE => hM'.2 (by decide) P c0 H0 Q hR hk8 (topb.up ht (by decide)) hC hE⟩
  · have hM' : Mz S T n d Ls te .plain k q p (.bad x) := hM
    exact ⟨fun h5 => by exact absurd h5 (by decide), fun _ P c0 H0 Q hR hk8 ht hC hE => hM'.2 (by decide) P c0 H0 Q hR hk8 (topb.up ht (by decide)) hC hE⟩
  · have hM' : Mz S T n d Ls te (.lev 6) k q p (.bad x) := hM
    exact ⟨fun _ P c0 H0 t Q hR hk8 ht hT hE => hM'.1 (by decide) P c0 H0 t Q hR hk8 (topb.up ht (by decide)) hT hE, fun h5 => by exact absurd h5 (by decide)⟩
  · have hM' : Mz S T n d Ls te .part k q p (.bad x) := hM
    exact ⟨fun _ P c0 H0 t Q hR hk8 ht hT hE => hM'.1 (by decide) P c0 H0 t Q hR hk8 (topb.up ht (by decide)) hT hE, fun h5 => by exact absurd h5 (by decide)⟩
theorem z_levOk {lv k p p1 : Nat} {q q1 : Int} {V : Vl} {r : Rz} (hl : lv = 1 ∨ lv = 2 ∨ lv = 5 ∨ lv = 6) (hM : Mz S T n d Ls te (subT lv) k q p (.ok q1 p1 V)) (hN : Mz S T n d Ls te (.rest lv V) k q1 p1 r) : Mz S T n d Ls te (.lev lv) k q p r := by
  rcases hl with rfl | rfl | rfl | rfl
  · have hM' : Mz S T n d Ls te (.lev 2) k q p (.ok q1 p1 V) := hM
    exact ⟨fun h5 => by exact absurd h5 (by decide), fun _ P c0 H0 Q hR hk8 ht hC hE => hM'.2 (by decide) P c0 H0 Q hR hk8 (topb.up ht (by decide)) hC (fun H' e1 e2 => hN.2 (show (1 : Nat) ≤ 1 by decide) (show (1 : Nat) ≤ 2 by decide) p P c0 H0 H' Q (e1.up (show (1 : Nat) ≤ 2 by decide)) hk8 ht hC e2 hE)⟩
  · have hM' : Mz S T n d Ls te .plain k q p (.ok q1 p1 V) := hM
    exact ⟨fun h5 => by exact absurd h5 (by decide), fun _ P c0 H0 Q hR hk8 ht hC hE => hM'.2 (by decide) P c0 H0 Q hR hk8 (topb.up ht (by decide)) hC (fun H' e1 e2 => hN.2 (show (1 : Nat) ≤ 2 by decide) (show (2 : Nat) ≤ 2 by decide) p P c0 H0 H' Q (e1.up (show (2 : Nat) ≤ 3 by decide)) hk8 ht hC e2 hE)⟩
  · have hM' : Mz S T n d Ls te (.lev 6) k q p (.ok q1 p1 V) := hM
    exact ⟨fun _ P c0 H0 t Q hR hk8 ht hT hE => hM'.1 (by decide) P c0 H0 t Q hR hk8 (topb.up ht (by decide)) hT (fun H' e1 e2 => hN.1 (show (5 : Nat) ≤ 5 by decide) (show (5 : Nat) ≤ 6 by decide) p P c0 H0 H' Q (e1.up (show (5 : Nat) ≤ 6 by decide)) hk8 ht e2 hE), fun h5 => by exact absurd h5 (by decide)⟩
  · have hM' : Mz S T n d Ls te .part k q p (.ok q1 p1 V) := hM
    exact ⟨fun _ P c0 H0 t Q hR hk8 ht hT hE => hM'.1 (by decide) P c0 H0 t Q hR hk8 (topb.up ht (by decide)) hT (fun H' e1 e2 => hN.1 (show (5 : Nat) ≤ 6 by decide) (show (6 : Nat) ≤ 6 by decide) p P c0 H0 H' Q (e1.up (show (6 : Nat) ≤ 7 by decide)) hk8 ht e2 hE), fun h5 => by exact absurd h5 (by decide)⟩
theorem NO.dn {lv : Nat} {q : Int} (h : NO T n (lv + 1) q) (ho : opq T n q lv = -1) (hl : lv = 1 ∨ lv = 2 ∨ lv = 5 ∨ lv = 6) : NO T n lv q := by
  obtain ⟨h1, h2, h3, h4⟩ := h
  rcases hl with rfl | rfl | rfl | rfl
  · exact ⟨fun h' => by omega, fun h' => by omega, fun _ => h3 (Or.inl rfl), fun _ => ho⟩
  · exact ⟨fun h' => by omega, fun h' => by omega, fun _ => ho, fun h' => by omega⟩
  · exact ⟨fun _ => h1 (Or.inl rfl), fun _ => ho, fun h' => by omega, fun h' => by omega⟩
  · exact ⟨fun _ => ho, fun h' => by omega, fun h' => by omega, fun h' => by omega⟩
theorem z_restEnd {lv k p : Nat} {q : Int} {V : Vl} (ho : opq T n q lv = -1) : Mz S T n d Ls te (.rest lv V) k q p (.ok q p V) := ⟨fun h5 h6 p0 P c0 H0 H Q e hk8 ht hN hE => hE H e (hN.dn ho (by have a : 5 ≤ lv := h5; have b : lv ≤ 6 := h6; omega)), fun h5 h6 p0 P c0 H0 H Q e hk8 ht hC hN hE => hE H e (hN.dn ho (by have a : 1 ≤ lv := h5; have b : lv ≤ 2 := h6; omega))⟩
end RCLAIMS
