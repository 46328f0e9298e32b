/-! a CLAUSE, as the class reads it -/
abbrev Cz : Type := Int × (Vl × Option Vl)
abbrev Rc : Type := Int ⊕ (Int × (Nat × Cz))
def SMz (T : Int → Int) (n q : Int) (p : Nat) (q1 : Int) (p1 : Nat) (Vs : Vl) : Prop := (hw T n q < 3 ∧ Dz T n (.lev 5) 8 (le T n q) p (.ok q1 p1 Vs)) ∨ (3 ≤ hw T n q ∧ q1 = le T n q ∧ p1 = p)
def DC (T : Int → Int) (n q : Int) (p : Nat) (r : Rc) : Prop := match r with
  | .inl x => (hw T n q = -1 ∧ x = q) ∨ (hw T n q ≠ -1 ∧ hw T n q < 3 ∧ Dz T n (.lev 5) 8 (le T n q) p (.bad x)) ∨ (hw T n q ≠ -1 ∧ ∃ q1 p1 Vs, SMz T n q p q1 p1 Vs ∧ iw T n q1 294 ∧ Dz T n (.lev 1) 8 (le T n q1) p1 (.bad x))
  | .inr (q', (p', (hd, (Vs, Vt)))) => hw T n q ≠ -1 ∧ hd = hw T n q ∧ ∃ q1 p1, SMz T n q p q1 p1 Vs ∧ ((¬ iw T n q1 294 ∧ q' = q1 ∧ p' = p1 ∧ Vt = none) ∨ (iw T n q1 294 ∧ ∃ V, Vt = some V ∧ Dz T n (.lev 1) 8 (le T n q1) p1 (.ok q' p' V)))
def P50 (s : Stq) (a b : Int) (V : Vl) : Prop := ∃ l : Nat, l ≤ 50 ∧ Pz s l a b V
/-- the frame of the j-th CLAUSE -/
def CFr (H : sm_H) (j : Int) (cz : Cz) (c : Int) : Prop := H 48 (j * 4 + 0) = cz.1 ∧ (0 ≤ cz.1 ∧ cz.1 < 5) ∧ (0 ≤ H 48 (j * 4 + 1) ∧ H 48 (j * 4 + 1) ≤ H 48 (j * 4 + 2) ∧ H 48 (j * 4 + 2) ≤ H 48 (j * 4 + 3) ∧ H 48 (j * 4 + 3) ≤ c) ∧ (cz.1 < 3 → P50 (sB (H 49)) (H 48 (j * 4 + 1)) (H 48 (j * 4 + 2)) cz.2.1) ∧ (3 ≤ cz.1 → H 48 (j * 4 + 1) = H 48 (j * 4 + 2)) ∧ (cz.2.2 = none → H 48 (j * 4 + 2) = H 48 (j * 4 + 3)) ∧ (∀ V, cz.2.2 = some V → P50 (sB (H 49)) (H 48 (j * 4 + 2)) (H 48 (j * 4 + 3)) V)
def FY (H H' : sm_H) : Prop := ∀ a i, ¬ (a = 47 ∧ ((3 ≤ i ∧ i ≤ 6) ∨ i = 10)) → a ≠ 49 → a ≠ 48 → H' a i = H a i
theorem FZ.fy {H H' : sm_H} (h : FZ H H') : FY H H' := fun a i h1 h2 _ => h a i h1 h2
theorem FY.trans {H H1 H2 : sm_H} (h : FY H H1) (h' : FY H1 H2) : FY H H2 := fun a i h1 h2 h3 => by rw [h' a i h1 h2 h3, h a i h1 h2 h3]
theorem FY.u {H : sm_H} {i v : Int} : FY H (sm_u H 48 i v) := fun a j _ _ h3 => by rw [ev_u2 h3]
theorem CZ.u {T : Int → Int} {n q : Int} {p : Nat} {c i v : Int} {H : sm_H} (h : CZ T n q p c H) : CZ T n q p c (sm_u H 48 i v) := by
  obtain ⟨h1, h2, h3, h4, h5⟩ := h
  exact ⟨h1.of (by funext j; rw [ev_u2 (by omega)]) (fun j _ _ => by rw [ev_u2 (by omega)]), by rw [ev_u2 (by omega)]; exact h2, by rw [ev_u2 (by omega)]; exact h3, h4, fun j j0 j1 => by rw [ev_u2 (by omega)]; exact h5 j j0 j1⟩
/-- how readClause ends -/
def Pq (T : Int → Int) (n q : Int) (p : Nat) (c : Int) (i : Int) (H : sm_H) (K : sm_K) (o : sm_O) : Prop :=
  (∃ (H' : sm_H) (x : Int), o = (K, (H', some (.inl 0))) ∧ DC T n q p (.inl x) ∧ FY H H' ∧ H' 47 3 = ls T n x) ∨
  (∃ (H' : sm_H) (q' : Int) (p' : Nat) (c' : Int) (cz : Cz), o = (K, (H', some (.inl 1))) ∧ DC T n q p (.inr (q', (p', cz))) ∧ FY H H' ∧ CZ T n q' p' c' H' ∧ p' ≤ 50 ∧ c ≤ c' ∧ q < q' ∧ CFr H' i cz c' ∧ (∀ j : Int, j < c → H' 49 j = H 49 j) ∧ ∀ j : Int, j < i * 4 → H' 48 j = H 48 j)
section CCLAUSE
variable {d : Nat} {Q : sm_O → Prop} {Ls : sm_K} {H : sm_H} {S : sm_E} {T : Int → Int} {n : Int}
theorem c_cl_b (ht : RZ S T n (d + 44) 71 (.lev 1) true 8) {i hd q1 c1 : Int} {p1 : Nat} (hi : 0 ≤ i ∧ i < 12) (hz : CZ T n q1 p1 c1 H) (h0 : ¬ iw T n q1 294 → Q (kk0 ++ Ls, (sm_u (sm_u H 48 (i * 4 + 2) c1) 48 (i * 4 + 3) c1, some (.inl 1)))) (h1 : ∀ (H' : sm_H) (x : Int), iw T n q1 294 → Dz T n (.lev 1) 8 (le T n q1) p1 (.bad x) → FZ (sm_u H 48 (i * 4 + 2) c1) H' → H' 47 3 = ls T n x → Q (kk0 ++ Ls, (H', some (.inl 0)))) (h2 : ∀ (H' : sm_H) (q' : Int) (p' : Nat) (c' : Int) (V : Vl), iw T n q1 294 → Dz T n (.lev 1) 8 (le T n q1) p1 (.ok q' p' V) → FZ (sm_u H 48 (i * 4 + 2) c1) H' → CZ T n q' p' c' H' → p1 < p' → q1 < q' → Pz (sB (H' 49)) (p' - p1) c1 c' V → (∀ j : Int, j < c1 → H' 49 j = H 49 j) → Q (kk0 ++ Ls, (sm_u H' 48 (i * 4 + 3) c', some (.inl 1)))) : Bx S (d + 44) 70 (63, ([some (.inr (.inr 47)), some (.inl i), some (.inl hd), some (.inl (i * 4))], ([], (kk0 ++ Ls, H)))) Q := by
  sorry
end CCLAUSE
