/-! row, the same on both sides -/
/-- what a call that empties the tape may touch -/
def Tcr (a : Nat) (i : Int) : Prop := Tch a i ∨ a = 79 ∨ a = 81 ∨ a = 85 ∨ (a = 32 ∧ (i = 3 ∨ i = 15)) ∨ (a = 80 ∧ (i = 6 ∨ i = 8 ∨ i = 10))
section SROW
variable {d : Nat} {Ls : sm_K} {H H2 : sm_H} {S : sm_E} {Q : sm_O → Prop}
theorem good_tcr (hS : SR H) (e : ∀ a i, ¬ Tcr a i → H2 a i = H a i) (t1 : H2 32 3 = 0) (t2 : H2 80 10 = 0) (t3 : H2 32 15 = H2 80 6) (z1 : H2 32 17 = H2 80 1) (zk : ∀ k : Int, 1 ≤ k → k ≤ 6 → H2 79 (k - 1) = H2 81 k) (z2 : H2 59 0 = 1 ∨ (H2 59 0 = H 59 0 ∧ H2 82 = H 82)) (z3 : H2 80 39 = 0 ∨ (H2 80 39 = H 80 39 ∧ H2 82 = H 82)) (hH : HR H2 33 (H2 82)) : Good H H2 := by
  obtain ⟨h1, h2, h3, h4, h5, h6, h7, h8, h9⟩ := hS
  have er : ∀ a : Nat, a ≠ 32 → a ≠ 59 → a ≠ 80 → a ≠ 82 → a ≠ 79 → a ≠ 81 → a ≠ 85 → ¬ (33 ≤ a ∧ a ≤ 44 ∧ a ≠ 41) → H2 a = H a := fun a _ _ _ _ _ _ _ _ => by
    funext i
    exact e a i (by unfold Tcr Tch; omega)
  refine ⟨⟨⟨by omega, by omega, by omega⟩, fun i i0 i1 => by omega, t3, ?_, z1, zk, ?_, ?_, ?_⟩, hH, fun a h => er _ (by omega) (by omega) (by omega) (by omega) (by omega) (by omega) (by omega) (by omega), ⟨e _ _ (by unfold Tcr Tch; omega), e _ _ (by unfold Tcr Tch; omega), fun i hi => e _ _ (by unfold Tcr Tch; omega)⟩, fun k hk => e _ _ (by unfold Tcr Tch; omega), fun k hk => e _ _ (by unfold Tcr Tch; omega), ?_, ?_⟩
  · rw [e 47 0 (by unfold Tcr Tch; omega), e 80 15 (by unfold Tcr Tch; omega)]; exact h4
  · rw [e 80 61 (by unfold Tcr Tch; omega), e 32 14 (by unfold Tcr Tch; omega)]; exact h7
  · rw [e 32 14 (by unfold Tcr Tch; omega), er 78 (by omega) (by omega) (by omega) (by omega) (by omega) (by omega) (by omega) (by omega), er 113 (by omega) (by omega) (by omega) (by omega) (by omega) (by omega) (by omega) (by omega)]; exact h8
  · rcases z3 with z | ⟨z, -⟩
    · exact Or.inl z
    · rw [z]; exact h9
  · rcases z2 with z | ⟨z, z'⟩
    · exact Or.inl z
    · exact Or.inr ⟨z, fun i _ => by rw [z']⟩
  · rcases z3 with z | ⟨z, z'⟩
    · exact Or.inl z
    · exact Or.inr ⟨z, fun i _ => by rw [z']⟩
/-- refused, the tape emptied (G: what the class left; l: what the reference took) -/
theorem good_rr (hS : SR H) (hH : HR H 33 (H 82)) {v : Int} (hv : -6 ≤ v ∧ v < 0) (e : ∀ a i, ¬ (a = 85 ∨ (a = 32 ∧ i = 3) ∨ (a = 80 ∧ (i = 0 ∨ i = 8 ∨ i = 10))) → H2 a i = c_ref H v a i) (t1 : H2 32 3 = 0) (t2 : H2 80 10 = 0) : Good H (t_ref H2 v) := by
  have er : ∀ a i, ¬ (a = 85 ∨ a = 79 ∨ a = 81 ∨ (a = 32 ∧ (i = 3 ∨ i = 17)) ∨ (a = 80 ∧ (i = 0 ∨ i = 1 ∨ i = 39 ∨ i = 8 ∨ i = 10))) → t_ref H2 v a i = H a i := fun a i h => by
    simp (disch := omega) only [t_ref, ev_u4]
    rw [e a i (by omega)]
    simp (disch := omega) only [c_ref, ev_u4]
  have hr := hS.2.2.2.2.2.1
  have h39 := hS.2.2.2.2.2.2.2.2
  have e39 : H2 80 39 = H 80 39 := by rw [e 80 39 (by omega)]; simp (disch := omega) only [c_ref, ev_u4]
  refine good_tcr hS (fun a i h => er a i (by unfold Tcr Tch at h; omega)) ?_ ?_ ?_ ?_ (fun k k1 k2 => ?_) (Or.inr ⟨er _ _ (by omega), by funext i; exact er 82 i (by omega)⟩) ?_ (hH.same (fun a h1 h2 => by funext i; exact er a i (by omega)) (fun i hi => er _ _ (by omega)))
  · simp (disch := omega) only [t_ref, ev_u4]; exact t1
  · simp (disch := omega) only [t_ref, ev_u4]; exact t2
  · rw [er 32 15 (by omega), er 80 6 (by omega)]; exact hS.2.2.1
  · have e2 : H2 32 17 = v := by rw [e 32 17 (by omega)]; simp [c_ref, sm_u]
    simp [t_ref, sm_u, e2]
  · have e3 := e 79 (k - 1) (by omega)
    have e4 := e 81 k (by omega)
    have e5 := e 81 (-v) (by omega)
    have e6 := hr k k1 k2
    simp only [c_ref, sm_u] at e3 e4 e5
    simp only [t_ref, sm_u]
    grind
  · rcases h39 with z | z
    · left; simp [t_ref, sm_u, e39, z]
    · right
      refine ⟨by simp [t_ref, sm_u, e39, z], ?_⟩
      funext i
      exact er 82 i (by omega)
theorem SR.tp (hS : SR H) {g : Int} {o : Bool} {r : Nat} : kp (H 46) g o r (H 80 10).toNat = kp (H 86) g o r (H 80 10).toNat := kp_congr _ (fun j hj => (hS.2.1 j (by omega) (by omega)).1)
theorem SR.km (hS : SR H) {g : Int} {o : Bool} {r : Nat} {l : List Int} (hl : l = kp (H 86) g o r (H 80 10).toNat) {i : Int} (i0 : 0 ≤ i) (i1 : i < l.length) : 0 ≤ l.getD i.toNat 0 ∧ l.getD i.toNat 0 ≤ g := by
  have hlt : i.toNat < l.length := by omega
  have hd : l.getD i.toNat 0 = l[i.toNat] := by simp [hlt]
  have hm : l.getD i.toNat 0 ∈ l := by rw [hd]; exact List.getElem_mem hlt
  rw [hl] at hm
  obtain ⟨h1, j, h2, h3⟩ := kp_mem _ _ hm
  rw [← hl] at h1 h3
  have := hS.2.1 j (by omega) (by omega)
  omega
/-- what row leaves, way: class, then reference -/
def rw0 (H : sm_H) (o n : Int) (l : List Int) : sm_H := c_tak (sm_u (sm_u (sm_u (wr (sm_u H 32 3 0) 35 (o * 9) l) 36 o l.length) 37 o l.length) 32 15 (n - l.length))
def ro0 (H : sm_H) (o n : Int) (l : List Int) : sm_H := t_tak (sm_u (sm_u (sm_u (wr (tkn H l) 82 (17 + 16 * o) l) 82 (16 + 16 * o) l.length) 82 (15 + 16 * o) l.length) 80 6 (n - l.length))
def rw1 (H : sm_H) (o p n : Int) (l : List Int) : sm_H := c_tak (sm_u (sm_u (wr (sm_u H 32 3 0) 39 p l) 40 o l.length) 32 15 (n - l.length))
def ro1 (H : sm_H) (q p n : Int) (l : List Int) : sm_H := t_tak (sm_u (sm_u (wr (tkn H l) 82 p l) 82 q l.length) 80 6 (n - l.length))
theorem rw0_ne {o n : Int} {l : List Int} {a : Nat} {i : Int} (h : ¬ ((a = 32 ∧ (i = 3 ∨ i = 15 ∨ i = 17)) ∨ (a = 59 ∧ i = 0) ∨ (a = 35 ∧ o * 9 ≤ i ∧ i < o * 9 + l.length) ∨ (a = 36 ∧ i = o) ∨ (a = 37 ∧ i = o))) : rw0 H o n l a i = H a i := by
  simp (disch := omega) only [rw0, c_tak, ev_u4, wr_o]
theorem ro0_ne {o n : Int} {l : List Int} {a : Nat} {i : Int} (h : ¬ (a = 85 ∨ (a = 80 ∧ (i = 0 ∨ i = 1 ∨ i = 6 ∨ i = 8 ∨ i = 10 ∨ i = 39)) ∨ (a = 82 ∧ 15 + 16 * o ≤ i ∧ i < 17 + 16 * o + l.length))) : ro0 H o n l a i = H a i := by
  simp (disch := omega) only [ro0, t_tak, ev_u4, wr_o, tkn_o]
theorem rw1_ne {o p n : Int} {l : List Int} {a : Nat} {i : Int} (h : ¬ ((a = 32 ∧ (i = 3 ∨ i = 15 ∨ i = 17)) ∨ (a = 59 ∧ i = 0) ∨ (a = 39 ∧ p ≤ i ∧ i < p + l.length) ∨ (a = 40 ∧ i = o))) : rw1 H o p n l a i = H a i := by
  simp (disch := omega) only [rw1, c_tak, ev_u4, wr_o]
theorem ro1_ne {q p n : Int} {l : List Int} {a : Nat} {i : Int} (h : ¬ (a = 85 ∨ (a = 80 ∧ (i = 0 ∨ i = 1 ∨ i = 6 ∨ i = 8 ∨ i = 10 ∨ i = 39)) ∨ (a = 82 ∧ (i = q ∨ (p ≤ i ∧ i < p + l.length))))) : ro1 H q p n l a i = H a i := by
  simp (disch := omega) only [ro1, t_tak, ev_u4, wr_o, tkn_o]
theorem tkn_10 {l : List Int} : tkn H l 80 10 = 0 := by
  simp (disch := omega) only [tkn, ev_u3, wr_ne, ev_u1]
theorem good_row0 (hS : SR H) (hH : HR H 33 (H 82)) {o : Int} {l : List Int} (h : 0 ≤ o ∧ o < H 82 0) (hl : l = kp (H 86) 63 true 9 (H 80 10).toNat) : Good H (ro0 (rw0 H o (H 80 10).toNat l) o (H 80 10).toNat l) := by
  have hlen : l.length ≤ 9 := by rw [hl]; exact (kp_len _).2
  have rn := hH.rn
  generalize hg : rw0 H o (H 80 10).toNat l = G
  have e : ∀ a i, ¬ ((a = 32 ∧ (i = 3 ∨ i = 15 ∨ i = 17)) ∨ (a = 59 ∧ i = 0) ∨ (a = 35 ∧ o * 9 ≤ i ∧ i < o * 9 + l.length) ∨ (a = 36 ∧ i = o) ∨ (a = 37 ∧ i = o) ∨ a = 85 ∨ (a = 80 ∧ (i = 0 ∨ i = 1 ∨ i = 6 ∨ i = 8 ∨ i = 10 ∨ i = 39)) ∨ (a = 82 ∧ 15 + 16 * o ≤ i ∧ i < 17 + 16 * o + l.length)) → ro0 G o (H 80 10).toNat l a i = H a i := fun a i h => by
    rw [ro0_ne (by omega), ← hg, rw0_ne (by omega)]
  have e35 : ∀ k : Int, 0 ≤ k → k < l.length → ro0 G o (H 80 10).toNat l 35 (o * 9 + k) = l.getD k.toNat 0 := fun k k0 k1 => by
    rw [ro0_ne (by omega), ← hg]
    simp (disch := omega) only [rw0, c_tak, ev_u4, wr_at]
  have e36 : ro0 G o (H 80 10).toNat l 36 o = l.length := by
    rw [ro0_ne (by omega), ← hg]
    simp (disch := omega) only [rw0, c_tak, ev_u4, ev_u1]
  have e37 : ro0 G o (H 80 10).toNat l 37 o = l.length := by
    rw [ro0_ne (by omega), ← hg]
    simp (disch := omega) only [rw0, c_tak, ev_u4, ev_u1]
  have m17 : ∀ k : Int, 0 ≤ k → k < l.length → ro0 G o (H 80 10).toNat l 82 (17 + 16 * o + k) = l.getD k.toNat 0 := fun k k0 k1 => by
    simp (disch := omega) only [ro0, t_tak, ev_u4, wr_at]
  have m16 : ro0 G o (H 80 10).toNat l 82 (16 + 16 * o) = l.length := by
    simp (disch := omega) only [ro0, t_tak, ev_u4, ev_u1]
  have m15 : ro0 G o (H 80 10).toNat l 82 (15 + 16 * o) = l.length := by
    simp (disch := omega) only [ro0, t_tak, ev_u4, ev_u1]
  have z59 : ro0 G o (H 80 10).toNat l 59 0 = 1 := by
    rw [ro0_ne (by omega), ← hg]
    simp (disch := omega) only [rw0, c_tak, ev_u4, ev_u1]
  have z3 : ro0 G o (H 80 10).toNat l 32 3 = 0 := by
    rw [ro0_ne (by omega), ← hg]
    simp (disch := omega) only [rw0, c_tak, ev_u4, ev_u1, wr_ne]
  have z17 : ro0 G o (H 80 10).toNat l 32 17 = 0 := by
    rw [ro0_ne (by omega), ← hg]
    simp (disch := omega) only [rw0, c_tak, ev_u4, ev_u1]
  have z15 : ro0 G o (H 80 10).toNat l 32 15 = (H 80 10).toNat - l.length := by
    rw [ro0_ne (by omega), ← hg]
    simp (disch := omega) only [rw0, c_tak, ev_u4, ev_u1]
  have y6 : ro0 G o (H 80 10).toNat l 80 6 = (H 80 10).toNat - l.length := by
    simp (disch := omega) only [ro0, t_tak, ev_u4, ev_u1]
  have y1 : ro0 G o (H 80 10).toNat l 80 1 = 0 := by
    simp (disch := omega) only [ro0, t_tak, ev_u4, ev_u1]
  have y10 : ro0 G o (H 80 10).toNat l 80 10 = 0 := by
    simp (disch := omega) only [ro0, t_tak, ev_u4, wr_ne, tkn_10]
  have y39 : ro0 G o (H 80 10).toNat l 80 39 = 0 := by
    simp (disch := omega) only [ro0, t_tak, ev_u1]
  generalize ro0 G o (H 80 10).toNat l = M at *
  refine good_tcr hS (fun a i h => e a i (by unfold Tcr Tch at h; omega)) z3 y10 (by rw [z15, y6]) (by rw [z17, y1]) (fun k k1 k2 => by rw [e _ _ (by omega), e _ _ (by omega)]; exact hS.2.2.2.2.2.1 k k1 k2) (Or.inl z59) (Or.inl y39) ?_
  obtain ⟨ha, hb, hc, hd⟩ := hH
  have e0 : M 82 0 = H 82 0 := e _ _ (by omega)
  refine ⟨⟨?_, ?_, ?_, ?_⟩, hb.congr (e _ _ (by omega)) (e _ _ (by omega)) (e _ _ (by omega)) (by funext i; exact e _ _ (by omega)) (fun i hi => e _ _ (by omega)), hc.congr (by funext i; exact e _ _ (by omega)) (by funext i; exact e _ _ (by omega)) (fun i hi => e _ _ (by omega)), hd.congr (e _ _ (by omega)) (e _ _ (by omega)) (e _ _ (by omega)) (e _ _ (by omega)) (by funext i; exact e _ _ (by omega)) (by funext i; exact e _ _ (by omega)) (by funext i; exact e _ _ (by omega)) (by rw [e0]; exact Int.le_refl _) (fun i hi => e _ _ (by omega))⟩
  · rw [e _ _ (by omega), e0]; exact ha.1
  · intro c c0 c1 w w0 w1
    rw [e0] at c1
    rw [e _ _ (by omega), e _ _ (by omega)]
    exact ha.2.1 c c0 c1 w w0 w1
  · intro c c0 c1
    rw [e0] at c1
    by_cases hco : c = o
    · subst hco
      rw [m15, m16, show (33 : Nat) + 3 = 36 from rfl, show (33 : Nat) + 4 = 37 from rfl, e36, e37]
      omega
    · rw [show (33 : Nat) + 3 = 36 from rfl, show (33 : Nat) + 4 = 37 from rfl, e 36 c (by omega), e 37 c (by omega), e _ _ (by omega), e _ _ (by omega)]
      exact ha.2.2.1 c c0 c1
  · intro c c0 c1 k k0 k1
    rw [e0] at c1
    have hq := ha.2.2.1 c c0 c1
    by_cases hco : c = o
    · subst hco
      rw [m16] at k1
      rw [m17 k k0 k1, show (33 : Nat) + 2 = 35 from rfl, e35 k k0 k1]
      have := hS.km hl k0 k1
      exact ⟨rfl, by omega, by omega⟩
    · rw [e _ _ (by omega)] at k1
      rw [show (33 : Nat) + 2 = 35 from rfl, e 35 _ (by omega), e _ _ (by omega)]
      exact ha.2.2.2 c c0 c1 k k0 k1
theorem good_row1 (hS : SR H) (hH : HR H 33 (H 82)) {w p q : Int} {l : List Int} {r : Nat} (hw : (0 ≤ w ∧ w < 4 ∧ q = 100 + 13 * w ∧ p = 101 + 13 * w ∧ r = 12) ∨ (w = 4 ∧ q = 8 ∧ p = 152 ∧ r = 24)) (hl : l = kp (H 86) 23 false r (H 80 10).toNat) : Good H (ro1 (rw1 H w (w * 24) (H 80 10).toNat l) q p (H 80 10).toNat l) := by
  have hlen : l.length ≤ r := by rw [hl]; exact (kp_len _).2
  have rn := hH.rn
  generalize hg : rw1 H w (w * 24) (H 80 10).toNat l = G
  have e : ∀ a i, ¬ ((a = 32 ∧ (i = 3 ∨ i = 15 ∨ i = 17)) ∨ (a = 59 ∧ i = 0) ∨ (a = 39 ∧ w * 24 ≤ i ∧ i < w * 24 + l.length) ∨ (a = 40 ∧ i = w) ∨ a = 85 ∨ (a = 80 ∧ (i = 0 ∨ i = 1 ∨ i = 6 ∨ i = 8 ∨ i = 10 ∨ i = 39)) ∨ (a = 82 ∧ (i = q ∨ (p ≤ i ∧ i < p + l.length)))) → ro1 G q p (H 80 10).toNat l a i = H a i := fun a i h => by
    rw [ro1_ne (by omega), ← hg, rw1_ne (by omega)]
  have e39 : ∀ k : Int, 0 ≤ k → k < l.length → ro1 G q p (H 80 10).toNat l 39 (w * 24 + k) = l.getD k.toNat 0 := fun k k0 k1 => by
    rw [ro1_ne (by omega), ← hg]
    simp (disch := omega) only [rw1, c_tak, ev_u4, wr_at]
  have e40 : ro1 G q p (H 80 10).toNat l 40 w = l.length := by
    rw [ro1_ne (by omega), ← hg]
    simp (disch := omega) only [rw1, c_tak, ev_u4, ev_u1]
  have mp : ∀ k : Int, 0 ≤ k → k < l.length → ro1 G q p (H 80 10).toNat l 82 (p + k) = l.getD k.toNat 0 := fun k k0 k1 => by
    simp (disch := omega) only [ro1, t_tak, ev_u4, wr_at]
  have mq : ro1 G q p (H 80 10).toNat l 82 q = l.length := by
    simp (disch := omega) only [ro1, t_tak, ev_u4, ev_u1]
  have z59 : ro1 G q p (H 80 10).toNat l 59 0 = 1 := by
    rw [ro1_ne (by omega), ← hg]
    simp (disch := omega) only [rw1, c_tak, ev_u4, ev_u1]
  have z3 : ro1 G q p (H 80 10).toNat l 32 3 = 0 := by
    rw [ro1_ne (by omega), ← hg]
    simp (disch := omega) only [rw1, c_tak, ev_u4, ev_u1, wr_ne]
  have z17 : ro1 G q p (H 80 10).toNat l 32 17 = 0 := by
    rw [ro1_ne (by omega), ← hg]
    simp (disch := omega) only [rw1, c_tak, ev_u4, ev_u1]
  have z15 : ro1 G q p (H 80 10).toNat l 32 15 = (H 80 10).toNat - l.length := by
    rw [ro1_ne (by omega), ← hg]
    simp (disch := omega) only [rw1, c_tak, ev_u4, ev_u1]
  have y6 : ro1 G q p (H 80 10).toNat l 80 6 = (H 80 10).toNat - l.length := by
    simp (disch := omega) only [ro1, t_tak, ev_u4, ev_u1]
  have y1 : ro1 G q p (H 80 10).toNat l 80 1 = 0 := by
    simp (disch := omega) only [ro1, t_tak, ev_u4, ev_u1]
  have y10 : ro1 G q p (H 80 10).toNat l 80 10 = 0 := by
    simp (disch := omega) only [ro1, t_tak, ev_u4, wr_ne, tkn_10]
  have y39 : ro1 G q p (H 80 10).toNat l 80 39 = 0 := by
    simp (disch := omega) only [ro1, t_tak, ev_u1]
  generalize ro1 G q p (H 80 10).toNat l = M at *
  refine good_tcr hS (fun a i h => e a i (by unfold Tcr Tch at h; omega)) z3 y10 (by rw [z15, y6]) (by rw [z17, y1]) (fun k k1 k2 => by rw [e _ _ (by omega), e _ _ (by omega)]; exact hS.2.2.2.2.2.1 k k1 k2) (Or.inl z59) (Or.inl y39) ?_
  obtain ⟨ha, hb, hc, hd⟩ := hH
  have e0 : M 82 0 = H 82 0 := e _ _ (by omega)
  refine ⟨ha.congr (e _ _ (by omega)) (by funext i; exact e _ _ (by omega)) (by funext i; exact e _ _ (by omega)) (by funext i; exact e _ _ (by omega)) (by funext i; exact e _ _ (by omega)) (fun i hi => e _ _ (by omega)), hb.congr (e _ _ (by omega)) (e _ _ (by omega)) (e _ _ (by omega)) (by funext i; exact e _ _ (by omega)) (fun i hi => e _ _ (by omega)), ⟨?_, ?_, ?_, ?_⟩, hd.congr (e _ _ (by omega)) (e _ _ (by omega)) (e _ _ (by omega)) (e _ _ (by omega)) (by funext i; exact e _ _ (by omega)) (by funext i; exact e _ _ (by omega)) (by funext i; exact e _ _ (by omega)) (by rw [e0]; exact Int.le_refl _) (fun i hi => e _ _ (by omega))⟩
  · intro c c0 c1
    by_cases hco : c = w
    · subst hco
      have hq : q = 100 + 13 * c := by omega
      rw [← hq, mq, show (33 : Nat) + 7 = 40 from rfl, e40]
      omega
    · rw [show (33 : Nat) + 7 = 40 from rfl, e 40 c (by omega), e _ _ (by omega)]
      exact hc.1 c c0 c1
  · by_cases hco : w = 4
    · subst hco
      have hq : q = 8 := by omega
      rw [← hq, mq, show (33 : Nat) + 7 = 40 from rfl, e40]
      omega
    · rw [show (33 : Nat) + 7 = 40 from rfl, e 40 4 (by omega), e _ _ (by omega)]
      exact hc.2.1
  · intro c c0 c1 k k0 k1
    have hq := hc.1 c c0 c1
    by_cases hco : c = w
    · subst hco
      have hq : q = 100 + 13 * c := by omega
      have hp : 101 + 13 * c = p := by omega
      rw [← hq, mq] at k1
      rw [hp, mp k k0 k1, show (33 : Nat) + 6 = 39 from rfl, e39 k k0 k1]
      have := hS.km hl k0 k1
      exact ⟨rfl, by omega, by omega⟩
    · rw [e _ _ (by omega)] at k1
      rw [show (33 : Nat) + 6 = 39 from rfl, e 39 _ (by omega), e _ _ (by omega)]
      exact hc.2.2.1 c c0 c1 k k0 k1
  · intro k k0 k1
    have hq := hc.2.1
    by_cases hco : w = 4
    · subst hco
      have hq : q = 8 := by omega
      have hp : 152 = p := by omega
      rw [← hq, mq] at k1
      rw [hp, mp k k0 k1, show (33 : Nat) + 6 = 39 from rfl, show (96 : Int) = 4 * 24 from rfl, e39 k k0 k1]
      have := hS.km hl k0 k1
      exact ⟨rfl, by omega, by omega⟩
    · rw [e _ _ (by omega)] at k1
      rw [show (33 : Nat) + 6 = 39 from rfl, e 39 _ (by omega), e _ _ (by omega)]
      exact hc.2.2.2 k k0 k1
theorem s_row (hS : SR H) (hH : HR H 33 (H 82)) {w o : Int} : Sim S (d + 4) Ls H 99 161 [.inl w, .inl o] (Good H) := by
  have hn := hH.hn
  have rn := hH.rn
  have n0 := hH.n0
  have h3 : H 32 3 = (H 80 10).toNat := by have := hS.1; omega
  have h3' : H 80 10 = (H 80 10).toNat := by have := hS.1; omega
  have h4 : (H 80 10).toNat ≤ 400 := by have := hS.1; omega
  by_cases hb : ¬ (0 ≤ w ∧ w ≤ 2) ∨ (w = 1 ∧ ¬ (0 ≤ o ∧ o < 4)) ∨ (w = 2 ∧ o ≠ 0)
  · unfold Sim
    rw [b_row_bad hb]
    refine ⟨_, _, rfl, ?_⟩
    rw [m_row_bad hb]
    exact good_ref' hS hH (by omega)
  rcases (by omega : w = 0 ∨ (w = 1 ∧ 0 ≤ o ∧ o < 4) ∨ (w = 2 ∧ o = 0)) with rfl | ⟨rfl, h1⟩ | ⟨rfl, rfl⟩
  · by_cases hc : 0 ≤ o ∧ o < H 82 0
    · unfold Sim
      rw [b_row0 (by omega) hn hH.hw h3 h4, hS.tp, hH.tk]
      generalize hl : kp (H 86) 63 true 9 (H 80 10).toNat = l
      refine ⟨fun hk => ⟨_, _, rfl, ?_⟩, fun hk => ⟨fun hz => ⟨_, _, rfl, ?_⟩, fun hz => ⟨_, _, rfl, ?_⟩⟩⟩
      · have e : ∀ a i, a ≠ 32 → a ≠ 79 → c_ref (sm_u H 32 3 0) (-3) a i = H a i := fun a i _ _ => by simp (disch := omega) only [c_ref, ev_u4]
        have e82 : c_ref (sm_u H 32 3 0) (-3) 82 = H 82 := by funext i; exact e _ _ (by omega) (by omega)
        have e86 : c_ref (sm_u H 32 3 0) (-3) 86 = H 86 := by funext i; exact e _ _ (by omega) (by omega)
        rw [m_row0 (by rw [e82]; exact hc) (by rw [e82]; exact rn) (by rw [e82]; exact hH.rw') (by rw [e _ _ (by omega) (by omega)]; exact h3') h4, e86, hl, mcell_congr e82, e82]
        have hne : l ≠ [] := by
          intro h
          rw [h, tk_iff] at hk
          obtain ⟨j, -, -, -, h5, -⟩ := hk
          exact h5 rfl
        have hnz : (H 80 10).toNat ≠ 0 := fun h => hne (by rw [← hl, h]; rfl)
        refine ⟨fun h => absurd h hnz, fun _ => ⟨fun _ => s_fin rfl (good_rr hS hH (by omega) (fun a i h => ?_) ?_ tkn_10), fun h => absurd hk h⟩⟩
        · rw [tkn_o (by omega) (by omega)]
          simp only [c_ref, sm_u]
          grind
        · rw [tkn_o (by omega) (by omega)]
          simp [c_ref, sm_u]
      · have e : ∀ a i, a ≠ 32 → a ≠ 79 → c_ref (sm_u H 32 3 0) (-6) a i = H a i := fun a i _ _ => by simp (disch := omega) only [c_ref, ev_u4]
        have e82 : c_ref (sm_u H 32 3 0) (-6) 82 = H 82 := by funext i; exact e _ _ (by omega) (by omega)
        have e86 : c_ref (sm_u H 32 3 0) (-6) 86 = H 86 := by funext i; exact e _ _ (by omega) (by omega)
        rw [m_row0 (by rw [e82]; exact hc) (by rw [e82]; exact rn) (by rw [e82]; exact hH.rw') (by rw [e _ _ (by omega) (by omega)]; exact h3') h4, e86, hl, mcell_congr e82, e82]
        refine ⟨fun _ => s_fin rfl (good_rr hS hH (by omega) (fun a i h => ?_) ?_ ev_u1), fun h => absurd hz h⟩
        · simp only [c_ref, sm_u]
          grind
        · simp [c_ref, sm_u]
      · have e : ∀ a i, a ≠ 32 → a ≠ 59 → a ≠ 35 → a ≠ 36 → a ≠ 37 → rw0 H o (H 80 10).toNat l a i = H a i := fun a i _ _ _ _ _ => rw0_ne (by omega)
        have e82 : rw0 H o (H 80 10).toNat l 82 = H 82 := by funext i; exact e _ _ (by omega) (by omega) (by omega) (by omega) (by omega)
        have e86 : rw0 H o (H 80 10).toNat l 86 = H 86 := by funext i; exact e _ _ (by omega) (by omega) (by omega) (by omega) (by omega)
        show Ru S (d + 4) 161 [.inr (.inr 80), .inl 0, .inl o] (kk0 ++ Ls) (rw0 H o (H 80 10).toNat l) _
        rw [m_row0 (by rw [e82]; exact hc) (by rw [e82]; exact rn) (by rw [e82]; exact hH.rw') (by rw [e _ _ (by omega) (by omega) (by omega) (by omega) (by omega)]; exact h3') h4, e86, hl, mcell_congr e82, e82]
        exact ⟨fun h => absurd h hz, fun _ => ⟨fun h => absurd h hk, fun _ => s_fin rfl (good_row0 hS hH hc hl.symm)⟩⟩
    · unfold Sim
      rw [b_row_no (by omega)]
      refine ⟨_, _, rfl, ?_⟩
      rw [m_row_no (by rw [c_ref_82]; exact rn) (by rw [c_ref_82]; exact hc)]
      exact good_ref' hS hH (by omega)
  · unfold Sim
    rw [b_row1 h1 h3 h4, hS.tp]
    generalize hl : kp (H 86) 23 false 12 (H 80 10).toNat = l
    refine ⟨fun hz => ⟨_, _, rfl, ?_⟩, fun hz => ⟨_, _, rfl, ?_⟩⟩
    · have e : ∀ a i, a ≠ 32 → a ≠ 79 → c_ref (sm_u H 32 3 0) (-6) a i = H a i := fun a i _ _ => by simp (disch := omega) only [c_ref, ev_u4]
      rw [m_row1 h1 (by rw [e _ _ (by omega) (by omega)]; exact h3') h4]
      refine ⟨fun _ => s_fin rfl (good_rr hS hH (by omega) (fun a i h => ?_) ?_ ev_u1), fun h => absurd hz h⟩
      · simp only [c_ref, sm_u]
        grind
      · simp [c_ref, sm_u]
    · have e : ∀ a i, a ≠ 32 → a ≠ 59 → a ≠ 39 → a ≠ 40 → rw1 H o (o * 24) (H 80 10).toNat l a i = H a i := fun a i _ _ _ _ => rw1_ne (by omega)
      have e86 : rw1 H o (o * 24) (H 80 10).toNat l 86 = H 86 := by funext i; exact e _ _ (by omega) (by omega) (by omega) (by omega)
      show Ru S (d + 4) 161 [.inr (.inr 80), .inl 1, .inl o] (kk0 ++ Ls) (rw1 H o (o * 24) (H 80 10).toNat l) _
      rw [m_row1 h1 (by rw [e _ _ (by omega) (by omega) (by omega) (by omega)]; exact h3') h4, e86, hl]
      exact ⟨fun h => absurd h hz, fun _ => s_fin rfl (good_row1 hS hH (Or.inl ⟨h1.1, h1.2, rfl, rfl, rfl⟩) hl.symm)⟩
  · unfold Sim
    rw [b_row2 h3 h4, hS.tp]
    generalize hl : kp (H 86) 23 false 24 (H 80 10).toNat = l
    refine ⟨fun hz => ⟨_, _, rfl, ?_⟩, fun hz => ⟨_, _, rfl, ?_⟩⟩
    · have e : ∀ a i, a ≠ 32 → a ≠ 79 → c_ref (sm_u H 32 3 0) (-6) a i = H a i := fun a i _ _ => by simp (disch := omega) only [c_ref, ev_u4]
      rw [m_row2 (by rw [e _ _ (by omega) (by omega)]; exact h3') h4]
      refine ⟨fun _ => s_fin rfl (good_rr hS hH (by omega) (fun a i h => ?_) ?_ ev_u1), fun h => absurd hz h⟩
      · simp only [c_ref, sm_u]
        grind
      · simp [c_ref, sm_u]
    · have e : ∀ a i, a ≠ 32 → a ≠ 59 → a ≠ 39 → a ≠ 40 → rw1 H 4 (4 * 24) (H 80 10).toNat l a i = H a i := fun a i _ _ _ _ => rw1_ne (by omega)
      have e86 : rw1 H 4 (4 * 24) (H 80 10).toNat l 86 = H 86 := by funext i; exact e _ _ (by omega) (by omega) (by omega) (by omega)
      show Ru S (d + 4) 161 [.inr (.inr 80), .inl 2, .inl 0] (kk0 ++ Ls) (rw1 H 4 (4 * 24) (H 80 10).toNat l) _
      rw [m_row2 (by rw [e _ _ (by omega) (by omega) (by omega) (by omega)]; exact h3') h4, e86, hl]
      exact ⟨fun h => absurd h hz, fun _ => s_fin rfl (good_row1 hS hH (Or.inr ⟨rfl, rfl, rfl, rfl⟩) hl.symm)⟩
end SROW
