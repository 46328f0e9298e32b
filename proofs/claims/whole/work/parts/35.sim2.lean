/-! SIMULATION, 2: calls that are taken -/
/-- what a call that is taken may touch -/
def Tch (a : Nat) (i : Int) : Prop := (a = 32 ∧ i = 17) ∨ (a = 59 ∧ i = 0) ∨ (a = 80 ∧ (i = 0 ∨ i = 1 ∨ i = 39)) ∨ (33 ≤ a ∧ a ≤ 44 ∧ a ≠ 41 ∧ (a = 33 → i ≠ 11)) ∨ (a = 82 ∧ i ≠ 1 ∧ i < 220)
theorem ev_u4 {H : sm_H} {a b : Nat} {i j v : Int} (h : ¬ (b = a ∧ j = i)) : sm_u H a i v b j = H b j := by simp [sm_u, h]
section SIM2
variable {d : Nat} {Ls : sm_K} {H H2 : sm_H} {S : sm_E} {fmt : Bool} {L : Nat} {xs : Nat → Int32}
theorem zr_u {n : Int} {a : Nat} {i : Int} {k : Nat} (h : ¬ (a = 82 ∧ n ≤ i ∧ i < n + k)) : zr H 82 n k a i = H a i := by rw [zr_at, if_neg h]
theorem zr_v {n : Int} {i : Int} {k : Nat} (h : n ≤ i ∧ i < n + k) : zr H 82 n k 82 i = 0 := by rw [zr_at, if_pos ⟨rfl, h⟩]
theorem good_tak (hS : SR H) (e : ∀ a i, ¬ Tch a i → H2 a i = H a i) (z1 : H2 32 17 = H2 80 1) (z2 : H2 59 0 = 1) (z4 : H2 80 39 = 0) (hH : HR H2 33 (H2 82)) : Good H H2 := by
  have er : ∀ a : Nat, a ≠ 32 → a ≠ 59 → a ≠ 80 → a ≠ 82 → ¬ (33 ≤ a ∧ a ≤ 44 ∧ a ≠ 41) → H2 a = H a := fun a h1 h2 h3 h4 h5 => by
    funext i
    exact e a i (by unfold Tch; omega)
  refine ⟨hS.congr (e _ _ (by unfold Tch; omega)) (e _ _ (by unfold Tch; omega)) (er _ (by omega) (by omega) (by omega) (by omega) (by omega)) (er _ (by omega) (by omega) (by omega) (by omega) (by omega)) (e _ _ (by unfold Tch; omega)) (e _ _ (by unfold Tch; omega)) (e _ _ (by unfold Tch; omega)) (e _ _ (by unfold Tch; omega)) z1 (fun k k1 k2 => ?_) (e _ _ (by unfold Tch; omega)) (e _ _ (by unfold Tch; omega)) (er _ (by omega) (by omega) (by omega) (by omega) (by omega)) (er _ (by omega) (by omega) (by omega) (by omega) (by omega)) (Or.inl z4), hH, fun a h => er _ (by omega) (by omega) (by omega) (by omega) (by omega), ⟨e _ _ (by unfold Tch; omega), e _ _ (by unfold Tch; omega), fun i hi => e _ _ (by unfold Tch; omega)⟩, fun k hk => e _ _ (by unfold Tch; omega), fun k hk => e _ _ (by unfold Tch; omega), Or.inl z2, Or.inl z4⟩
  rw [er 79 (by omega) (by omega) (by omega) (by omega) (by omega), er 81 (by omega) (by omega) (by omega) (by omega) (by omega)]
  exact hS.2.2.2.2.2.1 k k1 k2
theorem s_fin {K : sm_K} {a b : Int} {P : sm_H → Prop} (h : b = a) (hp : P H2) : ∃ H' : sm_H, ((K, (H2, some (.inl b))) : sm_O) = (K, (H', some (.inl a))) ∧ P H' := ⟨H2, by rw [h], hp⟩
theorem HR.hn (h : HR H 33 (H 82)) : 0 ≤ H 33 0 ∧ H 33 0 ≤ 5 := by rw [h.1.1.1]; exact h.1.1.2
theorem HR.rn (h : HR H 33 (H 82)) : 0 ≤ H 82 0 ∧ H 82 0 ≤ 5 := h.1.1.2
theorem HR.n0 (h : HR H 33 (H 82)) : H 33 0 = H 82 0 := h.1.1.1
theorem HR.hw (h : HR H 33 (H 82)) : ∀ c : Int, 0 ≤ c → c < H 33 0 → H 37 c ≤ H 36 c ∧ 0 ≤ H 37 c ∧ H 36 c ≤ 9 := by
  intro c c0 c1
  rw [h.n0] at c1
  have := h.1.2.2.1 c c0 c1
  have e1 : H 36 c = H 82 (16 + 16 * c) := this.1.1
  have e2 : H 37 c = H 82 (15 + 16 * c) := this.1.2
  omega
theorem HR.rw' (h : HR H 33 (H 82)) : ∀ c : Int, 0 ≤ c → c < H 82 0 → H 82 (15 + 16 * c) ≤ H 82 (16 + 16 * c) ∧ 0 ≤ H 82 (15 + 16 * c) ∧ H 82 (16 + 16 * c) ≤ 9 := by
  intro c c0 c1
  have := h.1.2.2.1 c c0 c1
  omega
theorem HR.lf (h : HR H 33 (H 82)) {c : Int} (c0 : 0 ≤ c) (c1 : c < H 82 0) : H 37 c = H 82 (15 + 16 * c) := (h.1.2.2.1 c c0 c1).1.2
theorem HR.lg (h : HR H 33 (H 82)) {c : Int} (c0 : 0 ≤ c) (c1 : c < H 82 0) : H 36 c = H 82 (16 + 16 * c) := (h.1.2.2.1 c c0 c1).1.1
theorem HR.tr (h : HR H 33 (H 82)) {c w : Int} (c0 : 0 ≤ c) (c1 : c < H 82 0) (w0 : 0 ≤ w) (w1 : w < 5) : H 34 (c * 5 + w) = H 82 (10 + 16 * c + w) := (h.1.2.1 c c0 c1 w w0 w1).1
theorem HR.wy (h : HR H 33 (H 82)) {c k : Int} (c0 : 0 ≤ c) (c1 : c < H 82 0) (k0 : 0 ≤ k) (k1 : k < H 82 (16 + 16 * c)) : H 35 (c * 9 + k) = H 82 (17 + 16 * c + k) := (h.1.2.2.2 c c0 c1 k k0 k1).1
theorem HR.cellAt (h : HR H 33 (H 82)) {c l : Int} (c0 : 0 ≤ c) (c1 : c < H 82 0) (l0 : 0 ≤ l) (l1 : l ≤ H 82 (16 + 16 * c)) : (if l = 0 then -1 else H 35 (c * 9 + (H 36 c - l))) = (if l = 0 then -1 else H 82 (17 + 16 * c + (H 82 (16 + 16 * c) - l))) := by
  by_cases hl : l = 0
  · simp [hl]
  · rw [if_neg hl, if_neg hl, h.lg c0 c1, h.wy c0 c1 (by omega) (by omega)]
theorem HR.cell (h : HR H 33 (H 82)) {c : Int} (c0 : 0 ≤ c) (c1 : c < H 82 0) : bcell H c = mcell H c := by
  have := h.rw' c c0 c1
  unfold bcell mcell
  rw [h.lf c0 c1]
  exact h.cellAt c0 c1 this.2.1 this.1
theorem HR.tk (h : HR H 33 (H 82)) {cow cell : Int} : tk (bcell H) cow cell 0 (H 33 0).toNat ↔ tk (mcell H) cow cell 0 (H 82 0).toNat := by
  have hn := h.rn
  rw [tk_iff, tk_iff, h.n0]
  constructor
  · rintro ⟨j, h1, h2, h3, h4, h5⟩
    exact ⟨j, h1, h2, h3, h4, by rw [← h.cell h1 (by omega)]; exact h5⟩
  · rintro ⟨j, h1, h2, h3, h4, h5⟩
    exact ⟨j, h1, h2, h3, h4, by rw [h.cell h1 (by omega)]; exact h5⟩
theorem c_ref_82 {v : Int} : c_ref H v 82 = H 82 := by funext j; simp [c_ref, sm_u]
theorem c_tak_82 : c_tak H 82 = H 82 := by funext j; simp [c_tak, sm_u]
theorem mcell_congr {H' : sm_H} (e : H' 82 = H 82) : mcell H' = mcell H := by funext c; unfold mcell; rw [e]
theorem good_ref' (hS : SR H) (hH : HR H 33 (H 82)) {v : Int} (hv : -6 ≤ v ∧ v < 0) {K : sm_K} : ∃ H' : sm_H, ((K, (t_ref (sm_u (c_ref H v) 80 0 0) v, some (.inl v))) : sm_O) = (K, (H', some (.inl v))) ∧ Good H H' := s_fin rfl (good_ref hS hH hv)
theorem s_wind (hS : SR H) (hH : HR H 33 (H 82)) {w : Int} : Sim S (d + 3) Ls H 93 157 [.inl w] (Good H) := by
  unfold Sim
  rw [b_wind]
  refine ⟨fun h => ⟨_, _, rfl, ?_⟩, fun h => ⟨_, _, rfl, ?_⟩⟩
  · rw [m_wind]
    refine ⟨fun _ => s_fin (by rw [c_tak_82, u_row (by omega), ← hH.2.1.1.1]) ?_, fun h' => absurd h h'⟩
    refine good_tak hS (fun a i h => (by unfold Tch at h; simp (disch := omega) only [t_tak, c_tak, ev_u4, zr_u])) rfl rfl rfl ?_
    obtain ⟨ha, hb, hc, hd⟩ := hH
    refine ⟨ha.congr (by first | (simp (disch := omega) only [t_tak, c_tak, ev_u1, ev_u2, ev_u3, zr_u, zr_v, Nat.reduceAdd]; done) | (funext j; simp (disch := omega) only [t_tak, c_tak, ev_u1, ev_u2, ev_u3, zr_u, zr_v, Nat.reduceAdd]; done) | (intro i hi; simp (disch := omega) only [t_tak, c_tak, ev_u1, ev_u2, ev_u3, zr_u, zr_v, Nat.reduceAdd]; done)) (by first | (simp (disch := omega) only [t_tak, c_tak, ev_u1, ev_u2, ev_u3, zr_u, zr_v, Nat.reduceAdd]; done) | (funext j; simp (disch := omega) only [t_tak, c_tak, ev_u1, ev_u2, ev_u3, zr_u, zr_v, Nat.reduceAdd]; done) | (intro i hi; simp (disch := omega) only [t_tak, c_tak, ev_u1, ev_u2, ev_u3, zr_u, zr_v, Nat.reduceAdd]; done)) (by first | (simp (disch := omega) only [t_tak, c_tak, ev_u1, ev_u2, ev_u3, zr_u, zr_v, Nat.reduceAdd]; done) | (funext j; simp (disch := omega) only [t_tak, c_tak, ev_u1, ev_u2, ev_u3, zr_u, zr_v, Nat.reduceAdd]; done) | (intro i hi; simp (disch := omega) only [t_tak, c_tak, ev_u1, ev_u2, ev_u3, zr_u, zr_v, Nat.reduceAdd]; done)) (by first | (simp (disch := omega) only [t_tak, c_tak, ev_u1, ev_u2, ev_u3, zr_u, zr_v, Nat.reduceAdd]; done) | (funext j; simp (disch := omega) only [t_tak, c_tak, ev_u1, ev_u2, ev_u3, zr_u, zr_v, Nat.reduceAdd]; done) | (intro i hi; simp (disch := omega) only [t_tak, c_tak, ev_u1, ev_u2, ev_u3, zr_u, zr_v, Nat.reduceAdd]; done)) (by first | (simp (disch := omega) only [t_tak, c_tak, ev_u1, ev_u2, ev_u3, zr_u, zr_v, Nat.reduceAdd]; done) | (funext j; simp (disch := omega) only [t_tak, c_tak, ev_u1, ev_u2, ev_u3, zr_u, zr_v, Nat.reduceAdd]; done) | (intro i hi; simp (disch := omega) only [t_tak, c_tak, ev_u1, ev_u2, ev_u3, zr_u, zr_v, Nat.reduceAdd]; done)) (by first | (simp (disch := omega) only [t_tak, c_tak, ev_u1, ev_u2, ev_u3, zr_u, zr_v, Nat.reduceAdd]; done) | (funext j; simp (disch := omega) only [t_tak, c_tak, ev_u1, ev_u2, ev_u3, zr_u, zr_v, Nat.reduceAdd]; done) | (intro i hi; simp (disch := omega) only [t_tak, c_tak, ev_u1, ev_u2, ev_u3, zr_u, zr_v, Nat.reduceAdd]; done)), ⟨?_, ?_, ?_, ?_⟩, hc.congr (by first | (simp (disch := omega) only [t_tak, c_tak, ev_u1, ev_u2, ev_u3, zr_u, zr_v, Nat.reduceAdd]; done) | (funext j; simp (disch := omega) only [t_tak, c_tak, ev_u1, ev_u2, ev_u3, zr_u, zr_v, Nat.reduceAdd]; done) | (intro i hi; simp (disch := omega) only [t_tak, c_tak, ev_u1, ev_u2, ev_u3, zr_u, zr_v, Nat.reduceAdd]; done)) (by first | (simp (disch := omega) only [t_tak, c_tak, ev_u1, ev_u2, ev_u3, zr_u, zr_v, Nat.reduceAdd]; done) | (funext j; simp (disch := omega) only [t_tak, c_tak, ev_u1, ev_u2, ev_u3, zr_u, zr_v, Nat.reduceAdd]; done) | (intro i hi; simp (disch := omega) only [t_tak, c_tak, ev_u1, ev_u2, ev_u3, zr_u, zr_v, Nat.reduceAdd]; done)) (by first | (simp (disch := omega) only [t_tak, c_tak, ev_u1, ev_u2, ev_u3, zr_u, zr_v, Nat.reduceAdd]; done) | (funext j; simp (disch := omega) only [t_tak, c_tak, ev_u1, ev_u2, ev_u3, zr_u, zr_v, Nat.reduceAdd]; done) | (intro i hi; simp (disch := omega) only [t_tak, c_tak, ev_u1, ev_u2, ev_u3, zr_u, zr_v, Nat.reduceAdd]; done)), hd.congr (by first | (simp (disch := omega) only [t_tak, c_tak, ev_u1, ev_u2, ev_u3, zr_u, zr_v, Nat.reduceAdd]; done) | (funext j; simp (disch := omega) only [t_tak, c_tak, ev_u1, ev_u2, ev_u3, zr_u, zr_v, Nat.reduceAdd]; done) | (intro i hi; simp (disch := omega) only [t_tak, c_tak, ev_u1, ev_u2, ev_u3, zr_u, zr_v, Nat.reduceAdd]; done)) (by first | (simp (disch := omega) only [t_tak, c_tak, ev_u1, ev_u2, ev_u3, zr_u, zr_v, Nat.reduceAdd]; done) | (funext j; simp (disch := omega) only [t_tak, c_tak, ev_u1, ev_u2, ev_u3, zr_u, zr_v, Nat.reduceAdd]; done) | (intro i hi; simp (disch := omega) only [t_tak, c_tak, ev_u1, ev_u2, ev_u3, zr_u, zr_v, Nat.reduceAdd]; done)) (by first | (simp (disch := omega) only [t_tak, c_tak, ev_u1, ev_u2, ev_u3, zr_u, zr_v, Nat.reduceAdd]; done) | (funext j; simp (disch := omega) only [t_tak, c_tak, ev_u1, ev_u2, ev_u3, zr_u, zr_v, Nat.reduceAdd]; done) | (intro i hi; simp (disch := omega) only [t_tak, c_tak, ev_u1, ev_u2, ev_u3, zr_u, zr_v, Nat.reduceAdd]; done)) (by first | (simp (disch := omega) only [t_tak, c_tak, ev_u1, ev_u2, ev_u3, zr_u, zr_v, Nat.reduceAdd]; done) | (funext j; simp (disch := omega) only [t_tak, c_tak, ev_u1, ev_u2, ev_u3, zr_u, zr_v, Nat.reduceAdd]; done) | (intro i hi; simp (disch := omega) only [t_tak, c_tak, ev_u1, ev_u2, ev_u3, zr_u, zr_v, Nat.reduceAdd]; done)) (by first | (simp (disch := omega) only [t_tak, c_tak, ev_u1, ev_u2, ev_u3, zr_u, zr_v, Nat.reduceAdd]; done) | (funext j; simp (disch := omega) only [t_tak, c_tak, ev_u1, ev_u2, ev_u3, zr_u, zr_v, Nat.reduceAdd]; done) | (intro i hi; simp (disch := omega) only [t_tak, c_tak, ev_u1, ev_u2, ev_u3, zr_u, zr_v, Nat.reduceAdd]; done)) (by first | (simp (disch := omega) only [t_tak, c_tak, ev_u1, ev_u2, ev_u3, zr_u, zr_v, Nat.reduceAdd]; done) | (funext j; simp (disch := omega) only [t_tak, c_tak, ev_u1, ev_u2, ev_u3, zr_u, zr_v, Nat.reduceAdd]; done) | (intro i hi; simp (disch := omega) only [t_tak, c_tak, ev_u1, ev_u2, ev_u3, zr_u, zr_v, Nat.reduceAdd]; done)) (by first | (simp (disch := omega) only [t_tak, c_tak, ev_u1, ev_u2, ev_u3, zr_u, zr_v, Nat.reduceAdd]; done) | (funext j; simp (disch := omega) only [t_tak, c_tak, ev_u1, ev_u2, ev_u3, zr_u, zr_v, Nat.reduceAdd]; done) | (intro i hi; simp (disch := omega) only [t_tak, c_tak, ev_u1, ev_u2, ev_u3, zr_u, zr_v, Nat.reduceAdd]; done)) (by first | (simp [t_tak, c_tak, sm_u]; done) | (simp [t_tak, c_tak, sm_u]; omega)) (by first | (simp (disch := omega) only [t_tak, c_tak, ev_u1, ev_u2, ev_u3, zr_u, zr_v, Nat.reduceAdd]; done) | (funext j; simp (disch := omega) only [t_tak, c_tak, ev_u1, ev_u2, ev_u3, zr_u, zr_v, Nat.reduceAdd]; done) | (intro i hi; simp (disch := omega) only [t_tak, c_tak, ev_u1, ev_u2, ev_u3, zr_u, zr_v, Nat.reduceAdd]; done))⟩
    · simp [t_tak, c_tak, sm_u]; omega
    · have q := hb.2.1; (simp (disch := omega) only [t_tak, c_tak, ev_u1, ev_u2, ev_u3, zr_u, zr_v, Nat.reduceAdd]; exact q)
    · intro g g0 g1
      simp (disch := omega) only [t_tak, c_tak, ev_u1, ev_u2, ev_u3, zr_u, zr_v, Nat.reduceAdd, true_and, and_true] at g1
      have q := hb.2.2.1 g g0 g1
      refine ⟨?_, ?_, fun j j0 j1 => ?_⟩
      · simp (disch := omega) only [t_tak, c_tak, ev_u1, ev_u2, ev_u3, zr_u, zr_v, Nat.reduceAdd, true_and, and_true]; exact q.1
      · simp (disch := omega) only [t_tak, c_tak, ev_u1, ev_u2, ev_u3, zr_u, zr_v, Nat.reduceAdd, true_and, and_true]; exact q.2.1
      · simp (disch := omega) only [t_tak, c_tak, ev_u1, ev_u2, ev_u3, zr_u, zr_v, Nat.reduceAdd, true_and, and_true]; exact q.2.2 j j0 j1
    · have q := hb.2.2.2; (simp (disch := omega) only [t_tak, c_tak, ev_u1, ev_u2, ev_u3, zr_u, zr_v, Nat.reduceAdd]; exact q)
  · rw [m_wind]
    exact ⟨fun h' => absurd h' h, fun _ => good_ref' hS hH (by omega)⟩
theorem s_guard (hS : SR H) (hH : HR H 33 (H 82)) {w : Int} : Sim S (d + 3) Ls H 95 159 [.inl w] (Good H) := by
  have h4 : H 33 6 = H 82 4 := hH.2.1.2.1.1
  have h4' := hH.2.1.2.1.2
  unfold Sim
  rw [b_guard (by omega)]
  refine ⟨fun h => ⟨_, _, rfl, ?_⟩, fun h => ⟨_, _, rfl, ?_⟩⟩
  · have e : c_tak (sm_u H 33 8 w) 82 = H 82 := by rw [c_tak_82, u_row (by omega)]
    rw [m_guard (by rw [e]; exact h4'), e, ← h4]
    refine ⟨fun _ => s_fin (by rw [hH.2.1.2.2.2.1]) ?_, fun h' => absurd h h'⟩
    refine good_tak hS (fun a i h => (by unfold Tch at h; simp (disch := omega) only [t_tak, c_tak, ev_u4, zr_u])) rfl rfl rfl ?_
    obtain ⟨ha, hb, hc, hd⟩ := hH
    refine ⟨ha.congr (by first | (simp (disch := omega) only [t_tak, c_tak, ev_u1, ev_u2, ev_u3, zr_u, zr_v, Nat.reduceAdd]; done) | (funext j; simp (disch := omega) only [t_tak, c_tak, ev_u1, ev_u2, ev_u3, zr_u, zr_v, Nat.reduceAdd]; done) | (intro i hi; simp (disch := omega) only [t_tak, c_tak, ev_u1, ev_u2, ev_u3, zr_u, zr_v, Nat.reduceAdd]; done)) (by first | (simp (disch := omega) only [t_tak, c_tak, ev_u1, ev_u2, ev_u3, zr_u, zr_v, Nat.reduceAdd]; done) | (funext j; simp (disch := omega) only [t_tak, c_tak, ev_u1, ev_u2, ev_u3, zr_u, zr_v, Nat.reduceAdd]; done) | (intro i hi; simp (disch := omega) only [t_tak, c_tak, ev_u1, ev_u2, ev_u3, zr_u, zr_v, Nat.reduceAdd]; done)) (by first | (simp (disch := omega) only [t_tak, c_tak, ev_u1, ev_u2, ev_u3, zr_u, zr_v, Nat.reduceAdd]; done) | (funext j; simp (disch := omega) only [t_tak, c_tak, ev_u1, ev_u2, ev_u3, zr_u, zr_v, Nat.reduceAdd]; done) | (intro i hi; simp (disch := omega) only [t_tak, c_tak, ev_u1, ev_u2, ev_u3, zr_u, zr_v, Nat.reduceAdd]; done)) (by first | (simp (disch := omega) only [t_tak, c_tak, ev_u1, ev_u2, ev_u3, zr_u, zr_v, Nat.reduceAdd]; done) | (funext j; simp (disch := omega) only [t_tak, c_tak, ev_u1, ev_u2, ev_u3, zr_u, zr_v, Nat.reduceAdd]; done) | (intro i hi; simp (disch := omega) only [t_tak, c_tak, ev_u1, ev_u2, ev_u3, zr_u, zr_v, Nat.reduceAdd]; done)) (by first | (simp (disch := omega) only [t_tak, c_tak, ev_u1, ev_u2, ev_u3, zr_u, zr_v, Nat.reduceAdd]; done) | (funext j; simp (disch := omega) only [t_tak, c_tak, ev_u1, ev_u2, ev_u3, zr_u, zr_v, Nat.reduceAdd]; done) | (intro i hi; simp (disch := omega) only [t_tak, c_tak, ev_u1, ev_u2, ev_u3, zr_u, zr_v, Nat.reduceAdd]; done)) (by first | (simp (disch := omega) only [t_tak, c_tak, ev_u1, ev_u2, ev_u3, zr_u, zr_v, Nat.reduceAdd]; done) | (funext j; simp (disch := omega) only [t_tak, c_tak, ev_u1, ev_u2, ev_u3, zr_u, zr_v, Nat.reduceAdd]; done) | (intro i hi; simp (disch := omega) only [t_tak, c_tak, ev_u1, ev_u2, ev_u3, zr_u, zr_v, Nat.reduceAdd]; done)), ⟨?_, ?_, ?_, ?_⟩, hc.congr (by first | (simp (disch := omega) only [t_tak, c_tak, ev_u1, ev_u2, ev_u3, zr_u, zr_v, Nat.reduceAdd]; done) | (funext j; simp (disch := omega) only [t_tak, c_tak, ev_u1, ev_u2, ev_u3, zr_u, zr_v, Nat.reduceAdd]; done) | (intro i hi; simp (disch := omega) only [t_tak, c_tak, ev_u1, ev_u2, ev_u3, zr_u, zr_v, Nat.reduceAdd]; done)) (by first | (simp (disch := omega) only [t_tak, c_tak, ev_u1, ev_u2, ev_u3, zr_u, zr_v, Nat.reduceAdd]; done) | (funext j; simp (disch := omega) only [t_tak, c_tak, ev_u1, ev_u2, ev_u3, zr_u, zr_v, Nat.reduceAdd]; done) | (intro i hi; simp (disch := omega) only [t_tak, c_tak, ev_u1, ev_u2, ev_u3, zr_u, zr_v, Nat.reduceAdd]; done)) (by first | (simp (disch := omega) only [t_tak, c_tak, ev_u1, ev_u2, ev_u3, zr_u, zr_v, Nat.reduceAdd]; done) | (funext j; simp (disch := omega) only [t_tak, c_tak, ev_u1, ev_u2, ev_u3, zr_u, zr_v, Nat.reduceAdd]; done) | (intro i hi; simp (disch := omega) only [t_tak, c_tak, ev_u1, ev_u2, ev_u3, zr_u, zr_v, Nat.reduceAdd]; done)), hd.congr (by first | (simp (disch := omega) only [t_tak, c_tak, ev_u1, ev_u2, ev_u3, zr_u, zr_v, Nat.reduceAdd]; done) | (funext j; simp (disch := omega) only [t_tak, c_tak, ev_u1, ev_u2, ev_u3, zr_u, zr_v, Nat.reduceAdd]; done) | (intro i hi; simp (disch := omega) only [t_tak, c_tak, ev_u1, ev_u2, ev_u3, zr_u, zr_v, Nat.reduceAdd]; done)) (by first | (simp (disch := omega) only [t_tak, c_tak, ev_u1, ev_u2, ev_u3, zr_u, zr_v, Nat.reduceAdd]; done) | (funext j; simp (disch := omega) only [t_tak, c_tak, ev_u1, ev_u2, ev_u3, zr_u, zr_v, Nat.reduceAdd]; done) | (intro i hi; simp (disch := omega) only [t_tak, c_tak, ev_u1, ev_u2, ev_u3, zr_u, zr_v, Nat.reduceAdd]; done)) (by first | (simp (disch := omega) only [t_tak, c_tak, ev_u1, ev_u2, ev_u3, zr_u, zr_v, Nat.reduceAdd]; done) | (funext j; simp (disch := omega) only [t_tak, c_tak, ev_u1, ev_u2, ev_u3, zr_u, zr_v, Nat.reduceAdd]; done) | (intro i hi; simp (disch := omega) only [t_tak, c_tak, ev_u1, ev_u2, ev_u3, zr_u, zr_v, Nat.reduceAdd]; done)) (by first | (simp (disch := omega) only [t_tak, c_tak, ev_u1, ev_u2, ev_u3, zr_u, zr_v, Nat.reduceAdd]; done) | (funext j; simp (disch := omega) only [t_tak, c_tak, ev_u1, ev_u2, ev_u3, zr_u, zr_v, Nat.reduceAdd]; done) | (intro i hi; simp (disch := omega) only [t_tak, c_tak, ev_u1, ev_u2, ev_u3, zr_u, zr_v, Nat.reduceAdd]; done)) (by first | (simp (disch := omega) only [t_tak, c_tak, ev_u1, ev_u2, ev_u3, zr_u, zr_v, Nat.reduceAdd]; done) | (funext j; simp (disch := omega) only [t_tak, c_tak, ev_u1, ev_u2, ev_u3, zr_u, zr_v, Nat.reduceAdd]; done) | (intro i hi; simp (disch := omega) only [t_tak, c_tak, ev_u1, ev_u2, ev_u3, zr_u, zr_v, Nat.reduceAdd]; done)) (by first | (simp (disch := omega) only [t_tak, c_tak, ev_u1, ev_u2, ev_u3, zr_u, zr_v, Nat.reduceAdd]; done) | (funext j; simp (disch := omega) only [t_tak, c_tak, ev_u1, ev_u2, ev_u3, zr_u, zr_v, Nat.reduceAdd]; done) | (intro i hi; simp (disch := omega) only [t_tak, c_tak, ev_u1, ev_u2, ev_u3, zr_u, zr_v, Nat.reduceAdd]; done)) (by first | (simp (disch := omega) only [t_tak, c_tak, ev_u1, ev_u2, ev_u3, zr_u, zr_v, Nat.reduceAdd]; done) | (funext j; simp (disch := omega) only [t_tak, c_tak, ev_u1, ev_u2, ev_u3, zr_u, zr_v, Nat.reduceAdd]; done) | (intro i hi; simp (disch := omega) only [t_tak, c_tak, ev_u1, ev_u2, ev_u3, zr_u, zr_v, Nat.reduceAdd]; done)) (by first | (simp [t_tak, c_tak, sm_u]; done) | (simp [t_tak, c_tak, sm_u]; omega)) (by first | (simp (disch := omega) only [t_tak, c_tak, ev_u1, ev_u2, ev_u3, zr_u, zr_v, Nat.reduceAdd]; done) | (funext j; simp (disch := omega) only [t_tak, c_tak, ev_u1, ev_u2, ev_u3, zr_u, zr_v, Nat.reduceAdd]; done) | (intro i hi; simp (disch := omega) only [t_tak, c_tak, ev_u1, ev_u2, ev_u3, zr_u, zr_v, Nat.reduceAdd]; done))⟩
    · have q := hb.1; (simp (disch := omega) only [t_tak, c_tak, ev_u1, ev_u2, ev_u3, zr_u, zr_v, Nat.reduceAdd]; exact q)
    · have q := hb.2.1; (simp (disch := omega) only [t_tak, c_tak, ev_u1, ev_u2, ev_u3, zr_u, zr_v, Nat.reduceAdd]; exact q)
    · intro g g0 g1
      simp (disch := omega) only [t_tak, c_tak, ev_u1, ev_u2, ev_u3, zr_u, zr_v, Nat.reduceAdd, true_and, and_true] at g1
      have q := hb.2.2.1 g g0 g1
      refine ⟨?_, ?_, fun j j0 j1 => ?_⟩
      · simp (disch := omega) only [t_tak, c_tak, ev_u1, ev_u2, ev_u3, zr_u, zr_v, Nat.reduceAdd, true_and, and_true]; exact q.1
      · simp (disch := omega) only [t_tak, c_tak, ev_u1, ev_u2, ev_u3, zr_u, zr_v, Nat.reduceAdd, true_and, and_true]; exact q.2.1
      · simp (disch := omega) only [t_tak, c_tak, ev_u1, ev_u2, ev_u3, zr_u, zr_v, Nat.reduceAdd, true_and, and_true]; exact q.2.2 j j0 j1
    · simp [t_tak, c_tak, sm_u, ← h4]; omega
  · rw [m_guard (by rw [c_ref_82]; exact h4'), c_ref_82, ← h4]
    exact ⟨fun h' => absurd h' h, fun _ => good_ref' hS hH (by omega)⟩
theorem s_force (hS : SR H) (hH : HR H 33 (H 82)) {w : Int} : Sim S (d + 3) Ls H 105 193 [.inl w] (Good H) := by
  have h4 : H 33 11 = H 82 1 := hH.2.2.2.1.1
  have h4' := hH.2.2.2.1.2
  unfold Sim
  rw [b_force]
  refine ⟨fun h => ⟨_, _, rfl, ?_⟩, fun h => ⟨_, _, rfl, ?_⟩⟩
  · have e : c_tak (sm_u H 33 13 w) 82 = H 82 := by rw [c_tak_82, u_row (by omega)]
    rw [m_force (by rw [e]; exact h4'), e, ← h4]
    refine ⟨fun _ => s_fin (by rw [hH.2.2.2.2.1.1]) ?_, fun h' => absurd h h'⟩
    refine good_tak hS (fun a i h => (by unfold Tch at h; simp (disch := omega) only [t_tak, c_tak, ev_u4, zr_u])) rfl rfl rfl ?_
    obtain ⟨ha, hb, hc, hd⟩ := hH
    refine ⟨ha.congr (by first | (simp (disch := omega) only [t_tak, c_tak, ev_u1, ev_u2, ev_u3, zr_u, zr_v, Nat.reduceAdd]; done) | (funext j; simp (disch := omega) only [t_tak, c_tak, ev_u1, ev_u2, ev_u3, zr_u, zr_v, Nat.reduceAdd]; done) | (intro i hi; simp (disch := omega) only [t_tak, c_tak, ev_u1, ev_u2, ev_u3, zr_u, zr_v, Nat.reduceAdd]; done)) (by first | (simp (disch := omega) only [t_tak, c_tak, ev_u1, ev_u2, ev_u3, zr_u, zr_v, Nat.reduceAdd]; done) | (funext j; simp (disch := omega) only [t_tak, c_tak, ev_u1, ev_u2, ev_u3, zr_u, zr_v, Nat.reduceAdd]; done) | (intro i hi; simp (disch := omega) only [t_tak, c_tak, ev_u1, ev_u2, ev_u3, zr_u, zr_v, Nat.reduceAdd]; done)) (by first | (simp (disch := omega) only [t_tak, c_tak, ev_u1, ev_u2, ev_u3, zr_u, zr_v, Nat.reduceAdd]; done) | (funext j; simp (disch := omega) only [t_tak, c_tak, ev_u1, ev_u2, ev_u3, zr_u, zr_v, Nat.reduceAdd]; done) | (intro i hi; simp (disch := omega) only [t_tak, c_tak, ev_u1, ev_u2, ev_u3, zr_u, zr_v, Nat.reduceAdd]; done)) (by first | (simp (disch := omega) only [t_tak, c_tak, ev_u1, ev_u2, ev_u3, zr_u, zr_v, Nat.reduceAdd]; done) | (funext j; simp (disch := omega) only [t_tak, c_tak, ev_u1, ev_u2, ev_u3, zr_u, zr_v, Nat.reduceAdd]; done) | (intro i hi; simp (disch := omega) only [t_tak, c_tak, ev_u1, ev_u2, ev_u3, zr_u, zr_v, Nat.reduceAdd]; done)) (by first | (simp (disch := omega) only [t_tak, c_tak, ev_u1, ev_u2, ev_u3, zr_u, zr_v, Nat.reduceAdd]; done) | (funext j; simp (disch := omega) only [t_tak, c_tak, ev_u1, ev_u2, ev_u3, zr_u, zr_v, Nat.reduceAdd]; done) | (intro i hi; simp (disch := omega) only [t_tak, c_tak, ev_u1, ev_u2, ev_u3, zr_u, zr_v, Nat.reduceAdd]; done)) (by first | (simp (disch := omega) only [t_tak, c_tak, ev_u1, ev_u2, ev_u3, zr_u, zr_v, Nat.reduceAdd]; done) | (funext j; simp (disch := omega) only [t_tak, c_tak, ev_u1, ev_u2, ev_u3, zr_u, zr_v, Nat.reduceAdd]; done) | (intro i hi; simp (disch := omega) only [t_tak, c_tak, ev_u1, ev_u2, ev_u3, zr_u, zr_v, Nat.reduceAdd]; done)), hb.congr (by first | (simp (disch := omega) only [t_tak, c_tak, ev_u1, ev_u2, ev_u3, zr_u, zr_v, Nat.reduceAdd]; done) | (funext j; simp (disch := omega) only [t_tak, c_tak, ev_u1, ev_u2, ev_u3, zr_u, zr_v, Nat.reduceAdd]; done) | (intro i hi; simp (disch := omega) only [t_tak, c_tak, ev_u1, ev_u2, ev_u3, zr_u, zr_v, Nat.reduceAdd]; done)) (by first | (simp (disch := omega) only [t_tak, c_tak, ev_u1, ev_u2, ev_u3, zr_u, zr_v, Nat.reduceAdd]; done) | (funext j; simp (disch := omega) only [t_tak, c_tak, ev_u1, ev_u2, ev_u3, zr_u, zr_v, Nat.reduceAdd]; done) | (intro i hi; simp (disch := omega) only [t_tak, c_tak, ev_u1, ev_u2, ev_u3, zr_u, zr_v, Nat.reduceAdd]; done)) (by first | (simp (disch := omega) only [t_tak, c_tak, ev_u1, ev_u2, ev_u3, zr_u, zr_v, Nat.reduceAdd]; done) | (funext j; simp (disch := omega) only [t_tak, c_tak, ev_u1, ev_u2, ev_u3, zr_u, zr_v, Nat.reduceAdd]; done) | (intro i hi; simp (disch := omega) only [t_tak, c_tak, ev_u1, ev_u2, ev_u3, zr_u, zr_v, Nat.reduceAdd]; done)) (by first | (simp (disch := omega) only [t_tak, c_tak, ev_u1, ev_u2, ev_u3, zr_u, zr_v, Nat.reduceAdd]; done) | (funext j; simp (disch := omega) only [t_tak, c_tak, ev_u1, ev_u2, ev_u3, zr_u, zr_v, Nat.reduceAdd]; done) | (intro i hi; simp (disch := omega) only [t_tak, c_tak, ev_u1, ev_u2, ev_u3, zr_u, zr_v, Nat.reduceAdd]; done)) (by first | (simp (disch := omega) only [t_tak, c_tak, ev_u1, ev_u2, ev_u3, zr_u, zr_v, Nat.reduceAdd]; done) | (funext j; simp (disch := omega) only [t_tak, c_tak, ev_u1, ev_u2, ev_u3, zr_u, zr_v, Nat.reduceAdd]; done) | (intro i hi; simp (disch := omega) only [t_tak, c_tak, ev_u1, ev_u2, ev_u3, zr_u, zr_v, Nat.reduceAdd]; done)), hc.congr (by first | (simp (disch := omega) only [t_tak, c_tak, ev_u1, ev_u2, ev_u3, zr_u, zr_v, Nat.reduceAdd]; done) | (funext j; simp (disch := omega) only [t_tak, c_tak, ev_u1, ev_u2, ev_u3, zr_u, zr_v, Nat.reduceAdd]; done) | (intro i hi; simp (disch := omega) only [t_tak, c_tak, ev_u1, ev_u2, ev_u3, zr_u, zr_v, Nat.reduceAdd]; done)) (by first | (simp (disch := omega) only [t_tak, c_tak, ev_u1, ev_u2, ev_u3, zr_u, zr_v, Nat.reduceAdd]; done) | (funext j; simp (disch := omega) only [t_tak, c_tak, ev_u1, ev_u2, ev_u3, zr_u, zr_v, Nat.reduceAdd]; done) | (intro i hi; simp (disch := omega) only [t_tak, c_tak, ev_u1, ev_u2, ev_u3, zr_u, zr_v, Nat.reduceAdd]; done)) (by first | (simp (disch := omega) only [t_tak, c_tak, ev_u1, ev_u2, ev_u3, zr_u, zr_v, Nat.reduceAdd]; done) | (funext j; simp (disch := omega) only [t_tak, c_tak, ev_u1, ev_u2, ev_u3, zr_u, zr_v, Nat.reduceAdd]; done) | (intro i hi; simp (disch := omega) only [t_tak, c_tak, ev_u1, ev_u2, ev_u3, zr_u, zr_v, Nat.reduceAdd]; done)), ⟨?_, ?_, ?_, ?_, ?_, ?_, ?_⟩⟩
    · have q := hd.1; (simp (disch := omega) only [t_tak, c_tak, ev_u1, ev_u2, ev_u3, zr_u, zr_v, Nat.reduceAdd]; exact q)
    · simp [t_tak, c_tak, sm_u, ← h4]; omega
    · have q := hd.2.2.1; (simp (disch := omega) only [t_tak, c_tak, ev_u1, ev_u2, ev_u3, zr_u, zr_v, Nat.reduceAdd]; exact q)
    · have q := hd.2.2.2.1; (intro g g0 g1; simp (disch := omega) only [t_tak, c_tak, ev_u1, ev_u2, ev_u3, zr_u, zr_v, Nat.reduceAdd] at g1 ⊢; exact q g g0 g1)
    · have q := hd.2.2.2.2.1; (intro i j i0 ij j1; simp (disch := omega) only [t_tak, c_tak, ev_u1, ev_u2, ev_u3, zr_u, zr_v, Nat.reduceAdd] at j1 ⊢; exact q i j i0 ij j1)
    · have q := hd.2.2.2.2.2.1; (simp (disch := omega) only [t_tak, c_tak, ev_u1, ev_u2, ev_u3, zr_u, zr_v, Nat.reduceAdd]; exact q)
    · have q := hd.2.2.2.2.2.2; (intro g g0 g1; simp (disch := omega) only [t_tak, c_tak, ev_u1, ev_u2, ev_u3, zr_u, zr_v, Nat.reduceAdd] at g1 ⊢; exact q g g0 g1)
  · rw [m_force (by rw [c_ref_82]; exact h4'), c_ref_82, ← h4]
    exact ⟨fun h' => absurd h' h, fun _ => good_ref' hS hH (by omega)⟩
theorem s_put (hS : SR H) (hH : HR H 33 (H 82)) {c w v : Int} : Sim (st_S fmt L xs) (d + 3) Ls H 89 151 [.inl c, .inl w, .inl v] (Good H) := by
  have hn := hH.hn
  have rn := hH.rn
  have n0 := hH.n0
  unfold Sim
  rw [b_put hn]
  refine ⟨fun h => ⟨_, _, rfl, ?_⟩, fun h h2 => ⟨_, _, rfl, ?_⟩, fun h h2 => ⟨_, _, rfl, ?_⟩⟩
  · rw [m_put (by rw [c_ref_82]; exact rn)]
    exact ⟨fun _ => good_ref' hS hH (by omega), fun h' => absurd h' h, fun h' => absurd h' h⟩
  · rw [m_put (by rw [c_ref_82]; exact rn), c_ref_82, ← n0]
    exact ⟨fun h' => absurd h h', fun _ _ => good_ref' hS hH (by omega), fun _ h' => absurd h' h2⟩
  · have e : c_tak (sm_u H 34 (c * 5 + w) v) 82 = H 82 := by rw [c_tak_82, u_row (by omega)]
    rw [m_put (by rw [e]; exact rn), e, ← n0]
    have hw : 0 ≤ w ∧ w < 5 := by unfold tr_ok at h; omega
    refine ⟨fun h' => absurd h h', fun _ h' => absurd h2 h', fun _ _ => s_fin (hH.tr h2.1 (by omega) hw.1 hw.2).symm ?_⟩
    refine good_tak hS (fun a i h => (by unfold Tch at h; simp (disch := omega) only [t_tak, c_tak, ev_u4, zr_u])) rfl rfl rfl ?_
    obtain ⟨ha, hb, hc, hd⟩ := hH
    refine ⟨⟨?_, ?_, ?_, ?_⟩, hb.congr (by first | (simp (disch := omega) only [t_tak, c_tak, ev_u1, ev_u2, ev_u3, zr_u, zr_v, Nat.reduceAdd]; done) | (funext j; simp (disch := omega) only [t_tak, c_tak, ev_u1, ev_u2, ev_u3, zr_u, zr_v, Nat.reduceAdd]; done) | (intro i hi; simp (disch := omega) only [t_tak, c_tak, ev_u1, ev_u2, ev_u3, zr_u, zr_v, Nat.reduceAdd]; done)) (by first | (simp (disch := omega) only [t_tak, c_tak, ev_u1, ev_u2, ev_u3, zr_u, zr_v, Nat.reduceAdd]; done) | (funext j; simp (disch := omega) only [t_tak, c_tak, ev_u1, ev_u2, ev_u3, zr_u, zr_v, Nat.reduceAdd]; done) | (intro i hi; simp (disch := omega) only [t_tak, c_tak, ev_u1, ev_u2, ev_u3, zr_u, zr_v, Nat.reduceAdd]; done)) (by first | (simp (disch := omega) only [t_tak, c_tak, ev_u1, ev_u2, ev_u3, zr_u, zr_v, Nat.reduceAdd]; done) | (funext j; simp (disch := omega) only [t_tak, c_tak, ev_u1, ev_u2, ev_u3, zr_u, zr_v, Nat.reduceAdd]; done) | (intro i hi; simp (disch := omega) only [t_tak, c_tak, ev_u1, ev_u2, ev_u3, zr_u, zr_v, Nat.reduceAdd]; done)) (by first | (simp (disch := omega) only [t_tak, c_tak, ev_u1, ev_u2, ev_u3, zr_u, zr_v, Nat.reduceAdd]; done) | (funext j; simp (disch := omega) only [t_tak, c_tak, ev_u1, ev_u2, ev_u3, zr_u, zr_v, Nat.reduceAdd]; done) | (intro i hi; simp (disch := omega) only [t_tak, c_tak, ev_u1, ev_u2, ev_u3, zr_u, zr_v, Nat.reduceAdd]; done)) (by first | (simp (disch := omega) only [t_tak, c_tak, ev_u1, ev_u2, ev_u3, zr_u, zr_v, Nat.reduceAdd]; done) | (funext j; simp (disch := omega) only [t_tak, c_tak, ev_u1, ev_u2, ev_u3, zr_u, zr_v, Nat.reduceAdd]; done) | (intro i hi; simp (disch := omega) only [t_tak, c_tak, ev_u1, ev_u2, ev_u3, zr_u, zr_v, Nat.reduceAdd]; done)), hc.congr (by first | (simp (disch := omega) only [t_tak, c_tak, ev_u1, ev_u2, ev_u3, zr_u, zr_v, Nat.reduceAdd]; done) | (funext j; simp (disch := omega) only [t_tak, c_tak, ev_u1, ev_u2, ev_u3, zr_u, zr_v, Nat.reduceAdd]; done) | (intro i hi; simp (disch := omega) only [t_tak, c_tak, ev_u1, ev_u2, ev_u3, zr_u, zr_v, Nat.reduceAdd]; done)) (by first | (simp (disch := omega) only [t_tak, c_tak, ev_u1, ev_u2, ev_u3, zr_u, zr_v, Nat.reduceAdd]; done) | (funext j; simp (disch := omega) only [t_tak, c_tak, ev_u1, ev_u2, ev_u3, zr_u, zr_v, Nat.reduceAdd]; done) | (intro i hi; simp (disch := omega) only [t_tak, c_tak, ev_u1, ev_u2, ev_u3, zr_u, zr_v, Nat.reduceAdd]; done)) (by first | (simp (disch := omega) only [t_tak, c_tak, ev_u1, ev_u2, ev_u3, zr_u, zr_v, Nat.reduceAdd]; done) | (funext j; simp (disch := omega) only [t_tak, c_tak, ev_u1, ev_u2, ev_u3, zr_u, zr_v, Nat.reduceAdd]; done) | (intro i hi; simp (disch := omega) only [t_tak, c_tak, ev_u1, ev_u2, ev_u3, zr_u, zr_v, Nat.reduceAdd]; done)), hd.congr (by first | (simp (disch := omega) only [t_tak, c_tak, ev_u1, ev_u2, ev_u3, zr_u, zr_v, Nat.reduceAdd]; done) | (funext j; simp (disch := omega) only [t_tak, c_tak, ev_u1, ev_u2, ev_u3, zr_u, zr_v, Nat.reduceAdd]; done) | (intro i hi; simp (disch := omega) only [t_tak, c_tak, ev_u1, ev_u2, ev_u3, zr_u, zr_v, Nat.reduceAdd]; done)) (by first | (simp (disch := omega) only [t_tak, c_tak, ev_u1, ev_u2, ev_u3, zr_u, zr_v, Nat.reduceAdd]; done) | (funext j; simp (disch := omega) only [t_tak, c_tak, ev_u1, ev_u2, ev_u3, zr_u, zr_v, Nat.reduceAdd]; done) | (intro i hi; simp (disch := omega) only [t_tak, c_tak, ev_u1, ev_u2, ev_u3, zr_u, zr_v, Nat.reduceAdd]; done)) (by first | (simp (disch := omega) only [t_tak, c_tak, ev_u1, ev_u2, ev_u3, zr_u, zr_v, Nat.reduceAdd]; done) | (funext j; simp (disch := omega) only [t_tak, c_tak, ev_u1, ev_u2, ev_u3, zr_u, zr_v, Nat.reduceAdd]; done) | (intro i hi; simp (disch := omega) only [t_tak, c_tak, ev_u1, ev_u2, ev_u3, zr_u, zr_v, Nat.reduceAdd]; done)) (by first | (simp (disch := omega) only [t_tak, c_tak, ev_u1, ev_u2, ev_u3, zr_u, zr_v, Nat.reduceAdd]; done) | (funext j; simp (disch := omega) only [t_tak, c_tak, ev_u1, ev_u2, ev_u3, zr_u, zr_v, Nat.reduceAdd]; done) | (intro i hi; simp (disch := omega) only [t_tak, c_tak, ev_u1, ev_u2, ev_u3, zr_u, zr_v, Nat.reduceAdd]; done)) (by first | (simp (disch := omega) only [t_tak, c_tak, ev_u1, ev_u2, ev_u3, zr_u, zr_v, Nat.reduceAdd]; done) | (funext j; simp (disch := omega) only [t_tak, c_tak, ev_u1, ev_u2, ev_u3, zr_u, zr_v, Nat.reduceAdd]; done) | (intro i hi; simp (disch := omega) only [t_tak, c_tak, ev_u1, ev_u2, ev_u3, zr_u, zr_v, Nat.reduceAdd]; done)) (by first | (simp (disch := omega) only [t_tak, c_tak, ev_u1, ev_u2, ev_u3, zr_u, zr_v, Nat.reduceAdd]; done) | (funext j; simp (disch := omega) only [t_tak, c_tak, ev_u1, ev_u2, ev_u3, zr_u, zr_v, Nat.reduceAdd]; done) | (intro i hi; simp (disch := omega) only [t_tak, c_tak, ev_u1, ev_u2, ev_u3, zr_u, zr_v, Nat.reduceAdd]; done)) (by first | (simp (disch := omega) only [t_tak, c_tak, ev_u1, ev_u2, ev_u3, zr_u, zr_v, Nat.reduceAdd]; done) | (funext j; simp (disch := omega) only [t_tak, c_tak, ev_u1, ev_u2, ev_u3, zr_u, zr_v, Nat.reduceAdd]; done) | (intro i hi; simp (disch := omega) only [t_tak, c_tak, ev_u1, ev_u2, ev_u3, zr_u, zr_v, Nat.reduceAdd]; done)) (by first | (simp [t_tak, c_tak, sm_u]; done) | (simp [t_tak, c_tak, sm_u]; omega)) (by first | (simp (disch := omega) only [t_tak, c_tak, ev_u1, ev_u2, ev_u3, zr_u, zr_v, Nat.reduceAdd]; done) | (funext j; simp (disch := omega) only [t_tak, c_tak, ev_u1, ev_u2, ev_u3, zr_u, zr_v, Nat.reduceAdd]; done) | (intro i hi; simp (disch := omega) only [t_tak, c_tak, ev_u1, ev_u2, ev_u3, zr_u, zr_v, Nat.reduceAdd]; done))⟩
    · have q := ha.1; (simp (disch := omega) only [t_tak, c_tak, ev_u1, ev_u2, ev_u3, zr_u, zr_v, Nat.reduceAdd]; exact q)
    · intro c' c0 c1 w' w0 w1
      simp (disch := omega) only [t_tak, c_tak, ev_u1, ev_u2, ev_u3, zr_u, zr_v, Nat.reduceAdd, true_and, and_true] at c1
      have q := ha.2.1 c' c0 c1 w' w0 w1
      by_cases hcw : c' = c ∧ w' = w
      · obtain ⟨rfl, rfl⟩ := hcw
        simp (disch := omega) only [t_tak, c_tak, ev_u1, ev_u2, ev_u3, zr_u, zr_v, Nat.reduceAdd, true_and, and_true]
        exact h
      · have h1 : c' * 5 + w' ≠ c * 5 + w := by omega
        have h2 : 10 + 16 * c' + w' ≠ 10 + 16 * c + w := by omega
        simp (disch := omega) only [t_tak, c_tak, ev_u1, ev_u2, ev_u3, zr_u, zr_v, Nat.reduceAdd, true_and, and_true]
        exact q
    · have q := ha.2.2.1; (intro g g0 g1; simp (disch := omega) only [t_tak, c_tak, ev_u1, ev_u2, ev_u3, zr_u, zr_v, Nat.reduceAdd] at g1 ⊢; exact q g g0 g1)
    · intro c' c0 c1 k k0 k1
      simp (disch := omega) only [t_tak, c_tak, ev_u1, ev_u2, ev_u3, zr_u, zr_v, Nat.reduceAdd, true_and, and_true] at c1
      have q0 := ha.2.2.1 c' c0 c1
      simp (disch := omega) only [t_tak, c_tak, ev_u1, ev_u2, ev_u3, zr_u, zr_v, Nat.reduceAdd, true_and, and_true] at k1
      have q := ha.2.2.2 c' c0 c1 k k0 k1
      have h2 : 17 + 16 * c' + k ≠ 10 + 16 * c + w := by omega
      simp (disch := omega) only [t_tak, c_tak, ev_u1, ev_u2, ev_u3, zr_u, zr_v, Nat.reduceAdd, true_and, and_true]
      exact q
theorem s_gap (hS : SR H) (hH : HR H 33 (H 82)) {x : Int} : Sim S (d + 3) Ls H 94 158 [.inl x] (Good H) := by
  have h4 : H 33 6 = H 82 4 := hH.2.1.2.1.1
  have h4' := hH.2.1.2.1.2
  have hg : gbit (H 38) x 0 (H 33 6).toNat ≠ 0 ↔ ∃ j : Int, 0 ≤ j ∧ j < H 82 4 ∧ H 82 (90 + j) = x := by
    rw [gbit_ne (H 38) x (H 33 6).toNat 0 (by omega) (by omega)]
    constructor
    · rintro ⟨j, h1, h2, h3⟩
      have := hH.2.1.2.2.1 j h1 (by omega)
      exact ⟨j, h1, by omega, by rw [← this.1]; exact h3⟩
    · rintro ⟨j, h1, h2, h3⟩
      have := hH.2.1.2.2.1 j h1 (by omega)
      exact ⟨j, h1, by omega, by rw [← h3]; exact this.1⟩
  unfold Sim
  rw [b_gap (by omega)]
  refine ⟨fun h => ⟨_, _, rfl, ?_⟩, fun h h2 => ⟨_, _, rfl, ?_⟩, fun h h2 h3 => ⟨_, _, rfl, ?_⟩, fun h h2 h3 => ⟨_, _, rfl, ?_⟩⟩
  · rw [m_gap (by rw [c_ref_82]; exact h4'), c_ref_82]
    exact ⟨fun _ => good_ref' hS hH (by omega), fun h' => absurd h' h⟩
  · rw [m_gap (by rw [c_ref_82]; exact h4'), c_ref_82]
    exact ⟨fun h' => absurd h h', fun _ => ⟨fun _ => good_ref' hS hH (by omega), fun h' => absurd (hg.mp h2) h'⟩⟩
  · rw [m_gap (by rw [c_ref_82]; exact h4'), c_ref_82]
    have hno : ¬ ∃ j : Int, 0 ≤ j ∧ j < H 82 4 ∧ H 82 (90 + j) = x := fun h' => (hg.mpr h') h2
    exact ⟨fun h' => absurd h h', fun _ => ⟨fun h' => absurd h' hno, fun _ => ⟨fun _ => good_ref' hS hH (by omega), fun h' => by omega⟩⟩⟩
  · have e : c_tak (sm_u (sm_u H 38 (H 33 6) x) 33 6 (H 33 6 + 1)) 82 = H 82 := by rw [c_tak_82, u_row (by omega), u_row (by omega)]
    rw [m_gap (by rw [e]; exact h4'), e]
    have hno : ¬ ∃ j : Int, 0 ≤ j ∧ j < H 82 4 ∧ H 82 (90 + j) = x := fun h' => (hg.mpr h') h2
    refine ⟨fun h' => absurd h h', fun _ => ⟨fun h' => absurd h' hno, fun _ => ⟨fun h' => by omega, fun _ => s_fin (by rw [h4]) ?_⟩⟩⟩
    rw [h4] at h3 ⊢
    refine good_tak hS (fun a i h => (by unfold Tch at h; simp (disch := omega) only [t_tak, c_tak, ev_u4, zr_u])) rfl rfl rfl ?_
    obtain ⟨ha, hb, hc, hd⟩ := hH
    refine ⟨ha.congr (by first | (simp (disch := omega) only [t_tak, c_tak, ev_u1, ev_u2, ev_u3, zr_u, zr_v, Nat.reduceAdd]; done) | (funext j; simp (disch := omega) only [t_tak, c_tak, ev_u1, ev_u2, ev_u3, zr_u, zr_v, Nat.reduceAdd]; done) | (intro i hi; simp (disch := omega) only [t_tak, c_tak, ev_u1, ev_u2, ev_u3, zr_u, zr_v, Nat.reduceAdd]; done)) (by first | (simp (disch := omega) only [t_tak, c_tak, ev_u1, ev_u2, ev_u3, zr_u, zr_v, Nat.reduceAdd]; done) | (funext j; simp (disch := omega) only [t_tak, c_tak, ev_u1, ev_u2, ev_u3, zr_u, zr_v, Nat.reduceAdd]; done) | (intro i hi; simp (disch := omega) only [t_tak, c_tak, ev_u1, ev_u2, ev_u3, zr_u, zr_v, Nat.reduceAdd]; done)) (by first | (simp (disch := omega) only [t_tak, c_tak, ev_u1, ev_u2, ev_u3, zr_u, zr_v, Nat.reduceAdd]; done) | (funext j; simp (disch := omega) only [t_tak, c_tak, ev_u1, ev_u2, ev_u3, zr_u, zr_v, Nat.reduceAdd]; done) | (intro i hi; simp (disch := omega) only [t_tak, c_tak, ev_u1, ev_u2, ev_u3, zr_u, zr_v, Nat.reduceAdd]; done)) (by first | (simp (disch := omega) only [t_tak, c_tak, ev_u1, ev_u2, ev_u3, zr_u, zr_v, Nat.reduceAdd]; done) | (funext j; simp (disch := omega) only [t_tak, c_tak, ev_u1, ev_u2, ev_u3, zr_u, zr_v, Nat.reduceAdd]; done) | (intro i hi; simp (disch := omega) only [t_tak, c_tak, ev_u1, ev_u2, ev_u3, zr_u, zr_v, Nat.reduceAdd]; done)) (by first | (simp (disch := omega) only [t_tak, c_tak, ev_u1, ev_u2, ev_u3, zr_u, zr_v, Nat.reduceAdd]; done) | (funext j; simp (disch := omega) only [t_tak, c_tak, ev_u1, ev_u2, ev_u3, zr_u, zr_v, Nat.reduceAdd]; done) | (intro i hi; simp (disch := omega) only [t_tak, c_tak, ev_u1, ev_u2, ev_u3, zr_u, zr_v, Nat.reduceAdd]; done)) (by first | (simp (disch := omega) only [t_tak, c_tak, ev_u1, ev_u2, ev_u3, zr_u, zr_v, Nat.reduceAdd]; done) | (funext j; simp (disch := omega) only [t_tak, c_tak, ev_u1, ev_u2, ev_u3, zr_u, zr_v, Nat.reduceAdd]; done) | (intro i hi; simp (disch := omega) only [t_tak, c_tak, ev_u1, ev_u2, ev_u3, zr_u, zr_v, Nat.reduceAdd]; done)), ⟨?_, ?_, ?_, ?_⟩, hc.congr (by first | (simp (disch := omega) only [t_tak, c_tak, ev_u1, ev_u2, ev_u3, zr_u, zr_v, Nat.reduceAdd]; done) | (funext j; simp (disch := omega) only [t_tak, c_tak, ev_u1, ev_u2, ev_u3, zr_u, zr_v, Nat.reduceAdd]; done) | (intro i hi; simp (disch := omega) only [t_tak, c_tak, ev_u1, ev_u2, ev_u3, zr_u, zr_v, Nat.reduceAdd]; done)) (by first | (simp (disch := omega) only [t_tak, c_tak, ev_u1, ev_u2, ev_u3, zr_u, zr_v, Nat.reduceAdd]; done) | (funext j; simp (disch := omega) only [t_tak, c_tak, ev_u1, ev_u2, ev_u3, zr_u, zr_v, Nat.reduceAdd]; done) | (intro i hi; simp (disch := omega) only [t_tak, c_tak, ev_u1, ev_u2, ev_u3, zr_u, zr_v, Nat.reduceAdd]; done)) (by first | (simp (disch := omega) only [t_tak, c_tak, ev_u1, ev_u2, ev_u3, zr_u, zr_v, Nat.reduceAdd]; done) | (funext j; simp (disch := omega) only [t_tak, c_tak, ev_u1, ev_u2, ev_u3, zr_u, zr_v, Nat.reduceAdd]; done) | (intro i hi; simp (disch := omega) only [t_tak, c_tak, ev_u1, ev_u2, ev_u3, zr_u, zr_v, Nat.reduceAdd]; done)), hd.congr (by first | (simp (disch := omega) only [t_tak, c_tak, ev_u1, ev_u2, ev_u3, zr_u, zr_v, Nat.reduceAdd]; done) | (funext j; simp (disch := omega) only [t_tak, c_tak, ev_u1, ev_u2, ev_u3, zr_u, zr_v, Nat.reduceAdd]; done) | (intro i hi; simp (disch := omega) only [t_tak, c_tak, ev_u1, ev_u2, ev_u3, zr_u, zr_v, Nat.reduceAdd]; done)) (by first | (simp (disch := omega) only [t_tak, c_tak, ev_u1, ev_u2, ev_u3, zr_u, zr_v, Nat.reduceAdd]; done) | (funext j; simp (disch := omega) only [t_tak, c_tak, ev_u1, ev_u2, ev_u3, zr_u, zr_v, Nat.reduceAdd]; done) | (intro i hi; simp (disch := omega) only [t_tak, c_tak, ev_u1, ev_u2, ev_u3, zr_u, zr_v, Nat.reduceAdd]; done)) (by first | (simp (disch := omega) only [t_tak, c_tak, ev_u1, ev_u2, ev_u3, zr_u, zr_v, Nat.reduceAdd]; done) | (funext j; simp (disch := omega) only [t_tak, c_tak, ev_u1, ev_u2, ev_u3, zr_u, zr_v, Nat.reduceAdd]; done) | (intro i hi; simp (disch := omega) only [t_tak, c_tak, ev_u1, ev_u2, ev_u3, zr_u, zr_v, Nat.reduceAdd]; done)) (by first | (simp (disch := omega) only [t_tak, c_tak, ev_u1, ev_u2, ev_u3, zr_u, zr_v, Nat.reduceAdd]; done) | (funext j; simp (disch := omega) only [t_tak, c_tak, ev_u1, ev_u2, ev_u3, zr_u, zr_v, Nat.reduceAdd]; done) | (intro i hi; simp (disch := omega) only [t_tak, c_tak, ev_u1, ev_u2, ev_u3, zr_u, zr_v, Nat.reduceAdd]; done)) (by first | (simp (disch := omega) only [t_tak, c_tak, ev_u1, ev_u2, ev_u3, zr_u, zr_v, Nat.reduceAdd]; done) | (funext j; simp (disch := omega) only [t_tak, c_tak, ev_u1, ev_u2, ev_u3, zr_u, zr_v, Nat.reduceAdd]; done) | (intro i hi; simp (disch := omega) only [t_tak, c_tak, ev_u1, ev_u2, ev_u3, zr_u, zr_v, Nat.reduceAdd]; done)) (by first | (simp (disch := omega) only [t_tak, c_tak, ev_u1, ev_u2, ev_u3, zr_u, zr_v, Nat.reduceAdd]; done) | (funext j; simp (disch := omega) only [t_tak, c_tak, ev_u1, ev_u2, ev_u3, zr_u, zr_v, Nat.reduceAdd]; done) | (intro i hi; simp (disch := omega) only [t_tak, c_tak, ev_u1, ev_u2, ev_u3, zr_u, zr_v, Nat.reduceAdd]; done)) (by first | (simp (disch := omega) only [t_tak, c_tak, ev_u1, ev_u2, ev_u3, zr_u, zr_v, Nat.reduceAdd]; done) | (funext j; simp (disch := omega) only [t_tak, c_tak, ev_u1, ev_u2, ev_u3, zr_u, zr_v, Nat.reduceAdd]; done) | (intro i hi; simp (disch := omega) only [t_tak, c_tak, ev_u1, ev_u2, ev_u3, zr_u, zr_v, Nat.reduceAdd]; done)) (by first | (simp [t_tak, c_tak, sm_u]; done) | (simp [t_tak, c_tak, sm_u]; omega)) (by first | (simp (disch := omega) only [t_tak, c_tak, ev_u1, ev_u2, ev_u3, zr_u, zr_v, Nat.reduceAdd]; done) | (funext j; simp (disch := omega) only [t_tak, c_tak, ev_u1, ev_u2, ev_u3, zr_u, zr_v, Nat.reduceAdd]; done) | (intro i hi; simp (disch := omega) only [t_tak, c_tak, ev_u1, ev_u2, ev_u3, zr_u, zr_v, Nat.reduceAdd]; done))⟩
    · have q := hb.1; (simp (disch := omega) only [t_tak, c_tak, ev_u1, ev_u2, ev_u3, zr_u, zr_v, Nat.reduceAdd]; exact q)
    · simp (disch := omega) only [t_tak, c_tak, ev_u1, ev_u2, ev_u3, zr_u, zr_v, Nat.reduceAdd, true_and, and_true]; omega
    · intro g g0 g1
      simp (disch := omega) only [t_tak, c_tak, ev_u1, ev_u2, ev_u3, zr_u, zr_v, Nat.reduceAdd, true_and, and_true] at g1
      by_cases hgg : g = H 82 4
      · subst hgg
        refine ⟨?_, ?_, fun j j0 j1 => ?_⟩
        · simp (disch := omega) only [t_tak, c_tak, ev_u1, ev_u2, ev_u3, zr_u, zr_v, Nat.reduceAdd, true_and, and_true]
        · simp (disch := omega) only [t_tak, c_tak, ev_u1, ev_u2, ev_u3, zr_u, zr_v, Nat.reduceAdd, true_and, and_true]; omega
        · simp (disch := omega) only [t_tak, c_tak, ev_u1, ev_u2, ev_u3, zr_u, zr_v, Nat.reduceAdd, true_and, and_true]
          exact fun hj => hno ⟨j, j0, j1, hj⟩
      · have q := hb.2.2.1 g g0 (by omega)
        have h1 : 90 + g ≠ 90 + H 82 4 := by omega
        refine ⟨?_, ?_, fun j j0 j1 => ?_⟩
        · simp (disch := omega) only [t_tak, c_tak, ev_u1, ev_u2, ev_u3, zr_u, zr_v, Nat.reduceAdd, true_and, and_true]; exact q.1
        · simp (disch := omega) only [t_tak, c_tak, ev_u1, ev_u2, ev_u3, zr_u, zr_v, Nat.reduceAdd, true_and, and_true]; exact q.2.1
        · simp (disch := omega) only [t_tak, c_tak, ev_u1, ev_u2, ev_u3, zr_u, zr_v, Nat.reduceAdd, true_and, and_true]; exact q.2.2 j j0 j1
    · have q := hb.2.2.2
      simp (disch := omega) only [t_tak, c_tak, ev_u1, ev_u2, ev_u3, zr_u, zr_v, Nat.reduceAdd, true_and, and_true]
      refine ⟨q.1, q.2.1, ?_⟩
      have e1 := shl_pow (c := H 82 4) (by omega)
      have e2 := shl_pow (c := H 82 4 + 1) (by omega)
      have e3 : (H 82 4 + 1).toNat = (H 82 4).toNat + 1 := by omega
      rw [e2, e3, Int.pow_succ, ← e1]
      omega
theorem s_left (hS : SR H) (hH : HR H 33 (H 82)) {c l : Int} : Sim S (d + 4) Ls H 90 154 [.inl c, .inl l] (Good H) := by
  have hn := hH.hn
  have rn := hH.rn
  have n0 := hH.n0
  unfold Sim
  rw [b_left hn hH.hw]
  refine ⟨fun h => ⟨_, _, rfl, ?_⟩, fun h h2 => ⟨_, _, rfl, ?_⟩, fun h h2 h3 => ⟨_, _, rfl, ?_⟩, fun h h2 h3 => ⟨_, _, rfl, ?_⟩⟩
  · rw [m_left (by rw [c_ref_82]; exact rn) (by rw [c_ref_82]; exact hH.rw'), c_ref_82]
    exact ⟨fun _ => good_ref' hS hH (by omega), fun h' => by omega, fun h' => by omega, fun h' => by omega⟩
  · have hl := hH.lg h.1 (by omega)
    rw [m_left (by rw [c_ref_82]; exact rn) (by rw [c_ref_82]; exact hH.rw'), c_ref_82]
    exact ⟨fun h' => by omega, fun _ _ => good_ref' hS hH (by omega), fun _ h' => by omega, fun _ h' => by omega⟩
  · have hl := hH.lg h.1 (by omega)
    rw [m_left (by rw [c_ref_82]; exact rn) (by rw [c_ref_82]; exact hH.rw'), mcell_congr c_ref_82, c_ref_82]
    rw [hH.cellAt h.1 (by omega) h2.1 (by omega), hH.tk] at h3
    exact ⟨fun h' => by omega, fun _ h' => by omega, fun _ _ _ => good_ref' hS hH (by omega), fun _ _ h' => absurd h3 h'⟩
  · have hl := hH.lg h.1 (by omega)
    have e : c_tak (sm_u H 37 c l) 82 = H 82 := by rw [c_tak_82, u_row (by omega)]
    rw [m_left (by rw [e]; exact rn) (by rw [e]; exact hH.rw'), mcell_congr e, e]
    rw [hH.cellAt h.1 (by omega) h2.1 (by omega), hH.tk] at h3
    refine ⟨fun h' => by omega, fun _ h' => by omega, fun _ _ h' => absurd h' h3, fun _ _ _ => s_fin (hH.lf h.1 (by omega)).symm ?_⟩
    refine good_tak hS (fun a i h => (by unfold Tch at h; simp (disch := omega) only [t_tak, c_tak, ev_u4, zr_u])) rfl rfl rfl ?_
    obtain ⟨ha, hb, hc, hd⟩ := hH
    refine ⟨⟨?_, ?_, ?_, ?_⟩, hb.congr (by first | (simp (disch := omega) only [t_tak, c_tak, ev_u1, ev_u2, ev_u3, zr_u, zr_v, Nat.reduceAdd]; done) | (funext j; simp (disch := omega) only [t_tak, c_tak, ev_u1, ev_u2, ev_u3, zr_u, zr_v, Nat.reduceAdd]; done) | (intro i hi; simp (disch := omega) only [t_tak, c_tak, ev_u1, ev_u2, ev_u3, zr_u, zr_v, Nat.reduceAdd]; done)) (by first | (simp (disch := omega) only [t_tak, c_tak, ev_u1, ev_u2, ev_u3, zr_u, zr_v, Nat.reduceAdd]; done) | (funext j; simp (disch := omega) only [t_tak, c_tak, ev_u1, ev_u2, ev_u3, zr_u, zr_v, Nat.reduceAdd]; done) | (intro i hi; simp (disch := omega) only [t_tak, c_tak, ev_u1, ev_u2, ev_u3, zr_u, zr_v, Nat.reduceAdd]; done)) (by first | (simp (disch := omega) only [t_tak, c_tak, ev_u1, ev_u2, ev_u3, zr_u, zr_v, Nat.reduceAdd]; done) | (funext j; simp (disch := omega) only [t_tak, c_tak, ev_u1, ev_u2, ev_u3, zr_u, zr_v, Nat.reduceAdd]; done) | (intro i hi; simp (disch := omega) only [t_tak, c_tak, ev_u1, ev_u2, ev_u3, zr_u, zr_v, Nat.reduceAdd]; done)) (by first | (simp (disch := omega) only [t_tak, c_tak, ev_u1, ev_u2, ev_u3, zr_u, zr_v, Nat.reduceAdd]; done) | (funext j; simp (disch := omega) only [t_tak, c_tak, ev_u1, ev_u2, ev_u3, zr_u, zr_v, Nat.reduceAdd]; done) | (intro i hi; simp (disch := omega) only [t_tak, c_tak, ev_u1, ev_u2, ev_u3, zr_u, zr_v, Nat.reduceAdd]; done)) (by first | (simp (disch := omega) only [t_tak, c_tak, ev_u1, ev_u2, ev_u3, zr_u, zr_v, Nat.reduceAdd]; done) | (funext j; simp (disch := omega) only [t_tak, c_tak, ev_u1, ev_u2, ev_u3, zr_u, zr_v, Nat.reduceAdd]; done) | (intro i hi; simp (disch := omega) only [t_tak, c_tak, ev_u1, ev_u2, ev_u3, zr_u, zr_v, Nat.reduceAdd]; done)), hc.congr (by first | (simp (disch := omega) only [t_tak, c_tak, ev_u1, ev_u2, ev_u3, zr_u, zr_v, Nat.reduceAdd]; done) | (funext j; simp (disch := omega) only [t_tak, c_tak, ev_u1, ev_u2, ev_u3, zr_u, zr_v, Nat.reduceAdd]; done) | (intro i hi; simp (disch := omega) only [t_tak, c_tak, ev_u1, ev_u2, ev_u3, zr_u, zr_v, Nat.reduceAdd]; done)) (by first | (simp (disch := omega) only [t_tak, c_tak, ev_u1, ev_u2, ev_u3, zr_u, zr_v, Nat.reduceAdd]; done) | (funext j; simp (disch := omega) only [t_tak, c_tak, ev_u1, ev_u2, ev_u3, zr_u, zr_v, Nat.reduceAdd]; done) | (intro i hi; simp (disch := omega) only [t_tak, c_tak, ev_u1, ev_u2, ev_u3, zr_u, zr_v, Nat.reduceAdd]; done)) (by first | (simp (disch := omega) only [t_tak, c_tak, ev_u1, ev_u2, ev_u3, zr_u, zr_v, Nat.reduceAdd]; done) | (funext j; simp (disch := omega) only [t_tak, c_tak, ev_u1, ev_u2, ev_u3, zr_u, zr_v, Nat.reduceAdd]; done) | (intro i hi; simp (disch := omega) only [t_tak, c_tak, ev_u1, ev_u2, ev_u3, zr_u, zr_v, Nat.reduceAdd]; done)), hd.congr (by first | (simp (disch := omega) only [t_tak, c_tak, ev_u1, ev_u2, ev_u3, zr_u, zr_v, Nat.reduceAdd]; done) | (funext j; simp (disch := omega) only [t_tak, c_tak, ev_u1, ev_u2, ev_u3, zr_u, zr_v, Nat.reduceAdd]; done) | (intro i hi; simp (disch := omega) only [t_tak, c_tak, ev_u1, ev_u2, ev_u3, zr_u, zr_v, Nat.reduceAdd]; done)) (by first | (simp (disch := omega) only [t_tak, c_tak, ev_u1, ev_u2, ev_u3, zr_u, zr_v, Nat.reduceAdd]; done) | (funext j; simp (disch := omega) only [t_tak, c_tak, ev_u1, ev_u2, ev_u3, zr_u, zr_v, Nat.reduceAdd]; done) | (intro i hi; simp (disch := omega) only [t_tak, c_tak, ev_u1, ev_u2, ev_u3, zr_u, zr_v, Nat.reduceAdd]; done)) (by first | (simp (disch := omega) only [t_tak, c_tak, ev_u1, ev_u2, ev_u3, zr_u, zr_v, Nat.reduceAdd]; done) | (funext j; simp (disch := omega) only [t_tak, c_tak, ev_u1, ev_u2, ev_u3, zr_u, zr_v, Nat.reduceAdd]; done) | (intro i hi; simp (disch := omega) only [t_tak, c_tak, ev_u1, ev_u2, ev_u3, zr_u, zr_v, Nat.reduceAdd]; done)) (by first | (simp (disch := omega) only [t_tak, c_tak, ev_u1, ev_u2, ev_u3, zr_u, zr_v, Nat.reduceAdd]; done) | (funext j; simp (disch := omega) only [t_tak, c_tak, ev_u1, ev_u2, ev_u3, zr_u, zr_v, Nat.reduceAdd]; done) | (intro i hi; simp (disch := omega) only [t_tak, c_tak, ev_u1, ev_u2, ev_u3, zr_u, zr_v, Nat.reduceAdd]; done)) (by first | (simp (disch := omega) only [t_tak, c_tak, ev_u1, ev_u2, ev_u3, zr_u, zr_v, Nat.reduceAdd]; done) | (funext j; simp (disch := omega) only [t_tak, c_tak, ev_u1, ev_u2, ev_u3, zr_u, zr_v, Nat.reduceAdd]; done) | (intro i hi; simp (disch := omega) only [t_tak, c_tak, ev_u1, ev_u2, ev_u3, zr_u, zr_v, Nat.reduceAdd]; done)) (by first | (simp (disch := omega) only [t_tak, c_tak, ev_u1, ev_u2, ev_u3, zr_u, zr_v, Nat.reduceAdd]; done) | (funext j; simp (disch := omega) only [t_tak, c_tak, ev_u1, ev_u2, ev_u3, zr_u, zr_v, Nat.reduceAdd]; done) | (intro i hi; simp (disch := omega) only [t_tak, c_tak, ev_u1, ev_u2, ev_u3, zr_u, zr_v, Nat.reduceAdd]; done)) (by first | (simp (disch := omega) only [t_tak, c_tak, ev_u1, ev_u2, ev_u3, zr_u, zr_v, Nat.reduceAdd]; done) | (funext j; simp (disch := omega) only [t_tak, c_tak, ev_u1, ev_u2, ev_u3, zr_u, zr_v, Nat.reduceAdd]; done) | (intro i hi; simp (disch := omega) only [t_tak, c_tak, ev_u1, ev_u2, ev_u3, zr_u, zr_v, Nat.reduceAdd]; done)) (by first | (simp [t_tak, c_tak, sm_u]; done) | (simp [t_tak, c_tak, sm_u]; omega)) (by first | (simp (disch := omega) only [t_tak, c_tak, ev_u1, ev_u2, ev_u3, zr_u, zr_v, Nat.reduceAdd]; done) | (funext j; simp (disch := omega) only [t_tak, c_tak, ev_u1, ev_u2, ev_u3, zr_u, zr_v, Nat.reduceAdd]; done) | (intro i hi; simp (disch := omega) only [t_tak, c_tak, ev_u1, ev_u2, ev_u3, zr_u, zr_v, Nat.reduceAdd]; done))⟩
    · have q := ha.1; (simp (disch := omega) only [t_tak, c_tak, ev_u1, ev_u2, ev_u3, zr_u, zr_v, Nat.reduceAdd]; exact q)
    · intro c' c0 c1 w' w0 w1
      simp (disch := omega) only [t_tak, c_tak, ev_u1, ev_u2, ev_u3, zr_u, zr_v, Nat.reduceAdd, true_and, and_true] at c1
      have q := ha.2.1 c' c0 c1 w' w0 w1
      simp (disch := omega) only [t_tak, c_tak, ev_u1, ev_u2, ev_u3, zr_u, zr_v, Nat.reduceAdd, true_and, and_true]
      exact q
    · intro c' c0 c1
      simp (disch := omega) only [t_tak, c_tak, ev_u1, ev_u2, ev_u3, zr_u, zr_v, Nat.reduceAdd, true_and, and_true] at c1
      have q := ha.2.2.1 c' c0 c1
      by_cases hcw : c' = c
      · subst hcw
        simp (disch := omega) only [t_tak, c_tak, ev_u1, ev_u2, ev_u3, zr_u, zr_v, Nat.reduceAdd, true_and, and_true]
        simp only [Nat.reduceAdd] at q
        omega
      · simp (disch := omega) only [t_tak, c_tak, ev_u1, ev_u2, ev_u3, zr_u, zr_v, Nat.reduceAdd, true_and, and_true]
        exact q
    · intro c' c0 c1 k k0 k1
      simp (disch := omega) only [t_tak, c_tak, ev_u1, ev_u2, ev_u3, zr_u, zr_v, Nat.reduceAdd, true_and, and_true] at c1
      have q0 := ha.2.2.1 c' c0 c1
      simp (disch := omega) only [t_tak, c_tak, ev_u1, ev_u2, ev_u3, zr_u, zr_v, Nat.reduceAdd, true_and, and_true] at k1
      have q := ha.2.2.2 c' c0 c1 k k0 k1
      simp (disch := omega) only [t_tak, c_tak, ev_u1, ev_u2, ev_u3, zr_u, zr_v, Nat.reduceAdd, true_and, and_true]
      exact q
theorem s_of (hS : SR H) (hH : HR H 33 (H 82)) {c w : Int} : Sim S (d + 3) Ls H 91 155 [.inl c, .inl w] (Good H) := by
  have hn := hH.hn
  have rn := hH.rn
  have n0 := hH.n0
  unfold Sim
  rw [b_of hn hH.hw]
  refine ⟨_, _, rfl, ?_⟩
  rw [m_of rn hH.rw']
  refine s_fin ?_ (good_read hS hH)
  rw [n0]
  by_cases h : (0 ≤ c ∧ c < H 82 0) ∧ 0 ≤ w ∧ w ≤ 7
  · rw [if_pos h, if_pos h, hH.cell h.1.1 h.1.2, hH.lg h.1.1 h.1.2, hH.lf h.1.1 h.1.2]
    rcases (by omega : w = 7 ∨ w = 6 ∨ w = 5 ∨ w < 5) with h1 | h1 | h1 | h1
    · simp [h1]
    · have e : 10 + 16 * c + 6 = 16 + 16 * c := by omega
      simp [h1, e]
    · have e : 10 + 16 * c + 5 = 15 + 16 * c := by omega
      simp [h1, e]
    · rw [hH.tr h.1.1 h.1.2 h.2.1 h1]
      simp [show ¬ w = 7 by omega, show ¬ w = 6 by omega, show ¬ w = 5 by omega]
  · rw [if_neg h, if_neg h]
theorem s_cell (hS : SR H) (hH : HR H 33 (H 82)) {c i : Int} : Sim S (d + 3) Ls H 92 156 [.inl c, .inl i] (Good H) := by
  have hn := hH.hn
  have rn := hH.rn
  have n0 := hH.n0
  unfold Sim
  rw [b_cell hn hH.hw]
  refine ⟨_, _, rfl, ?_⟩
  rw [m_cell rn hH.rw']
  refine s_fin ?_ (good_read hS hH)
  rw [n0]
  by_cases h : 0 ≤ c ∧ c < H 82 0
  · rw [hH.lg h.1 h.2]
    by_cases h2 : 0 ≤ i ∧ i < H 82 (16 + 16 * c)
    · simp only [h, h2, if_true, true_and, and_self]
      exact (hH.wy h.1 h.2 h2.1 h2.2).symm
    · simp [h, h2]
  · simp [h]
theorem HR.h40 (hH : HR H 33 (H 82)) {w : Int} (w0 : 0 ≤ w) (w1 : w ≤ 4) : H 40 w = if w = 4 then H 82 8 else H 82 (100 + 13 * w) := by
  by_cases h : w = 4
  · rw [if_pos h, h]; exact hH.2.2.1.2.1.1
  · rw [if_neg h]; exact (hH.2.2.1.1 w w0 (by omega)).1
theorem HR.h39 (hH : HR H 33 (H 82)) {w i : Int} (w0 : 0 ≤ w) (w1 : w ≤ 4) (i0 : 0 ≤ i) (i1 : i < if w = 4 then H 82 8 else H 82 (100 + 13 * w)) : H 39 (w * 24 + i) = if w = 4 then H 82 (152 + i) else H 82 (101 + 13 * w + i) := by
  by_cases h : w = 4
  · rw [if_pos h] at i1
    rw [if_pos h, h]; exact (hH.2.2.1.2.2.2 i i0 i1).1
  · rw [if_neg h] at i1
    rw [if_neg h]; exact (hH.2.2.1.2.2.1 w w0 (by omega) i i0 i1).1
theorem s_note (hS : SR H) (hH : HR H 33 (H 82)) {w i : Int} : Sim S (d + 2) Ls H 102 165 [.inl w, .inl i] (Good H) := by
  have hc := hH.2.2.1
  unfold Sim
  rw [b_note]
  · refine ⟨_, _, rfl, ?_⟩
    rw [m_note (fun w w0 w1 => (hc.1 w w0 w1).2) hc.2.1.2]
    refine s_fin ?_ (good_read hS hH)
    by_cases h : 0 ≤ w ∧ w ≤ 4
    · rw [if_pos h, if_pos h, hH.h40 h.1 h.2]
      by_cases h1 : i = -1
      · simp [h1]
      · rw [if_neg h1, if_neg h1]
        by_cases h2 : 0 ≤ i ∧ i < if w = 4 then H 82 8 else H 82 (100 + 13 * w)
        · rw [if_pos h2, if_pos h2, hH.h39 h.1 h.2 h2.1 h2.2]
        · rw [if_neg h2, if_neg h2]
    · rw [if_neg h, if_neg h]
  · intro w w0 w1
    rw [hH.h40 w0 (by omega)]
    by_cases h : w = 4
    · rw [if_pos h]; exact hc.2.1.2
    · rw [if_neg h]; have := hc.1 w w0 (by omega); omega
theorem s_ear (hS : SR H) (hH : HR H 33 (H 82)) {x l : Int} : Sim (st_S fmt L xs) (d + 2) Ls H 126 240 [.inl x, .inl l] (Good H) := by
  have h4 : H 33 16 = H 82 7 := hH.2.2.2.2.2.2.2.2.1.1
  have h4' := hH.2.2.2.2.2.2.2.2.1.2
  unfold Sim
  rw [b_ear (by omega)]
  refine ⟨fun h => ⟨_, _, rfl, ?_⟩, fun h => ⟨fun h2 => ⟨_, _, rfl, ?_⟩, fun h2 => ⟨_, _, rfl, ?_⟩⟩⟩
  · rw [m_ear (by rw [c_ref_82]; exact h4'), c_ref_82]
    exact ⟨fun _ => good_ref' hS hH (by omega), fun h' => absurd h' h⟩
  · rw [m_ear (by rw [c_ref_82]; exact h4'), c_ref_82]
    exact ⟨fun h' => absurd h h', fun _ => ⟨fun _ => good_ref' hS hH (by omega), fun h' => by omega⟩⟩
  · have e : c_tak (sm_u (sm_u (sm_u H 43 (H 33 16) x) 44 (H 33 16) l) 33 16 (H 33 16 + 1)) 82 = H 82 := by rw [c_tak_82, u_row (by omega), u_row (by omega), u_row (by omega)]
    rw [m_ear (by rw [e]; exact h4'), e]
    refine ⟨fun h' => absurd h h', fun _ => ⟨fun h' => by omega, fun _ => s_fin (by rw [h4]) ?_⟩⟩
    rw [h4] at h2 ⊢
    refine good_tak hS (fun a i h => (by unfold Tch at h; simp (disch := omega) only [t_tak, c_tak, ev_u4, zr_u])) rfl rfl rfl ?_
    obtain ⟨ha, hb, hc, hd⟩ := hH
    refine ⟨ha.congr (by first | (simp (disch := omega) only [t_tak, c_tak, ev_u1, ev_u2, ev_u3, zr_u, zr_v, Nat.reduceAdd]; done) | (funext j; simp (disch := omega) only [t_tak, c_tak, ev_u1, ev_u2, ev_u3, zr_u, zr_v, Nat.reduceAdd]; done) | (intro i hi; simp (disch := omega) only [t_tak, c_tak, ev_u1, ev_u2, ev_u3, zr_u, zr_v, Nat.reduceAdd]; done)) (by first | (simp (disch := omega) only [t_tak, c_tak, ev_u1, ev_u2, ev_u3, zr_u, zr_v, Nat.reduceAdd]; done) | (funext j; simp (disch := omega) only [t_tak, c_tak, ev_u1, ev_u2, ev_u3, zr_u, zr_v, Nat.reduceAdd]; done) | (intro i hi; simp (disch := omega) only [t_tak, c_tak, ev_u1, ev_u2, ev_u3, zr_u, zr_v, Nat.reduceAdd]; done)) (by first | (simp (disch := omega) only [t_tak, c_tak, ev_u1, ev_u2, ev_u3, zr_u, zr_v, Nat.reduceAdd]; done) | (funext j; simp (disch := omega) only [t_tak, c_tak, ev_u1, ev_u2, ev_u3, zr_u, zr_v, Nat.reduceAdd]; done) | (intro i hi; simp (disch := omega) only [t_tak, c_tak, ev_u1, ev_u2, ev_u3, zr_u, zr_v, Nat.reduceAdd]; done)) (by first | (simp (disch := omega) only [t_tak, c_tak, ev_u1, ev_u2, ev_u3, zr_u, zr_v, Nat.reduceAdd]; done) | (funext j; simp (disch := omega) only [t_tak, c_tak, ev_u1, ev_u2, ev_u3, zr_u, zr_v, Nat.reduceAdd]; done) | (intro i hi; simp (disch := omega) only [t_tak, c_tak, ev_u1, ev_u2, ev_u3, zr_u, zr_v, Nat.reduceAdd]; done)) (by first | (simp (disch := omega) only [t_tak, c_tak, ev_u1, ev_u2, ev_u3, zr_u, zr_v, Nat.reduceAdd]; done) | (funext j; simp (disch := omega) only [t_tak, c_tak, ev_u1, ev_u2, ev_u3, zr_u, zr_v, Nat.reduceAdd]; done) | (intro i hi; simp (disch := omega) only [t_tak, c_tak, ev_u1, ev_u2, ev_u3, zr_u, zr_v, Nat.reduceAdd]; done)) (by first | (simp (disch := omega) only [t_tak, c_tak, ev_u1, ev_u2, ev_u3, zr_u, zr_v, Nat.reduceAdd]; done) | (funext j; simp (disch := omega) only [t_tak, c_tak, ev_u1, ev_u2, ev_u3, zr_u, zr_v, Nat.reduceAdd]; done) | (intro i hi; simp (disch := omega) only [t_tak, c_tak, ev_u1, ev_u2, ev_u3, zr_u, zr_v, Nat.reduceAdd]; done)), hb.congr (by first | (simp (disch := omega) only [t_tak, c_tak, ev_u1, ev_u2, ev_u3, zr_u, zr_v, Nat.reduceAdd]; done) | (funext j; simp (disch := omega) only [t_tak, c_tak, ev_u1, ev_u2, ev_u3, zr_u, zr_v, Nat.reduceAdd]; done) | (intro i hi; simp (disch := omega) only [t_tak, c_tak, ev_u1, ev_u2, ev_u3, zr_u, zr_v, Nat.reduceAdd]; done)) (by first | (simp (disch := omega) only [t_tak, c_tak, ev_u1, ev_u2, ev_u3, zr_u, zr_v, Nat.reduceAdd]; done) | (funext j; simp (disch := omega) only [t_tak, c_tak, ev_u1, ev_u2, ev_u3, zr_u, zr_v, Nat.reduceAdd]; done) | (intro i hi; simp (disch := omega) only [t_tak, c_tak, ev_u1, ev_u2, ev_u3, zr_u, zr_v, Nat.reduceAdd]; done)) (by first | (simp (disch := omega) only [t_tak, c_tak, ev_u1, ev_u2, ev_u3, zr_u, zr_v, Nat.reduceAdd]; done) | (funext j; simp (disch := omega) only [t_tak, c_tak, ev_u1, ev_u2, ev_u3, zr_u, zr_v, Nat.reduceAdd]; done) | (intro i hi; simp (disch := omega) only [t_tak, c_tak, ev_u1, ev_u2, ev_u3, zr_u, zr_v, Nat.reduceAdd]; done)) (by first | (simp (disch := omega) only [t_tak, c_tak, ev_u1, ev_u2, ev_u3, zr_u, zr_v, Nat.reduceAdd]; done) | (funext j; simp (disch := omega) only [t_tak, c_tak, ev_u1, ev_u2, ev_u3, zr_u, zr_v, Nat.reduceAdd]; done) | (intro i hi; simp (disch := omega) only [t_tak, c_tak, ev_u1, ev_u2, ev_u3, zr_u, zr_v, Nat.reduceAdd]; done)) (by first | (simp (disch := omega) only [t_tak, c_tak, ev_u1, ev_u2, ev_u3, zr_u, zr_v, Nat.reduceAdd]; done) | (funext j; simp (disch := omega) only [t_tak, c_tak, ev_u1, ev_u2, ev_u3, zr_u, zr_v, Nat.reduceAdd]; done) | (intro i hi; simp (disch := omega) only [t_tak, c_tak, ev_u1, ev_u2, ev_u3, zr_u, zr_v, Nat.reduceAdd]; done)), hc.congr (by first | (simp (disch := omega) only [t_tak, c_tak, ev_u1, ev_u2, ev_u3, zr_u, zr_v, Nat.reduceAdd]; done) | (funext j; simp (disch := omega) only [t_tak, c_tak, ev_u1, ev_u2, ev_u3, zr_u, zr_v, Nat.reduceAdd]; done) | (intro i hi; simp (disch := omega) only [t_tak, c_tak, ev_u1, ev_u2, ev_u3, zr_u, zr_v, Nat.reduceAdd]; done)) (by first | (simp (disch := omega) only [t_tak, c_tak, ev_u1, ev_u2, ev_u3, zr_u, zr_v, Nat.reduceAdd]; done) | (funext j; simp (disch := omega) only [t_tak, c_tak, ev_u1, ev_u2, ev_u3, zr_u, zr_v, Nat.reduceAdd]; done) | (intro i hi; simp (disch := omega) only [t_tak, c_tak, ev_u1, ev_u2, ev_u3, zr_u, zr_v, Nat.reduceAdd]; done)) (by first | (simp (disch := omega) only [t_tak, c_tak, ev_u1, ev_u2, ev_u3, zr_u, zr_v, Nat.reduceAdd]; done) | (funext j; simp (disch := omega) only [t_tak, c_tak, ev_u1, ev_u2, ev_u3, zr_u, zr_v, Nat.reduceAdd]; done) | (intro i hi; simp (disch := omega) only [t_tak, c_tak, ev_u1, ev_u2, ev_u3, zr_u, zr_v, Nat.reduceAdd]; done)), ⟨?_, ?_, ?_, ?_, ?_, ?_, ?_⟩⟩
    · have q := hd.1; (simp (disch := omega) only [t_tak, c_tak, ev_u1, ev_u2, ev_u3, zr_u, zr_v, Nat.reduceAdd]; exact q)
    · have q := hd.2.1; (simp (disch := omega) only [t_tak, c_tak, ev_u1, ev_u2, ev_u3, zr_u, zr_v, Nat.reduceAdd]; exact q)
    · have q := hd.2.2.1; (simp (disch := omega) only [t_tak, c_tak, ev_u1, ev_u2, ev_u3, zr_u, zr_v, Nat.reduceAdd]; exact q)
    · intro g g0 g1
      simp (disch := omega) only [t_tak, c_tak, ev_u1, ev_u2, ev_u3, zr_u, zr_v, Nat.reduceAdd, true_and, and_true] at g1
      have q0 := hd.2.2.1
      have q := hd.2.2.2.1 g g0 g1
      simp (disch := omega) only [t_tak, c_tak, ev_u1, ev_u2, ev_u3, zr_u, zr_v, Nat.reduceAdd, true_and, and_true]
      exact q
    · intro i j i0 ij j1
      simp (disch := omega) only [t_tak, c_tak, ev_u1, ev_u2, ev_u3, zr_u, zr_v, Nat.reduceAdd, true_and, and_true] at j1
      have q0 := hd.2.2.1
      have q := hd.2.2.2.2.1 i j i0 ij j1
      simp (disch := omega) only [t_tak, c_tak, ev_u1, ev_u2, ev_u3, zr_u, zr_v, Nat.reduceAdd, true_and, and_true]
      exact q
    · simp (disch := omega) only [t_tak, c_tak, ev_u1, ev_u2, ev_u3, zr_u, zr_v, Nat.reduceAdd, true_and, and_true]; omega
    · intro g g0 g1
      simp (disch := omega) only [t_tak, c_tak, ev_u1, ev_u2, ev_u3, zr_u, zr_v, Nat.reduceAdd, true_and, and_true] at g1
      by_cases hgg : g = H 82 7
      · subst hgg
        have h3 : 176 + 2 * H 82 7 ≠ 177 + 2 * H 82 7 := by omega
        simp (disch := omega) only [t_tak, c_tak, ev_u1, ev_u2, ev_u3, zr_u, zr_v, Nat.reduceAdd, true_and, and_true]
        omega
      · have q := hd.2.2.2.2.2.2 g g0 (by omega)
        simp (disch := omega) only [t_tak, c_tak, ev_u1, ev_u2, ev_u3, zr_u, zr_v, Nat.reduceAdd, true_and, and_true]
        exact q
end SIM2
