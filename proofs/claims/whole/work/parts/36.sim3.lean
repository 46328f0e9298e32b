/-! SIMULATION, 3: deaf, clear, drawn, end, order, cow, count -/
section SIM3
variable {d : Nat} {Ls : sm_K} {H H2 : sm_H} {S : sm_E} {fmt : Bool} {L : Nat} {xs : Nat → Int32} {Q : sm_O → Prop}
theorem s_clear (hS : SR H) (hH : HR H 33 (H 82)) : Sim S (d + 1) Ls H 107 203 [] (Good H) := by
  have h4 : H 33 14 = H 82 6 := hH.2.2.2.2.2.1.1
  unfold Sim
  rw [b_clear]
  refine ⟨_, _, rfl, ?_⟩
  rw [m_clear]
  refine s_fin (by simp (disch := omega) only [t_tak, c_tak, ev_u1, ev_u2, ev_u3, zr_u, zr_v, Nat.reduceAdd, true_and, and_true]; rw [h4]) ?_
  refine good_tak hS (fun a i h => (by unfold Tch at h; simp (disch := omega) only [t_tak, c_tak, ev_u4, zr_u])) (by have q := hS.2.2.2.2.1; (simp (disch := omega) only [t_tak, c_tak, ev_u1, ev_u2, ev_u3, zr_u, zr_v, Nat.reduceAdd]; exact q)) rfl rfl ?_
  obtain ⟨ha, hb, hc, hd⟩ := hH
  refine ⟨ha.congr (by first | (simp (disch := omega) only [t_tak, c_tak, ev_u1, ev_u2, ev_u3, zr_u, zr_v, Nat.reduceAdd]; done) | (funext j; simp (disch := omega) only [t_tak, c_tak, ev_u1, ev_u2, ev_u3, zr_u, zr_v, Nat.reduceAdd]; done) | (intro i hi; simp (disch := omega) only [t_tak, c_tak, ev_u1, ev_u2, ev_u3, zr_u, zr_v, Nat.reduceAdd]; done)) (by first | (simp (disch := omega) only [t_tak, c_tak, ev_u1, ev_u2, ev_u3, zr_u, zr_v, Nat.reduceAdd]; done) | (funext j; simp (disch := omega) only [t_tak, c_tak, ev_u1, ev_u2, ev_u3, zr_u, zr_v, Nat.reduceAdd]; done) | (intro i hi; simp (disch := omega) only [t_tak, c_tak, ev_u1, ev_u2, ev_u3, zr_u, zr_v, Nat.reduceAdd]; done)) (by first | (simp (disch := omega) only [t_tak, c_tak, ev_u1, ev_u2, ev_u3, zr_u, zr_v, Nat.reduceAdd]; done) | (funext j; simp (disch := omega) only [t_tak, c_tak, ev_u1, ev_u2, ev_u3, zr_u, zr_v, Nat.reduceAdd]; done) | (intro i hi; simp (disch := omega) only [t_tak, c_tak, ev_u1, ev_u2, ev_u3, zr_u, zr_v, Nat.reduceAdd]; done)) (by first | (simp (disch := omega) only [t_tak, c_tak, ev_u1, ev_u2, ev_u3, zr_u, zr_v, Nat.reduceAdd]; done) | (funext j; simp (disch := omega) only [t_tak, c_tak, ev_u1, ev_u2, ev_u3, zr_u, zr_v, Nat.reduceAdd]; done) | (intro i hi; simp (disch := omega) only [t_tak, c_tak, ev_u1, ev_u2, ev_u3, zr_u, zr_v, Nat.reduceAdd]; done)) (by first | (simp (disch := omega) only [t_tak, c_tak, ev_u1, ev_u2, ev_u3, zr_u, zr_v, Nat.reduceAdd]; done) | (funext j; simp (disch := omega) only [t_tak, c_tak, ev_u1, ev_u2, ev_u3, zr_u, zr_v, Nat.reduceAdd]; done) | (intro i hi; simp (disch := omega) only [t_tak, c_tak, ev_u1, ev_u2, ev_u3, zr_u, zr_v, Nat.reduceAdd]; done)) (by first | (simp (disch := omega) only [t_tak, c_tak, ev_u1, ev_u2, ev_u3, zr_u, zr_v, Nat.reduceAdd]; done) | (funext j; simp (disch := omega) only [t_tak, c_tak, ev_u1, ev_u2, ev_u3, zr_u, zr_v, Nat.reduceAdd]; done) | (intro i hi; simp (disch := omega) only [t_tak, c_tak, ev_u1, ev_u2, ev_u3, zr_u, zr_v, Nat.reduceAdd]; done)), hb.congr (by first | (simp (disch := omega) only [t_tak, c_tak, ev_u1, ev_u2, ev_u3, zr_u, zr_v, Nat.reduceAdd]; done) | (funext j; simp (disch := omega) only [t_tak, c_tak, ev_u1, ev_u2, ev_u3, zr_u, zr_v, Nat.reduceAdd]; done) | (intro i hi; simp (disch := omega) only [t_tak, c_tak, ev_u1, ev_u2, ev_u3, zr_u, zr_v, Nat.reduceAdd]; done)) (by first | (simp (disch := omega) only [t_tak, c_tak, ev_u1, ev_u2, ev_u3, zr_u, zr_v, Nat.reduceAdd]; done) | (funext j; simp (disch := omega) only [t_tak, c_tak, ev_u1, ev_u2, ev_u3, zr_u, zr_v, Nat.reduceAdd]; done) | (intro i hi; simp (disch := omega) only [t_tak, c_tak, ev_u1, ev_u2, ev_u3, zr_u, zr_v, Nat.reduceAdd]; done)) (by first | (simp (disch := omega) only [t_tak, c_tak, ev_u1, ev_u2, ev_u3, zr_u, zr_v, Nat.reduceAdd]; done) | (funext j; simp (disch := omega) only [t_tak, c_tak, ev_u1, ev_u2, ev_u3, zr_u, zr_v, Nat.reduceAdd]; done) | (intro i hi; simp (disch := omega) only [t_tak, c_tak, ev_u1, ev_u2, ev_u3, zr_u, zr_v, Nat.reduceAdd]; done)) (by first | (simp (disch := omega) only [t_tak, c_tak, ev_u1, ev_u2, ev_u3, zr_u, zr_v, Nat.reduceAdd]; done) | (funext j; simp (disch := omega) only [t_tak, c_tak, ev_u1, ev_u2, ev_u3, zr_u, zr_v, Nat.reduceAdd]; done) | (intro i hi; simp (disch := omega) only [t_tak, c_tak, ev_u1, ev_u2, ev_u3, zr_u, zr_v, Nat.reduceAdd]; done)) (by first | (simp (disch := omega) only [t_tak, c_tak, ev_u1, ev_u2, ev_u3, zr_u, zr_v, Nat.reduceAdd]; done) | (funext j; simp (disch := omega) only [t_tak, c_tak, ev_u1, ev_u2, ev_u3, zr_u, zr_v, Nat.reduceAdd]; done) | (intro i hi; simp (disch := omega) only [t_tak, c_tak, ev_u1, ev_u2, ev_u3, zr_u, zr_v, Nat.reduceAdd]; done)), hc.congr (by first | (simp (disch := omega) only [t_tak, c_tak, ev_u1, ev_u2, ev_u3, zr_u, zr_v, Nat.reduceAdd]; done) | (funext j; simp (disch := omega) only [t_tak, c_tak, ev_u1, ev_u2, ev_u3, zr_u, zr_v, Nat.reduceAdd]; done) | (intro i hi; simp (disch := omega) only [t_tak, c_tak, ev_u1, ev_u2, ev_u3, zr_u, zr_v, Nat.reduceAdd]; done)) (by first | (simp (disch := omega) only [t_tak, c_tak, ev_u1, ev_u2, ev_u3, zr_u, zr_v, Nat.reduceAdd]; done) | (funext j; simp (disch := omega) only [t_tak, c_tak, ev_u1, ev_u2, ev_u3, zr_u, zr_v, Nat.reduceAdd]; done) | (intro i hi; simp (disch := omega) only [t_tak, c_tak, ev_u1, ev_u2, ev_u3, zr_u, zr_v, Nat.reduceAdd]; done)) (by first | (simp (disch := omega) only [t_tak, c_tak, ev_u1, ev_u2, ev_u3, zr_u, zr_v, Nat.reduceAdd]; done) | (funext j; simp (disch := omega) only [t_tak, c_tak, ev_u1, ev_u2, ev_u3, zr_u, zr_v, Nat.reduceAdd]; done) | (intro i hi; simp (disch := omega) only [t_tak, c_tak, ev_u1, ev_u2, ev_u3, zr_u, zr_v, Nat.reduceAdd]; done)), ⟨?_, ?_, ?_, ?_, ?_, ?_, ?_⟩⟩
  · have q := hd.1; (simp (disch := omega) only [t_tak, c_tak, ev_u1, ev_u2, ev_u3, zr_u, zr_v, Nat.reduceAdd]; exact q)
  · have q := hd.2.1; (simp (disch := omega) only [t_tak, c_tak, ev_u1, ev_u2, ev_u3, zr_u, zr_v, Nat.reduceAdd]; exact q)
  · simp (disch := omega) only [t_tak, c_tak, ev_u1, ev_u2, ev_u3, zr_u, zr_v, Nat.reduceAdd, true_and, and_true]; omega
  · intro g g0 g1; simp (disch := omega) only [t_tak, c_tak, ev_u1, ev_u2, ev_u3, zr_u, zr_v, Nat.reduceAdd, true_and, and_true] at g1; omega
  · intro i j i0 ij j1; simp (disch := omega) only [t_tak, c_tak, ev_u1, ev_u2, ev_u3, zr_u, zr_v, Nat.reduceAdd, true_and, and_true] at j1; omega
  · have q := hd.2.2.2.2.2.1; (simp (disch := omega) only [t_tak, c_tak, ev_u1, ev_u2, ev_u3, zr_u, zr_v, Nat.reduceAdd]; exact q)
  · have q := hd.2.2.2.2.2.2; (intro g g0 g1; simp (disch := omega) only [t_tak, c_tak, ev_u1, ev_u2, ev_u3, zr_u, zr_v, Nat.reduceAdd] at g1 ⊢; exact q g g0 g1)
theorem s_deaf (hS : SR H) (hH : HR H 33 (H 82)) : Sim S (d + 1) Ls H 127 241 [] (Good H) := by
  have h4 : H 33 16 = H 82 7 := hH.2.2.2.2.2.2.2.2.1.1
  unfold Sim
  rw [b_deaf]
  refine ⟨_, _, rfl, ?_⟩
  rw [m_deaf]
  refine s_fin (by simp (disch := omega) only [t_tak, c_tak, ev_u1, ev_u2, ev_u3, zr_u, zr_v, Nat.reduceAdd, true_and, and_true]; rw [h4]) ?_
  have e : ∀ a i, ¬ ((a = 33 ∧ i = 16) ∨ (a = 80 ∧ i = 0) ∨ (a = 82 ∧ i = 7)) → sm_u (sm_u (sm_u H 33 16 0) 80 0 0) 82 7 0 a i = H a i := fun a i h => by simp (disch := omega) only [ev_u4]
  refine ⟨hS.congr (by first | (simp (disch := omega) only [t_tak, c_tak, ev_u1, ev_u2, ev_u3, zr_u, zr_v, Nat.reduceAdd]; done) | (funext j; simp (disch := omega) only [t_tak, c_tak, ev_u1, ev_u2, ev_u3, zr_u, zr_v, Nat.reduceAdd]; done) | (intro i hi; simp (disch := omega) only [t_tak, c_tak, ev_u1, ev_u2, ev_u3, zr_u, zr_v, Nat.reduceAdd]; done)) (by first | (simp (disch := omega) only [t_tak, c_tak, ev_u1, ev_u2, ev_u3, zr_u, zr_v, Nat.reduceAdd]; done) | (funext j; simp (disch := omega) only [t_tak, c_tak, ev_u1, ev_u2, ev_u3, zr_u, zr_v, Nat.reduceAdd]; done) | (intro i hi; simp (disch := omega) only [t_tak, c_tak, ev_u1, ev_u2, ev_u3, zr_u, zr_v, Nat.reduceAdd]; done)) (by first | (simp (disch := omega) only [t_tak, c_tak, ev_u1, ev_u2, ev_u3, zr_u, zr_v, Nat.reduceAdd]; done) | (funext j; simp (disch := omega) only [t_tak, c_tak, ev_u1, ev_u2, ev_u3, zr_u, zr_v, Nat.reduceAdd]; done) | (intro i hi; simp (disch := omega) only [t_tak, c_tak, ev_u1, ev_u2, ev_u3, zr_u, zr_v, Nat.reduceAdd]; done)) (by first | (simp (disch := omega) only [t_tak, c_tak, ev_u1, ev_u2, ev_u3, zr_u, zr_v, Nat.reduceAdd]; done) | (funext j; simp (disch := omega) only [t_tak, c_tak, ev_u1, ev_u2, ev_u3, zr_u, zr_v, Nat.reduceAdd]; done) | (intro i hi; simp (disch := omega) only [t_tak, c_tak, ev_u1, ev_u2, ev_u3, zr_u, zr_v, Nat.reduceAdd]; done)) (by first | (simp (disch := omega) only [t_tak, c_tak, ev_u1, ev_u2, ev_u3, zr_u, zr_v, Nat.reduceAdd]; done) | (funext j; simp (disch := omega) only [t_tak, c_tak, ev_u1, ev_u2, ev_u3, zr_u, zr_v, Nat.reduceAdd]; done) | (intro i hi; simp (disch := omega) only [t_tak, c_tak, ev_u1, ev_u2, ev_u3, zr_u, zr_v, Nat.reduceAdd]; done)) (by first | (simp (disch := omega) only [t_tak, c_tak, ev_u1, ev_u2, ev_u3, zr_u, zr_v, Nat.reduceAdd]; done) | (funext j; simp (disch := omega) only [t_tak, c_tak, ev_u1, ev_u2, ev_u3, zr_u, zr_v, Nat.reduceAdd]; done) | (intro i hi; simp (disch := omega) only [t_tak, c_tak, ev_u1, ev_u2, ev_u3, zr_u, zr_v, Nat.reduceAdd]; done)) (by first | (simp (disch := omega) only [t_tak, c_tak, ev_u1, ev_u2, ev_u3, zr_u, zr_v, Nat.reduceAdd]; done) | (funext j; simp (disch := omega) only [t_tak, c_tak, ev_u1, ev_u2, ev_u3, zr_u, zr_v, Nat.reduceAdd]; done) | (intro i hi; simp (disch := omega) only [t_tak, c_tak, ev_u1, ev_u2, ev_u3, zr_u, zr_v, Nat.reduceAdd]; done)) (by first | (simp (disch := omega) only [t_tak, c_tak, ev_u1, ev_u2, ev_u3, zr_u, zr_v, Nat.reduceAdd]; done) | (funext j; simp (disch := omega) only [t_tak, c_tak, ev_u1, ev_u2, ev_u3, zr_u, zr_v, Nat.reduceAdd]; done) | (intro i hi; simp (disch := omega) only [t_tak, c_tak, ev_u1, ev_u2, ev_u3, zr_u, zr_v, Nat.reduceAdd]; done)) (by have q := hS.2.2.2.2.1; (simp (disch := omega) only [t_tak, c_tak, ev_u1, ev_u2, ev_u3, zr_u, zr_v, Nat.reduceAdd]; exact q)) (fun k k1 k2 => by have q := hS.2.2.2.2.2.1 k k1 k2; (simp (disch := omega) only [t_tak, c_tak, ev_u1, ev_u2, ev_u3, zr_u, zr_v, Nat.reduceAdd]; exact q)) (by first | (simp (disch := omega) only [t_tak, c_tak, ev_u1, ev_u2, ev_u3, zr_u, zr_v, Nat.reduceAdd]; done) | (funext j; simp (disch := omega) only [t_tak, c_tak, ev_u1, ev_u2, ev_u3, zr_u, zr_v, Nat.reduceAdd]; done) | (intro i hi; simp (disch := omega) only [t_tak, c_tak, ev_u1, ev_u2, ev_u3, zr_u, zr_v, Nat.reduceAdd]; done)) (by first | (simp (disch := omega) only [t_tak, c_tak, ev_u1, ev_u2, ev_u3, zr_u, zr_v, Nat.reduceAdd]; done) | (funext j; simp (disch := omega) only [t_tak, c_tak, ev_u1, ev_u2, ev_u3, zr_u, zr_v, Nat.reduceAdd]; done) | (intro i hi; simp (disch := omega) only [t_tak, c_tak, ev_u1, ev_u2, ev_u3, zr_u, zr_v, Nat.reduceAdd]; done)) (by first | (simp (disch := omega) only [t_tak, c_tak, ev_u1, ev_u2, ev_u3, zr_u, zr_v, Nat.reduceAdd]; done) | (funext j; simp (disch := omega) only [t_tak, c_tak, ev_u1, ev_u2, ev_u3, zr_u, zr_v, Nat.reduceAdd]; done) | (intro i hi; simp (disch := omega) only [t_tak, c_tak, ev_u1, ev_u2, ev_u3, zr_u, zr_v, Nat.reduceAdd]; done)) (by first | (simp (disch := omega) only [t_tak, c_tak, ev_u1, ev_u2, ev_u3, zr_u, zr_v, Nat.reduceAdd]; done) | (funext j; simp (disch := omega) only [t_tak, c_tak, ev_u1, ev_u2, ev_u3, zr_u, zr_v, Nat.reduceAdd]; done) | (intro i hi; simp (disch := omega) only [t_tak, c_tak, ev_u1, ev_u2, ev_u3, zr_u, zr_v, Nat.reduceAdd]; done)) (by have q := hS.2.2.2.2.2.2.2.2; (simp (disch := omega) only [t_tak, c_tak, ev_u1, ev_u2, ev_u3, zr_u, zr_v, Nat.reduceAdd]; exact q)), ?_, fun a h => by funext i; exact e a i (by omega), ⟨(by first | (simp (disch := omega) only [t_tak, c_tak, ev_u1, ev_u2, ev_u3, zr_u, zr_v, Nat.reduceAdd]; done) | (funext j; simp (disch := omega) only [t_tak, c_tak, ev_u1, ev_u2, ev_u3, zr_u, zr_v, Nat.reduceAdd]; done) | (intro i hi; simp (disch := omega) only [t_tak, c_tak, ev_u1, ev_u2, ev_u3, zr_u, zr_v, Nat.reduceAdd]; done)), (by first | (simp (disch := omega) only [t_tak, c_tak, ev_u1, ev_u2, ev_u3, zr_u, zr_v, Nat.reduceAdd]; done) | (funext j; simp (disch := omega) only [t_tak, c_tak, ev_u1, ev_u2, ev_u3, zr_u, zr_v, Nat.reduceAdd]; done) | (intro i hi; simp (disch := omega) only [t_tak, c_tak, ev_u1, ev_u2, ev_u3, zr_u, zr_v, Nat.reduceAdd]; done)), fun i hi => e _ _ (by omega)⟩, fun k hk => e _ _ (by omega), fun k hk => e _ _ (by omega), Or.inr ⟨(by first | (simp (disch := omega) only [t_tak, c_tak, ev_u1, ev_u2, ev_u3, zr_u, zr_v, Nat.reduceAdd]; done) | (funext j; simp (disch := omega) only [t_tak, c_tak, ev_u1, ev_u2, ev_u3, zr_u, zr_v, Nat.reduceAdd]; done) | (intro i hi; simp (disch := omega) only [t_tak, c_tak, ev_u1, ev_u2, ev_u3, zr_u, zr_v, Nat.reduceAdd]; done)), fun i hi => e _ _ (by omega)⟩, Or.inr ⟨(by first | (simp (disch := omega) only [t_tak, c_tak, ev_u1, ev_u2, ev_u3, zr_u, zr_v, Nat.reduceAdd]; done) | (funext j; simp (disch := omega) only [t_tak, c_tak, ev_u1, ev_u2, ev_u3, zr_u, zr_v, Nat.reduceAdd]; done) | (intro i hi; simp (disch := omega) only [t_tak, c_tak, ev_u1, ev_u2, ev_u3, zr_u, zr_v, Nat.reduceAdd]; done)), fun i hi => e _ _ (by omega)⟩⟩
  obtain ⟨ha, hb, hc, hd⟩ := hH
  refine ⟨ha.congr (by first | (simp (disch := omega) only [t_tak, c_tak, ev_u1, ev_u2, ev_u3, zr_u, zr_v, Nat.reduceAdd]; done) | (funext j; simp (disch := omega) only [t_tak, c_tak, ev_u1, ev_u2, ev_u3, zr_u, zr_v, Nat.reduceAdd]; done) | (intro i hi; simp (disch := omega) only [t_tak, c_tak, ev_u1, ev_u2, ev_u3, zr_u, zr_v, Nat.reduceAdd]; done)) (by first | (simp (disch := omega) only [t_tak, c_tak, ev_u1, ev_u2, ev_u3, zr_u, zr_v, Nat.reduceAdd]; done) | (funext j; simp (disch := omega) only [t_tak, c_tak, ev_u1, ev_u2, ev_u3, zr_u, zr_v, Nat.reduceAdd]; done) | (intro i hi; simp (disch := omega) only [t_tak, c_tak, ev_u1, ev_u2, ev_u3, zr_u, zr_v, Nat.reduceAdd]; done)) (by first | (simp (disch := omega) only [t_tak, c_tak, ev_u1, ev_u2, ev_u3, zr_u, zr_v, Nat.reduceAdd]; done) | (funext j; simp (disch := omega) only [t_tak, c_tak, ev_u1, ev_u2, ev_u3, zr_u, zr_v, Nat.reduceAdd]; done) | (intro i hi; simp (disch := omega) only [t_tak, c_tak, ev_u1, ev_u2, ev_u3, zr_u, zr_v, Nat.reduceAdd]; done)) (by first | (simp (disch := omega) only [t_tak, c_tak, ev_u1, ev_u2, ev_u3, zr_u, zr_v, Nat.reduceAdd]; done) | (funext j; simp (disch := omega) only [t_tak, c_tak, ev_u1, ev_u2, ev_u3, zr_u, zr_v, Nat.reduceAdd]; done) | (intro i hi; simp (disch := omega) only [t_tak, c_tak, ev_u1, ev_u2, ev_u3, zr_u, zr_v, Nat.reduceAdd]; done)) (by first | (simp (disch := omega) only [t_tak, c_tak, ev_u1, ev_u2, ev_u3, zr_u, zr_v, Nat.reduceAdd]; done) | (funext j; simp (disch := omega) only [t_tak, c_tak, ev_u1, ev_u2, ev_u3, zr_u, zr_v, Nat.reduceAdd]; done) | (intro i hi; simp (disch := omega) only [t_tak, c_tak, ev_u1, ev_u2, ev_u3, zr_u, zr_v, Nat.reduceAdd]; done)) (by first | (simp (disch := omega) only [t_tak, c_tak, ev_u1, ev_u2, ev_u3, zr_u, zr_v, Nat.reduceAdd]; done) | (funext j; simp (disch := omega) only [t_tak, c_tak, ev_u1, ev_u2, ev_u3, zr_u, zr_v, Nat.reduceAdd]; done) | (intro i hi; simp (disch := omega) only [t_tak, c_tak, ev_u1, ev_u2, ev_u3, zr_u, zr_v, Nat.reduceAdd]; done)), hb.congr (by first | (simp (disch := omega) only [t_tak, c_tak, ev_u1, ev_u2, ev_u3, zr_u, zr_v, Nat.reduceAdd]; done) | (funext j; simp (disch := omega) only [t_tak, c_tak, ev_u1, ev_u2, ev_u3, zr_u, zr_v, Nat.reduceAdd]; done) | (intro i hi; simp (disch := omega) only [t_tak, c_tak, ev_u1, ev_u2, ev_u3, zr_u, zr_v, Nat.reduceAdd]; done)) (by first | (simp (disch := omega) only [t_tak, c_tak, ev_u1, ev_u2, ev_u3, zr_u, zr_v, Nat.reduceAdd]; done) | (funext j; simp (disch := omega) only [t_tak, c_tak, ev_u1, ev_u2, ev_u3, zr_u, zr_v, Nat.reduceAdd]; done) | (intro i hi; simp (disch := omega) only [t_tak, c_tak, ev_u1, ev_u2, ev_u3, zr_u, zr_v, Nat.reduceAdd]; done)) (by first | (simp (disch := omega) only [t_tak, c_tak, ev_u1, ev_u2, ev_u3, zr_u, zr_v, Nat.reduceAdd]; done) | (funext j; simp (disch := omega) only [t_tak, c_tak, ev_u1, ev_u2, ev_u3, zr_u, zr_v, Nat.reduceAdd]; done) | (intro i hi; simp (disch := omega) only [t_tak, c_tak, ev_u1, ev_u2, ev_u3, zr_u, zr_v, Nat.reduceAdd]; done)) (by first | (simp (disch := omega) only [t_tak, c_tak, ev_u1, ev_u2, ev_u3, zr_u, zr_v, Nat.reduceAdd]; done) | (funext j; simp (disch := omega) only [t_tak, c_tak, ev_u1, ev_u2, ev_u3, zr_u, zr_v, Nat.reduceAdd]; done) | (intro i hi; simp (disch := omega) only [t_tak, c_tak, ev_u1, ev_u2, ev_u3, zr_u, zr_v, Nat.reduceAdd]; done)) (by first | (simp (disch := omega) only [t_tak, c_tak, ev_u1, ev_u2, ev_u3, zr_u, zr_v, Nat.reduceAdd]; done) | (funext j; simp (disch := omega) only [t_tak, c_tak, ev_u1, ev_u2, ev_u3, zr_u, zr_v, Nat.reduceAdd]; done) | (intro i hi; simp (disch := omega) only [t_tak, c_tak, ev_u1, ev_u2, ev_u3, zr_u, zr_v, Nat.reduceAdd]; done)), hc.congr (by first | (simp (disch := omega) only [t_tak, c_tak, ev_u1, ev_u2, ev_u3, zr_u, zr_v, Nat.reduceAdd]; done) | (funext j; simp (disch := omega) only [t_tak, c_tak, ev_u1, ev_u2, ev_u3, zr_u, zr_v, Nat.reduceAdd]; done) | (intro i hi; simp (disch := omega) only [t_tak, c_tak, ev_u1, ev_u2, ev_u3, zr_u, zr_v, Nat.reduceAdd]; done)) (by first | (simp (disch := omega) only [t_tak, c_tak, ev_u1, ev_u2, ev_u3, zr_u, zr_v, Nat.reduceAdd]; done) | (funext j; simp (disch := omega) only [t_tak, c_tak, ev_u1, ev_u2, ev_u3, zr_u, zr_v, Nat.reduceAdd]; done) | (intro i hi; simp (disch := omega) only [t_tak, c_tak, ev_u1, ev_u2, ev_u3, zr_u, zr_v, Nat.reduceAdd]; done)) (by first | (simp (disch := omega) only [t_tak, c_tak, ev_u1, ev_u2, ev_u3, zr_u, zr_v, Nat.reduceAdd]; done) | (funext j; simp (disch := omega) only [t_tak, c_tak, ev_u1, ev_u2, ev_u3, zr_u, zr_v, Nat.reduceAdd]; done) | (intro i hi; simp (disch := omega) only [t_tak, c_tak, ev_u1, ev_u2, ev_u3, zr_u, zr_v, Nat.reduceAdd]; done)), ⟨?_, ?_, ?_, ?_, ?_, ?_, ?_⟩⟩
  · have q := hd.1; (simp (disch := omega) only [t_tak, c_tak, ev_u1, ev_u2, ev_u3, zr_u, zr_v, Nat.reduceAdd]; exact q)
  · have q := hd.2.1; (simp (disch := omega) only [t_tak, c_tak, ev_u1, ev_u2, ev_u3, zr_u, zr_v, Nat.reduceAdd]; exact q)
  · have q := hd.2.2.1; (simp (disch := omega) only [t_tak, c_tak, ev_u1, ev_u2, ev_u3, zr_u, zr_v, Nat.reduceAdd]; exact q)
  · have q := hd.2.2.2.1; (intro g g0 g1; simp (disch := omega) only [t_tak, c_tak, ev_u1, ev_u2, ev_u3, zr_u, zr_v, Nat.reduceAdd] at g1 ⊢; exact q g g0 g1)
  · have q := hd.2.2.2.2.1; (intro i j i0 ij j1; simp (disch := omega) only [t_tak, c_tak, ev_u1, ev_u2, ev_u3, zr_u, zr_v, Nat.reduceAdd] at j1 ⊢; exact q i j i0 ij j1)
  · simp (disch := omega) only [t_tak, c_tak, ev_u1, ev_u2, ev_u3, zr_u, zr_v, Nat.reduceAdd, true_and, and_true]; omega
  · intro g g0 g1; simp (disch := omega) only [t_tak, c_tak, ev_u1, ev_u2, ev_u3, zr_u, zr_v, Nat.reduceAdd, true_and, and_true] at g1; omega
theorem s_end (hS : SR H) (hH : HR H 33 (H 82)) {n : Int} : Sim S (d + 1) Ls H 98 168 [.inl n] (Good H) := by
  have h4 : H 32 3 = H 80 10 := hS.1.1
  have h4' := hS.1.2
  unfold Sim
  rw [b_end]
  refine ⟨fun h => ⟨_, _, rfl, ?_⟩, fun h => ⟨_, _, rfl, ?_⟩⟩
  · rw [m_end]
    refine ⟨fun _ => s_fin rfl ?_, fun h' => absurd (by simp (disch := omega) only [t_tak, c_tak, ev_u1, ev_u2, ev_u3, zr_u, zr_v, Nat.reduceAdd, true_and, and_true]; omega) h'⟩
    have e : ∀ a i, ¬ ((a = 32 ∧ i = 3) ∨ (a = 80 ∧ i = 0) ∨ (a = 80 ∧ i = 10)) → sm_u (sm_u (sm_u H 32 3 n) 80 0 0) 80 10 n a i = H a i := fun a i h => by simp (disch := omega) only [ev_u4]
    refine ⟨⟨by simp (disch := omega) only [t_tak, c_tak, ev_u1, ev_u2, ev_u3, zr_u, zr_v, Nat.reduceAdd, true_and, and_true]; omega, ?_, ?_, ?_, ?_, ?_, ?_, ?_, ?_⟩, hH.same (fun a h1 h2 => by funext i; exact e a i (by omega)) (fun i hi => e _ _ (by omega)), fun a h => by funext i; exact e a i (by omega), ⟨(by first | (simp (disch := omega) only [t_tak, c_tak, ev_u1, ev_u2, ev_u3, zr_u, zr_v, Nat.reduceAdd]; done) | (funext j; simp (disch := omega) only [t_tak, c_tak, ev_u1, ev_u2, ev_u3, zr_u, zr_v, Nat.reduceAdd]; done) | (intro i hi; simp (disch := omega) only [t_tak, c_tak, ev_u1, ev_u2, ev_u3, zr_u, zr_v, Nat.reduceAdd]; done)), (by first | (simp (disch := omega) only [t_tak, c_tak, ev_u1, ev_u2, ev_u3, zr_u, zr_v, Nat.reduceAdd]; done) | (funext j; simp (disch := omega) only [t_tak, c_tak, ev_u1, ev_u2, ev_u3, zr_u, zr_v, Nat.reduceAdd]; done) | (intro i hi; simp (disch := omega) only [t_tak, c_tak, ev_u1, ev_u2, ev_u3, zr_u, zr_v, Nat.reduceAdd]; done)), fun i hi => e _ _ (by omega)⟩, fun k hk => e _ _ (by omega), fun k hk => e _ _ (by omega), Or.inr ⟨(by first | (simp (disch := omega) only [t_tak, c_tak, ev_u1, ev_u2, ev_u3, zr_u, zr_v, Nat.reduceAdd]; done) | (funext j; simp (disch := omega) only [t_tak, c_tak, ev_u1, ev_u2, ev_u3, zr_u, zr_v, Nat.reduceAdd]; done) | (intro i hi; simp (disch := omega) only [t_tak, c_tak, ev_u1, ev_u2, ev_u3, zr_u, zr_v, Nat.reduceAdd]; done)), fun i hi => e _ _ (by omega)⟩, Or.inr ⟨(by first | (simp (disch := omega) only [t_tak, c_tak, ev_u1, ev_u2, ev_u3, zr_u, zr_v, Nat.reduceAdd]; done) | (funext j; simp (disch := omega) only [t_tak, c_tak, ev_u1, ev_u2, ev_u3, zr_u, zr_v, Nat.reduceAdd]; done) | (intro i hi; simp (disch := omega) only [t_tak, c_tak, ev_u1, ev_u2, ev_u3, zr_u, zr_v, Nat.reduceAdd]; done)), fun i hi => e _ _ (by omega)⟩⟩
    · intro g g0 g1
      simp (disch := omega) only [t_tak, c_tak, ev_u1, ev_u2, ev_u3, zr_u, zr_v, Nat.reduceAdd, true_and, and_true] at g1 ⊢
      exact hS.2.1 g g0 (by omega)
    · have q := hS.2.2.1; (simp (disch := omega) only [t_tak, c_tak, ev_u1, ev_u2, ev_u3, zr_u, zr_v, Nat.reduceAdd]; exact q)
    · have q := hS.2.2.2.1; (simp (disch := omega) only [t_tak, c_tak, ev_u1, ev_u2, ev_u3, zr_u, zr_v, Nat.reduceAdd]; exact q)
    · have q := hS.2.2.2.2.1; (simp (disch := omega) only [t_tak, c_tak, ev_u1, ev_u2, ev_u3, zr_u, zr_v, Nat.reduceAdd]; exact q)
    · have q := hS.2.2.2.2.2.1; (simp (disch := omega) only [t_tak, c_tak, ev_u1, ev_u2, ev_u3, zr_u, zr_v, Nat.reduceAdd]; exact q)
    · have q := hS.2.2.2.2.2.2.1; (simp (disch := omega) only [t_tak, c_tak, ev_u1, ev_u2, ev_u3, zr_u, zr_v, Nat.reduceAdd]; exact q)
    · have q := hS.2.2.2.2.2.2.2.1; (simp (disch := omega) only [t_tak, c_tak, ev_u1, ev_u2, ev_u3, zr_u, zr_v, Nat.reduceAdd]; exact q)
    · have q := hS.2.2.2.2.2.2.2.2; (simp (disch := omega) only [t_tak, c_tak, ev_u1, ev_u2, ev_u3, zr_u, zr_v, Nat.reduceAdd]; exact q)
  · rw [m_end, ← h4]
    exact ⟨fun h' => absurd h' h, fun _ => s_fin rfl (good_read hS hH)⟩
theorem s_drawn (hS : SR H) (hH : HR H 33 (H 82)) {c : Int} : Sim S (d + 2) Ls H 130 251 [.inl c] (Good H) := by
  have h1 := hS.2.2.2.2.2.2.1
  unfold Sim
  rw [b_drawn (by omega)]
  refine ⟨_, _, rfl, ?_⟩
  rw [m_drawn (by omega)]
  refine s_fin ?_ (good_read hS hH)
  by_cases h : 0 ≤ c ∧ c < H 32 14
  · rw [if_pos h, if_pos (by omega), hS.2.2.2.2.2.2.2.1 c h.1 h.2]
  · rw [if_neg h, if_neg (by omega)]
/-- five different cows of at most five are all -/
theorem five {f : Int → Int} {n x : Int} (hn : n ≤ 5) (hf : ∀ i : Int, 0 ≤ i → i < 5 → 0 ≤ f i ∧ f i < n) (hd : ∀ i j : Int, 0 ≤ i → i < j → j < 5 → f i ≠ f j) (hx : 0 ≤ x ∧ x < n) : ∃ j : Int, 0 ≤ j ∧ j < 5 ∧ f j = x := by
  have h0 := hf 0 (by omega) (by omega)
  have h1 := hf 1 (by omega) (by omega)
  have h2 := hf 2 (by omega) (by omega)
  have h3 := hf 3 (by omega) (by omega)
  have h4 := hf 4 (by omega) (by omega)
  have d01 := hd 0 1 (by omega) (by omega) (by omega)
  have d02 := hd 0 2 (by omega) (by omega) (by omega)
  have d03 := hd 0 3 (by omega) (by omega) (by omega)
  have d04 := hd 0 4 (by omega) (by omega) (by omega)
  have d12 := hd 1 2 (by omega) (by omega) (by omega)
  have d13 := hd 1 3 (by omega) (by omega) (by omega)
  have d14 := hd 1 4 (by omega) (by omega) (by omega)
  have d23 := hd 2 3 (by omega) (by omega) (by omega)
  have d24 := hd 2 4 (by omega) (by omega) (by omega)
  have d34 := hd 3 4 (by omega) (by omega) (by omega)
  by_cases e0 : f 0 = x
  · exact ⟨0, by omega, by omega, e0⟩
  by_cases e1 : f 1 = x
  · exact ⟨1, by omega, by omega, e1⟩
  by_cases e2 : f 2 = x
  · exact ⟨2, by omega, by omega, e2⟩
  by_cases e3 : f 3 = x
  · exact ⟨3, by omega, by omega, e3⟩
  by_cases e4 : f 4 = x
  · exact ⟨4, by omega, by omega, e4⟩
  exfalso
  rcases (by omega : x = 0 ∨ x = 1 ∨ x = 2 ∨ x = 3 ∨ x = 4) with rfl | rfl | rfl | rfl | rfl <;> omega
theorem s_order (hS : SR H) (hH : HR H 33 (H 82)) {x : Int} : Sim S (d + 3) Ls H 106 202 [.inl x] (Good H) := by
  have hn := hH.hn
  have rn := hH.rn
  have n0 := hH.n0
  have h4 : H 33 14 = H 82 6 := hH.2.2.2.2.2.1.1
  have h4' := hH.2.2.2.2.2.1.2
  have hg : (∃ j : Int, 0 ≤ j ∧ j < H 33 14 ∧ H 42 j = x) ↔ ∃ j : Int, 0 ≤ j ∧ j < H 82 6 ∧ H 82 (95 + j) = x := by
    constructor
    · rintro ⟨j, h1, h2, h3⟩
      have := hH.2.2.2.2.2.2.1 j h1 (by omega)
      exact ⟨j, h1, by omega, by rw [← this.1]; exact h3⟩
    · rintro ⟨j, h1, h2, h3⟩
      have := hH.2.2.2.2.2.2.1 j h1 (by omega)
      exact ⟨j, h1, by omega, by rw [← h3]; exact this.1⟩
  unfold Sim
  rw [b_order hn (by omega)]
  refine ⟨fun h => ⟨_, _, rfl, ?_⟩, fun h h2 => ⟨_, _, rfl, ?_⟩, fun h h2 => ⟨_, _, rfl, ?_⟩⟩
  · rw [m_order (by rw [c_ref_82]; exact rn) (by rw [c_ref_82]; exact h4'), c_ref_82]
    exact ⟨fun _ => good_ref' hS hH (by omega), fun h' => by omega⟩
  · rw [m_order (by rw [c_ref_82]; exact rn) (by rw [c_ref_82]; exact h4'), c_ref_82]
    have hy : ∃ j : Int, 0 ≤ j ∧ j < H 82 6 ∧ H 82 (95 + j) = x := by
      rcases h2 with h2 | h2
      · exact hg.mp h2
      · obtain ⟨j, h1, h3, h5⟩ := five (f := fun j => H 82 (95 + j)) (n := H 82 0) (x := x) rn.2 (fun i i0 i1 => (hH.2.2.2.2.2.2.1 i i0 (by omega)).2) (fun i j i0 ij j1 => hH.2.2.2.2.2.2.2.1 i j i0 ij (by omega)) (by omega)
        exact ⟨j, h1, by omega, h5⟩
    exact ⟨fun h' => by omega, fun _ => ⟨fun _ => good_ref' hS hH (by omega), fun h' => absurd hy h'⟩⟩
  · have e : c_tak (sm_u (sm_u H 42 (H 33 14) x) 33 14 (H 33 14 + 1)) 82 = H 82 := by rw [c_tak_82, u_row (by omega), u_row (by omega)]
    rw [m_order (by rw [e]; exact rn) (by rw [e]; exact h4'), e]
    have hno : ¬ ∃ j : Int, 0 ≤ j ∧ j < H 82 6 ∧ H 82 (95 + j) = x := fun h' => h2 (Or.inl (hg.mpr h'))
    have h5 : H 82 6 < 5 := by omega
    refine ⟨fun h' => by omega, fun _ => ⟨fun h' => absurd h' hno, fun _ => s_fin (by rw [h4]) ?_⟩⟩
    rw [h4]
    refine good_tak hS (fun a i h => (by unfold Tch at h; simp (disch := omega) only [t_tak, c_tak, ev_u4, zr_u])) rfl rfl rfl ?_
    obtain ⟨ha, hb, hc, hd⟩ := hH
    refine ⟨ha.congr (by first | (simp (disch := omega) only [t_tak, c_tak, ev_u1, ev_u2, ev_u3, zr_u, zr_v, Nat.reduceAdd]; done) | (funext j; simp (disch := omega) only [t_tak, c_tak, ev_u1, ev_u2, ev_u3, zr_u, zr_v, Nat.reduceAdd]; done) | (intro i hi; simp (disch := omega) only [t_tak, c_tak, ev_u1, ev_u2, ev_u3, zr_u, zr_v, Nat.reduceAdd]; done)) (by first | (simp (disch := omega) only [t_tak, c_tak, ev_u1, ev_u2, ev_u3, zr_u, zr_v, Nat.reduceAdd]; done) | (funext j; simp (disch := omega) only [t_tak, c_tak, ev_u1, ev_u2, ev_u3, zr_u, zr_v, Nat.reduceAdd]; done) | (intro i hi; simp (disch := omega) only [t_tak, c_tak, ev_u1, ev_u2, ev_u3, zr_u, zr_v, Nat.reduceAdd]; done)) (by first | (simp (disch := omega) only [t_tak, c_tak, ev_u1, ev_u2, ev_u3, zr_u, zr_v, Nat.reduceAdd]; done) | (funext j; simp (disch := omega) only [t_tak, c_tak, ev_u1, ev_u2, ev_u3, zr_u, zr_v, Nat.reduceAdd]; done) | (intro i hi; simp (disch := omega) only [t_tak, c_tak, ev_u1, ev_u2, ev_u3, zr_u, zr_v, Nat.reduceAdd]; done)) (by first | (simp (disch := omega) only [t_tak, c_tak, ev_u1, ev_u2, ev_u3, zr_u, zr_v, Nat.reduceAdd]; done) | (funext j; simp (disch := omega) only [t_tak, c_tak, ev_u1, ev_u2, ev_u3, zr_u, zr_v, Nat.reduceAdd]; done) | (intro i hi; simp (disch := omega) only [t_tak, c_tak, ev_u1, ev_u2, ev_u3, zr_u, zr_v, Nat.reduceAdd]; done)) (by first | (simp (disch := omega) only [t_tak, c_tak, ev_u1, ev_u2, ev_u3, zr_u, zr_v, Nat.reduceAdd]; done) | (funext j; simp (disch := omega) only [t_tak, c_tak, ev_u1, ev_u2, ev_u3, zr_u, zr_v, Nat.reduceAdd]; done) | (intro i hi; simp (disch := omega) only [t_tak, c_tak, ev_u1, ev_u2, ev_u3, zr_u, zr_v, Nat.reduceAdd]; done)) (by first | (simp (disch := omega) only [t_tak, c_tak, ev_u1, ev_u2, ev_u3, zr_u, zr_v, Nat.reduceAdd]; done) | (funext j; simp (disch := omega) only [t_tak, c_tak, ev_u1, ev_u2, ev_u3, zr_u, zr_v, Nat.reduceAdd]; done) | (intro i hi; simp (disch := omega) only [t_tak, c_tak, ev_u1, ev_u2, ev_u3, zr_u, zr_v, Nat.reduceAdd]; done)), hb.congr (by first | (simp (disch := omega) only [t_tak, c_tak, ev_u1, ev_u2, ev_u3, zr_u, zr_v, Nat.reduceAdd]; done) | (funext j; simp (disch := omega) only [t_tak, c_tak, ev_u1, ev_u2, ev_u3, zr_u, zr_v, Nat.reduceAdd]; done) | (intro i hi; simp (disch := omega) only [t_tak, c_tak, ev_u1, ev_u2, ev_u3, zr_u, zr_v, Nat.reduceAdd]; done)) (by first | (simp (disch := omega) only [t_tak, c_tak, ev_u1, ev_u2, ev_u3, zr_u, zr_v, Nat.reduceAdd]; done) | (funext j; simp (disch := omega) only [t_tak, c_tak, ev_u1, ev_u2, ev_u3, zr_u, zr_v, Nat.reduceAdd]; done) | (intro i hi; simp (disch := omega) only [t_tak, c_tak, ev_u1, ev_u2, ev_u3, zr_u, zr_v, Nat.reduceAdd]; done)) (by first | (simp (disch := omega) only [t_tak, c_tak, ev_u1, ev_u2, ev_u3, zr_u, zr_v, Nat.reduceAdd]; done) | (funext j; simp (disch := omega) only [t_tak, c_tak, ev_u1, ev_u2, ev_u3, zr_u, zr_v, Nat.reduceAdd]; done) | (intro i hi; simp (disch := omega) only [t_tak, c_tak, ev_u1, ev_u2, ev_u3, zr_u, zr_v, Nat.reduceAdd]; done)) (by first | (simp (disch := omega) only [t_tak, c_tak, ev_u1, ev_u2, ev_u3, zr_u, zr_v, Nat.reduceAdd]; done) | (funext j; simp (disch := omega) only [t_tak, c_tak, ev_u1, ev_u2, ev_u3, zr_u, zr_v, Nat.reduceAdd]; done) | (intro i hi; simp (disch := omega) only [t_tak, c_tak, ev_u1, ev_u2, ev_u3, zr_u, zr_v, Nat.reduceAdd]; done)) (by first | (simp (disch := omega) only [t_tak, c_tak, ev_u1, ev_u2, ev_u3, zr_u, zr_v, Nat.reduceAdd]; done) | (funext j; simp (disch := omega) only [t_tak, c_tak, ev_u1, ev_u2, ev_u3, zr_u, zr_v, Nat.reduceAdd]; done) | (intro i hi; simp (disch := omega) only [t_tak, c_tak, ev_u1, ev_u2, ev_u3, zr_u, zr_v, Nat.reduceAdd]; done)), hc.congr (by first | (simp (disch := omega) only [t_tak, c_tak, ev_u1, ev_u2, ev_u3, zr_u, zr_v, Nat.reduceAdd]; done) | (funext j; simp (disch := omega) only [t_tak, c_tak, ev_u1, ev_u2, ev_u3, zr_u, zr_v, Nat.reduceAdd]; done) | (intro i hi; simp (disch := omega) only [t_tak, c_tak, ev_u1, ev_u2, ev_u3, zr_u, zr_v, Nat.reduceAdd]; done)) (by first | (simp (disch := omega) only [t_tak, c_tak, ev_u1, ev_u2, ev_u3, zr_u, zr_v, Nat.reduceAdd]; done) | (funext j; simp (disch := omega) only [t_tak, c_tak, ev_u1, ev_u2, ev_u3, zr_u, zr_v, Nat.reduceAdd]; done) | (intro i hi; simp (disch := omega) only [t_tak, c_tak, ev_u1, ev_u2, ev_u3, zr_u, zr_v, Nat.reduceAdd]; done)) (by first | (simp (disch := omega) only [t_tak, c_tak, ev_u1, ev_u2, ev_u3, zr_u, zr_v, Nat.reduceAdd]; done) | (funext j; simp (disch := omega) only [t_tak, c_tak, ev_u1, ev_u2, ev_u3, zr_u, zr_v, Nat.reduceAdd]; done) | (intro i hi; simp (disch := omega) only [t_tak, c_tak, ev_u1, ev_u2, ev_u3, zr_u, zr_v, Nat.reduceAdd]; done)), ⟨?_, ?_, ?_, ?_, ?_, ?_, ?_⟩⟩
    · have q := hd.1; (simp (disch := omega) only [t_tak, c_tak, ev_u1, ev_u2, ev_u3, zr_u, zr_v, Nat.reduceAdd]; exact q)
    · have q := hd.2.1; (simp (disch := omega) only [t_tak, c_tak, ev_u1, ev_u2, ev_u3, zr_u, zr_v, Nat.reduceAdd]; exact q)
    · simp (disch := omega) only [t_tak, c_tak, ev_u1, ev_u2, ev_u3, zr_u, zr_v, Nat.reduceAdd, true_and, and_true]; omega
    · intro g g0 g1
      simp (disch := omega) only [t_tak, c_tak, ev_u1, ev_u2, ev_u3, zr_u, zr_v, Nat.reduceAdd, true_and, and_true] at g1
      by_cases hgg : g = H 82 6
      · subst hgg
        simp (disch := omega) only [t_tak, c_tak, ev_u1, ev_u2, ev_u3, zr_u, zr_v, Nat.reduceAdd, true_and, and_true]
        omega
      · have q := hd.2.2.2.1 g g0 (by omega)
        simp (disch := omega) only [t_tak, c_tak, ev_u1, ev_u2, ev_u3, zr_u, zr_v, Nat.reduceAdd, true_and, and_true]
        exact q
    · intro i j i0 ij j1
      simp (disch := omega) only [t_tak, c_tak, ev_u1, ev_u2, ev_u3, zr_u, zr_v, Nat.reduceAdd, true_and, and_true] at j1
      by_cases hgg : j = H 82 6
      · subst hgg
        simp (disch := omega) only [t_tak, c_tak, ev_u1, ev_u2, ev_u3, zr_u, zr_v, Nat.reduceAdd, true_and, and_true]
        exact fun h' => hno ⟨i, i0, ij, h'⟩
      · have q := hd.2.2.2.2.1 i j i0 ij (by omega)
        simp (disch := omega) only [t_tak, c_tak, ev_u1, ev_u2, ev_u3, zr_u, zr_v, Nat.reduceAdd, true_and, and_true]
        exact q
    · have q := hd.2.2.2.2.2.1; (simp (disch := omega) only [t_tak, c_tak, ev_u1, ev_u2, ev_u3, zr_u, zr_v, Nat.reduceAdd]; exact q)
    · have q := hd.2.2.2.2.2.2; (intro g g0 g1; simp (disch := omega) only [t_tak, c_tak, ev_u1, ev_u2, ev_u3, zr_u, zr_v, Nat.reduceAdd] at g1 ⊢; exact q g g0 g1)
theorem s_cow (hS : SR H) (hH : HR H 33 (H 82)) {a b c e : Int} : Sim (st_S fmt L xs) (d + 3) Ls H 88 150 [.inl a, .inl b, .inl c, .inl e] (Good H) := by
  have hn := hH.hn
  have rn := hH.rn
  have n0 := hH.n0
  unfold Sim
  rw [b_cow hn]
  refine ⟨fun h => ⟨_, _, rfl, ?_⟩, fun h => ⟨fun h2 => ⟨_, _, rfl, ?_⟩, fun h2 => ⟨_, _, rfl, ?_⟩⟩⟩
  · rw [m_cow (by rw [c_ref_82]; exact rn), c_ref_82]
    exact ⟨fun _ => good_ref' hS hH (by omega), fun h' => absurd h' h⟩
  · rw [m_cow (by rw [c_ref_82]; exact rn), c_ref_82]
    exact ⟨fun h' => absurd h h', fun _ => ⟨fun _ => good_ref' hS hH (by omega), fun h' => by omega⟩⟩
  · have e1 : c_tak (c_cow H a b c e) 82 = H 82 := by rw [c_tak_82]; funext j; simp (disch := omega) only [c_cow, ev_u2]
    rw [m_cow (by rw [e1]; exact rn), e1]
    refine ⟨fun h' => absurd h h', fun _ => ⟨fun h' => by omega, fun _ => s_fin n0.symm ?_⟩⟩
    have e2 : sm_u (c_tak (c_cow H a b c e)) 80 0 0 82 = H 82 := by rw [u_row (by omega), e1]
    unfold t_cow
    rw [e2]
    unfold c_cow
    rw [n0] at h2 ⊢
    refine good_tak hS (fun a i h => ?_) rfl rfl rfl ?_
    · unfold Tch at h
      simp (disch := omega) only [t_tak, c_tak, ev_u4, zr_u]
    obtain ⟨ha, hb, hc, hd⟩ := hH
    refine ⟨⟨?_, ?_, ?_, ?_⟩, ?_, ?_, ?_⟩
    · simp (disch := omega) only [t_tak, c_tak, ev_u1, ev_u2, ev_u3, zr_u, zr_v, Nat.reduceAdd, true_and, and_true]; omega
    · intro c' c0 c1 w' w0 w1
      simp (disch := omega) only [t_tak, c_tak, ev_u1, ev_u2, ev_u3, zr_u, zr_v, Nat.reduceAdd, true_and, and_true] at c1
      by_cases hcw : c' = H 82 0
      · rw [hcw]
        obtain ⟨k1, k2, k3, k4⟩ := h
        unfold tr_ok at k1 k2 k3 k4 ⊢
        rcases (by omega : w' = 0 ∨ w' = 1 ∨ w' = 2 ∨ w' = 3 ∨ w' = 4) with rfl | rfl | rfl | rfl | rfl
        · rw [show (10 : Int) + 16 * H 82 0 + 0 = 10 + 16 * H 82 0 by omega]
          simp (disch := omega) only [t_tak, c_tak, ev_u1, ev_u2, ev_u3, zr_u, zr_v, Nat.reduceAdd, true_and, and_true]
          omega
        · simp (disch := omega) only [t_tak, c_tak, ev_u1, ev_u2, ev_u3, zr_u, zr_v, Nat.reduceAdd, true_and, and_true]
          omega
        · rw [show (10 : Int) + 16 * H 82 0 + 2 = 12 + 16 * H 82 0 by omega]
          simp (disch := omega) only [t_tak, c_tak, ev_u1, ev_u2, ev_u3, zr_u, zr_v, Nat.reduceAdd, true_and, and_true]
          omega
        · rw [show (10 : Int) + 16 * H 82 0 + 3 = 13 + 16 * H 82 0 by omega]
          simp (disch := omega) only [t_tak, c_tak, ev_u1, ev_u2, ev_u3, zr_u, zr_v, Nat.reduceAdd, true_and, and_true]
          omega
        · rw [show (10 : Int) + 16 * H 82 0 + 4 = 14 + 16 * H 82 0 by omega]
          simp (disch := omega) only [t_tak, c_tak, ev_u1, ev_u2, ev_u3, zr_u, zr_v, Nat.reduceAdd, true_and, and_true]
          omega
      · have q := ha.2.1 c' c0 (by omega) w' w0 w1
        simp (disch := omega) only [t_tak, c_tak, ev_u1, ev_u2, ev_u3, zr_u, zr_v, Nat.reduceAdd, true_and, and_true]
        exact q
    · intro c' c0 c1
      simp (disch := omega) only [t_tak, c_tak, ev_u1, ev_u2, ev_u3, zr_u, zr_v, Nat.reduceAdd, true_and, and_true] at c1
      by_cases hcw : c' = H 82 0
      · rw [hcw]
        simp (disch := omega) only [t_tak, c_tak, ev_u1, ev_u2, ev_u3, zr_u, zr_v, Nat.reduceAdd, true_and, and_true]
        omega
      · have q := ha.2.2.1 c' c0 (by omega)
        simp (disch := omega) only [t_tak, c_tak, ev_u1, ev_u2, ev_u3, zr_u, zr_v, Nat.reduceAdd, true_and, and_true]
        exact q
    · intro c' c0 c1 k k0 k1
      simp (disch := omega) only [t_tak, c_tak, ev_u1, ev_u2, ev_u3, zr_u, zr_v, Nat.reduceAdd, true_and, and_true] at c1
      by_cases hcw : c' = H 82 0
      · rw [hcw] at k1
        simp (disch := omega) only [t_tak, c_tak, ev_u1, ev_u2, ev_u3, zr_u, zr_v, Nat.reduceAdd, true_and, and_true] at k1
        omega
      · have q0 := ha.2.2.1 c' c0 (by omega)
        simp (disch := omega) only [t_tak, c_tak, ev_u1, ev_u2, ev_u3, zr_u, zr_v, Nat.reduceAdd, true_and, and_true] at k1
        have q := ha.2.2.2 c' c0 (by omega) k k0 k1
        simp (disch := omega) only [t_tak, c_tak, ev_u1, ev_u2, ev_u3, zr_u, zr_v, Nat.reduceAdd, true_and, and_true]
        exact q
    · exact hb.congr (by first | (simp (disch := omega) only [t_tak, c_tak, ev_u1, ev_u2, ev_u3, zr_u, zr_v, Nat.reduceAdd]; done) | (funext j; simp (disch := omega) only [t_tak, c_tak, ev_u1, ev_u2, ev_u3, zr_u, zr_v, Nat.reduceAdd]; done) | (intro i hi; simp (disch := omega) only [t_tak, c_tak, ev_u1, ev_u2, ev_u3, zr_u, zr_v, Nat.reduceAdd]; done)) (by first | (simp (disch := omega) only [t_tak, c_tak, ev_u1, ev_u2, ev_u3, zr_u, zr_v, Nat.reduceAdd]; done) | (funext j; simp (disch := omega) only [t_tak, c_tak, ev_u1, ev_u2, ev_u3, zr_u, zr_v, Nat.reduceAdd]; done) | (intro i hi; simp (disch := omega) only [t_tak, c_tak, ev_u1, ev_u2, ev_u3, zr_u, zr_v, Nat.reduceAdd]; done)) (by first | (simp (disch := omega) only [t_tak, c_tak, ev_u1, ev_u2, ev_u3, zr_u, zr_v, Nat.reduceAdd]; done) | (funext j; simp (disch := omega) only [t_tak, c_tak, ev_u1, ev_u2, ev_u3, zr_u, zr_v, Nat.reduceAdd]; done) | (intro i hi; simp (disch := omega) only [t_tak, c_tak, ev_u1, ev_u2, ev_u3, zr_u, zr_v, Nat.reduceAdd]; done)) (by first | (simp (disch := omega) only [t_tak, c_tak, ev_u1, ev_u2, ev_u3, zr_u, zr_v, Nat.reduceAdd]; done) | (funext j; simp (disch := omega) only [t_tak, c_tak, ev_u1, ev_u2, ev_u3, zr_u, zr_v, Nat.reduceAdd]; done) | (intro i hi; simp (disch := omega) only [t_tak, c_tak, ev_u1, ev_u2, ev_u3, zr_u, zr_v, Nat.reduceAdd]; done)) (fun i hi => by simp (disch := omega) only [t_tak, c_tak, ev_u1, ev_u2, ev_u3, zr_u, zr_v, Nat.reduceAdd, true_and, and_true])
    · exact hc.congr (by first | (simp (disch := omega) only [t_tak, c_tak, ev_u1, ev_u2, ev_u3, zr_u, zr_v, Nat.reduceAdd]; done) | (funext j; simp (disch := omega) only [t_tak, c_tak, ev_u1, ev_u2, ev_u3, zr_u, zr_v, Nat.reduceAdd]; done) | (intro i hi; simp (disch := omega) only [t_tak, c_tak, ev_u1, ev_u2, ev_u3, zr_u, zr_v, Nat.reduceAdd]; done)) (by first | (simp (disch := omega) only [t_tak, c_tak, ev_u1, ev_u2, ev_u3, zr_u, zr_v, Nat.reduceAdd]; done) | (funext j; simp (disch := omega) only [t_tak, c_tak, ev_u1, ev_u2, ev_u3, zr_u, zr_v, Nat.reduceAdd]; done) | (intro i hi; simp (disch := omega) only [t_tak, c_tak, ev_u1, ev_u2, ev_u3, zr_u, zr_v, Nat.reduceAdd]; done)) (fun i hi => by simp (disch := omega) only [t_tak, c_tak, ev_u1, ev_u2, ev_u3, zr_u, zr_v, Nat.reduceAdd, true_and, and_true])
    · exact hd.congr (by first | (simp (disch := omega) only [t_tak, c_tak, ev_u1, ev_u2, ev_u3, zr_u, zr_v, Nat.reduceAdd]; done) | (funext j; simp (disch := omega) only [t_tak, c_tak, ev_u1, ev_u2, ev_u3, zr_u, zr_v, Nat.reduceAdd]; done) | (intro i hi; simp (disch := omega) only [t_tak, c_tak, ev_u1, ev_u2, ev_u3, zr_u, zr_v, Nat.reduceAdd]; done)) (by first | (simp (disch := omega) only [t_tak, c_tak, ev_u1, ev_u2, ev_u3, zr_u, zr_v, Nat.reduceAdd]; done) | (funext j; simp (disch := omega) only [t_tak, c_tak, ev_u1, ev_u2, ev_u3, zr_u, zr_v, Nat.reduceAdd]; done) | (intro i hi; simp (disch := omega) only [t_tak, c_tak, ev_u1, ev_u2, ev_u3, zr_u, zr_v, Nat.reduceAdd]; done)) (by first | (simp (disch := omega) only [t_tak, c_tak, ev_u1, ev_u2, ev_u3, zr_u, zr_v, Nat.reduceAdd]; done) | (funext j; simp (disch := omega) only [t_tak, c_tak, ev_u1, ev_u2, ev_u3, zr_u, zr_v, Nat.reduceAdd]; done) | (intro i hi; simp (disch := omega) only [t_tak, c_tak, ev_u1, ev_u2, ev_u3, zr_u, zr_v, Nat.reduceAdd]; done)) (by first | (simp (disch := omega) only [t_tak, c_tak, ev_u1, ev_u2, ev_u3, zr_u, zr_v, Nat.reduceAdd]; done) | (funext j; simp (disch := omega) only [t_tak, c_tak, ev_u1, ev_u2, ev_u3, zr_u, zr_v, Nat.reduceAdd]; done) | (intro i hi; simp (disch := omega) only [t_tak, c_tak, ev_u1, ev_u2, ev_u3, zr_u, zr_v, Nat.reduceAdd]; done)) (by first | (simp (disch := omega) only [t_tak, c_tak, ev_u1, ev_u2, ev_u3, zr_u, zr_v, Nat.reduceAdd]; done) | (funext j; simp (disch := omega) only [t_tak, c_tak, ev_u1, ev_u2, ev_u3, zr_u, zr_v, Nat.reduceAdd]; done) | (intro i hi; simp (disch := omega) only [t_tak, c_tak, ev_u1, ev_u2, ev_u3, zr_u, zr_v, Nat.reduceAdd]; done)) (by first | (simp (disch := omega) only [t_tak, c_tak, ev_u1, ev_u2, ev_u3, zr_u, zr_v, Nat.reduceAdd]; done) | (funext j; simp (disch := omega) only [t_tak, c_tak, ev_u1, ev_u2, ev_u3, zr_u, zr_v, Nat.reduceAdd]; done) | (intro i hi; simp (disch := omega) only [t_tak, c_tak, ev_u1, ev_u2, ev_u3, zr_u, zr_v, Nat.reduceAdd]; done)) (by first | (simp (disch := omega) only [t_tak, c_tak, ev_u1, ev_u2, ev_u3, zr_u, zr_v, Nat.reduceAdd]; done) | (funext j; simp (disch := omega) only [t_tak, c_tak, ev_u1, ev_u2, ev_u3, zr_u, zr_v, Nat.reduceAdd]; done) | (intro i hi; simp (disch := omega) only [t_tak, c_tak, ev_u1, ev_u2, ev_u3, zr_u, zr_v, Nat.reduceAdd]; done)) (by simp (disch := omega) only [t_tak, c_tak, ev_u1, ev_u2, ev_u3, zr_u, zr_v, Nat.reduceAdd, true_and, and_true]; omega) (fun i hi => by simp (disch := omega) only [t_tak, c_tak, ev_u1, ev_u2, ev_u3, zr_u, zr_v, Nat.reduceAdd, true_and, and_true])
end SIM3
