/-- the pure claim -/
theorem st_goal_pf : st_goal := by
  intro fmt L xs hL
  obtain ⟨N, n, o, h1, h2⟩ := law_run (fmt := fmt) (xs := xs) hL
  refine ⟨max N n, 60, o, by omega, ?_, h2.1, h2.2.1, h2.2.2⟩
  exact wx_ex_mono (fun mid vs K H o h => wx_run_mono 60 N (max N n) mid vs K H o (Nat.le_max_left _ _) h) n (max N n) _ o (Nat.le_max_right _ _) h1
