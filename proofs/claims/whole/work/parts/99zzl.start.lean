/-! the start, and the goal -/
theorem kkM_eq : (kkB ++ (10, (62, [0, 0, kkB.length + 1 + 32, kkB.length + 2 + 32, kkB.length + 3 + 32, kkB.length + 4 + 32, 0, kkB.length + 5 + 32, 0, kkB.length + 6 + 32, 0, 0, 0, 0, 0, 0, 0, 0, kkB.length + 7 + 32, 0, kkB.length + 8 + 32, kkB.length + 9 + 32, 0, kkB.length + 10 + 32, kkB.length + 11 + 32, 0, 0, kkB.length + 12 + 32, kkB.length + 13 + 32, 0, kkB.length + 14 + 32, kkB.length + 15 + 32, 0, 0, 0, kkB.length + 16 + 32, kkB.length + 17 + 32, 0, 0, 0, kkB.length + 18 + 32, kkB.length + 19 + 32, kkB.length + 20 + 32, kkB.length + 21 + 32, kkB.length + 22 + 32, kkB.length + 23 + 32, kkB.length + 24 + 32, 0, 0, kkB.length + 25 + 32, 0, 0, kkB.length + 26 + 32, kkB.length + 27 + 32, kkB.length + 28 + 32, kkB.length + 29 + 32, kkB.length + 30 + 32, kkB.length + 31 + 32, kkB.length + 32 + 32, 0, kkB.length + 33 + 32, 0])) :: [(20, (7, [])), (20, (5620, [])), (20, (11240, [])), (22, (2, [])), (20, (24, [])), (20, (400, [])), (20, (96, [])), (20, (400, [])), (20, (400, [])), (20, (400, [])), (20, (400, [])), (21, (10, [])), (21, (5, [])), (21, (13, [])), (21, (400, [])), (20, (5, [])), (21, (5, [])), (20, (6, [])), (20, (500000, [])), (20, (100000, [])), (20, (100000, [])), (20, (100000, [])), (20, (100000, [])), (22, (100000, [])), (20, (12, [])), (20, (5, [])), (20, (5, [])), (20, (325, [])), (21, (325, [])), (21, (8, [])), (21, (8, [])), (21, (8, [])), (20, (5, []))] : sm_K) = kk0 := by decide +kernel
section START
variable {fmt : Bool} {L : Nat} {xs : Nat → Int32}
/-- the numbers after both constructors -/
def H00 : sm_H := HM 48 HB
theorem H00_z (x : Nat) (i : Int) (h1 : ¬ (x = 33 ∧ i = 13)) (h2 : ¬ (x = 47 ∧ i = 0)) (h3 : ¬ (x = 59 ∧ (i = 0 ∨ i = 6 ∨ i = 7))) (h4 : ¬ (x = 80 ∧ (i = 15 ∨ i = 61))) (h5 : ¬ (x = 82 ∧ i = 2)) (h6 : ¬ (x = 92 ∧ 0 ≤ i ∧ i < 10)) (h7 : ¬ (x = 93 ∧ 0 ≤ i ∧ i < 5)) : H00 x i = 0 := by
  unfold H00 HM HB
  simp (disch := omega) only [ev_u4]
theorem H00_33 : H00 33 13 = -1 := by unfold H00 HM HB; simp (disch := omega) only [ev_u1, ev_u2, ev_u3]
theorem H00_47 : H00 47 0 = -1 := by unfold H00 HM HB; simp (disch := omega) only [ev_u1, ev_u2, ev_u3]
theorem H00_59 : H00 59 0 = 1 ∧ H00 59 6 = 61 ∧ H00 59 7 = 62 := by
  unfold H00 HM HB
  refine ⟨?_, ?_, ?_⟩ <;> simp (disch := omega) only [ev_u1, ev_u2, ev_u3]
theorem H00_80 : H00 80 15 = -1 ∧ H00 80 61 = -1 := by
  unfold H00 HM HB
  simp only [Nat.reduceAdd]
  refine ⟨?_, ?_⟩ <;> simp (disch := omega) only [ev_u1, ev_u2, ev_u3]
theorem H00_82 : H00 82 2 = -1 := by
  unfold H00 HM HB
  simp only [Nat.reduceAdd]
  simp (disch := omega) only [ev_u1, ev_u2, ev_u3]
theorem H00_92 : H00 92 = p92c := by
  funext i
  by_cases hi : 0 ≤ i ∧ i < 10
  · have h10 : i = 0 ∨ i = 1 ∨ i = 2 ∨ i = 3 ∨ i = 4 ∨ i = 5 ∨ i = 6 ∨ i = 7 ∨ i = 8 ∨ i = 9 := by omega
    unfold H00 HM HB
    simp only [Nat.reduceAdd]
    rcases h10 with rfl | rfl | rfl | rfl | rfl | rfl | rfl | rfl | rfl | rfl <;> (simp (disch := omega) only [ev_u1, ev_u2, ev_u3]; decide)
  · rw [H00_z 92 i (by omega) (by omega) (by omega) (by omega) (by omega) (by omega) (by omega)]
    unfold p92c
    rw [if_neg hi]
theorem H00_93 : H00 93 = p93c := by
  funext i
  by_cases hi : 0 ≤ i ∧ i < 5
  · have h10 : i = 0 ∨ i = 1 ∨ i = 2 ∨ i = 3 ∨ i = 4 := by omega
    unfold H00 HM HB
    simp only [Nat.reduceAdd]
    rcases h10 with rfl | rfl | rfl | rfl | rfl <;> (simp (disch := omega) only [ev_u1, ev_u2, ev_u3]; decide)
  · rw [H00_z 93 i (by omega) (by omega) (by omega) (by omega) (by omega) (by omega) (by omega)]
    unfold p93c
    rw [if_neg hi]
theorem inv0 : Inv p92c p93c [] H00 61 62 0 (fun x => if x = 61 ∨ x = 62 then 4 else 0) := by
  have z := fun x i h1 h2 h3 h4 h5 h6 h7 => H00_z x i h1 h2 h3 h4 h5 h6 h7
  have zz : ∀ (x : Nat) (i : Int), x ≠ 33 → x ≠ 47 → x ≠ 59 → x ≠ 80 → x ≠ 82 → x ≠ 92 → x ≠ 93 → H00 x i = 0 := fun x i _ _ _ _ _ _ _ => z x i (by omega) (by omega) (by omega) (by omega) (by omega) (by omega) (by omega)
  have z82 : ∀ i : Int, i ≠ 2 → H00 82 i = 0 := fun i _ => z 82 i (by omega) (by omega) (by omega) (by omega) (by omega) (by omega) (by omega)
  have z33 : ∀ i : Int, i ≠ 13 → H00 33 i = 0 := fun i _ => z 33 i (by omega) (by omega) (by omega) (by omega) (by omega) (by omega) (by omega)
  have z80 : ∀ i : Int, i ≠ 15 → i ≠ 61 → H00 80 i = 0 := fun i _ _ => z 80 i (by omega) (by omega) (by omega) (by omega) (by omega) (by omega) (by omega)
  have z32 : ∀ i : Int, H00 32 i = 0 := fun i => zz 32 i (by omega) (by omega) (by omega) (by omega) (by omega) (by omega) (by omega)
  have hSR : SR H00 := by
    refine ⟨⟨by rw [z32, z80 _ (by omega) (by omega)], by rw [z80 _ (by omega) (by omega)]; omega, by rw [z80 _ (by omega) (by omega)]; omega⟩, fun i i0 i1 => by rw [z80 _ (by omega) (by omega)] at i1; omega, by rw [z32, z80 _ (by omega) (by omega)], by rw [H00_47, H00_80.1], by rw [z32, z80 _ (by omega) (by omega)], fun k _ _ => by rw [zz 79 _ (by omega) (by omega) (by omega) (by omega) (by omega) (by omega) (by omega), zz 81 _ (by omega) (by omega) (by omega) (by omega) (by omega) (by omega) (by omega)], Or.inl ⟨H00_80.2, z32 _⟩, fun c c0 c1 => by rw [z32] at c1; omega, Or.inl (z80 _ (by omega) (by omega))⟩
  have hHR : HR H00 33 (H00 82) := by
    have s0 : (0 : Int) < sm_shl 1 0 := by decide
    refine ⟨⟨by rw [z33 _ (by omega), z82 _ (by omega)]; omega, fun c c0 c1 => by rw [z82 _ (by omega)] at c1; omega, fun c c0 c1 => by rw [z82 _ (by omega)] at c1; omega, fun c c0 c1 => by rw [z82 _ (by omega)] at c1; omega⟩, ⟨by rw [z33 _ (by omega), z82 _ (by omega)]; omega, by rw [z33 _ (by omega), z82 _ (by omega)]; omega, fun c c0 c1 => by rw [z82 _ (by omega)] at c1; omega, by rw [z33 _ (by omega), z82 5 (by omega), z82 4 (by omega)]; exact ⟨rfl, by omega, s0⟩⟩, ⟨fun w w0 w1 => by rw [zz (33 + 7) _ (by omega) (by omega) (by omega) (by omega) (by omega) (by omega) (by omega), z82 _ (by omega)]; omega, by rw [zz (33 + 7) _ (by omega) (by omega) (by omega) (by omega) (by omega) (by omega) (by omega), z82 _ (by omega)]; omega, fun w w0 w1 i i0 i1 => by rw [z82 _ (by omega)] at i1; omega, fun i i0 i1 => by rw [z82 _ (by omega)] at i1; omega⟩, ⟨by rw [z33 _ (by omega), z82 _ (by omega)]; omega, by rw [H00_33, H00_82, z82 1 (by omega)]; omega, by rw [z33 _ (by omega), z82 _ (by omega)]; omega, fun c c0 c1 => by rw [z82 _ (by omega)] at c1; omega, fun i j i0 ij j1 => by rw [z82 _ (by omega)] at j1; omega, by rw [z33 _ (by omega), z82 _ (by omega)]; omega, fun c c0 c1 => by rw [z82 _ (by omega)] at c1; omega⟩⟩
  refine ⟨⟨hSR, hHR⟩, fun j j0 j1 => by rw [z82 _ (by omega)] at j1; omega, fun t _ => by rw [zz 41 _ (by omega) (by omega) (by omega) (by omega) (by omega) (by omega) (by omega)]; rfl, fun k _ _ => Or.inl ⟨zz 45 _ (by omega) (by omega) (by omega) (by omega) (by omega) (by omega) (by omega), zz 84 _ (by omega) (by omega) (by omega) (by omega) (by omega) (by omega) (by omega)⟩, ⟨fun i i0 i1 => by rw [z82 _ (by omega)]; omega, fun k k0 k1 i i0 i1 => by show -100000000 ≤ H00 83 (5620 * k + i) ∧ H00 83 (5620 * k + i) ≤ 100000000; rw [zz 83 _ (by omega) (by omega) (by omega) (by omega) (by omega) (by omega) (by omega)]; omega⟩, ⟨⟨⟨by omega, H00_59.2.1, H00_59.2.2⟩, Or.inl ⟨rfl, rfl, rfl⟩⟩, rfl, rfl⟩, ⟨_, Or.inl ⟨H00_82, rfl⟩, Or.inl H00_59.1, Or.inl (z80 _ (by omega) (by omega))⟩, H00_92, H00_93⟩
theorem liv0 : LIv 0 [] H00 := ⟨61, 62, 0, _, inv0, Nat.le_refl _, 0, Nat.le_refl _, Or.inl (Nat.le_refl _)⟩
theorem law_run (hL : L ≤ 3072) : Bx (st_S fmt L xs) 60 270 st_cfg Qg := by
  have lp := law_loop (fmt := fmt) (xs := xs) hL 512 0 [] H00 (by omega) (Or.inr rfl) liv0
  rw [List.append_nil] at lp
  have hzB : ∀ (x : Nat) (i : Int), kkB.length + 32 ≤ x → HB x i = 0 := fun x i hx => by
    have hx2 : 80 ≤ x := hx
    unfold HB
    simp (disch := omega) only [ev_u2]
  have kM : Ru (st_S fmt L xs) 60 139 [.inr (.inr (kkB.length + 32))] (kkB ++ [(10, (62, List.replicate 62 0))]) HB (fun o => Bx (st_S fmt L xs) 60 270 (15, ([some (.inr (.inr 4)), some (.inr (.inr 32)), none, none], (o.2.2.toList ++ [.inr (.inr (kkB.length + 32))], (o.1, o.2.1)))) Qg) := by
    refine in_139 (d := 59) hzB ?_
    rw [kkM_eq]
    show Bx (st_S fmt L xs) 60 270 (15, ([some (.inr (.inr 4)), some (.inr (.inr 32)), none, none], ([.inr (.inr 80)], (kk0, H00)))) Qg
    simp only [x270_15, x270_16, x270_17, ct_c, ct_z, cat_I, cat_J, cat_A, lq_I, lq_A, lq_n, Nat.reduceAdd, Nat.reduceLeDiff, true_and, and_true, true_or, or_true, ev_b, eq_self, Option.toList_some, Option.toList_none, List.cons_append, List.nil_append]
    exact lp
  have zB : sm_z HB (kkB.length + 32) = HB := sz_id (fun i => hzB _ _ (Nat.le_refl _))
  have kB : Ru (st_S fmt L xs) 60 87 [.inr (.inr 32)] [(9, (18, List.replicate 18 0))] (fun _ _ => 0) (fun o => Bx (st_S fmt L xs) 60 270 (7, ([some (.inr (.inr 4)), none, none, none], (o.2.2.toList ++ [.inr (.inr 32)], (o.1, o.2.1)))) Qg) := by
    refine in_87 (d := 58) ?_
    show Bx (st_S fmt L xs) 60 270 (7, ([some (.inr (.inr 4)), none, none, none], ([.inr (.inr 32)], (kkB, HB)))) Qg
    simp only [x270_7, x270_8, x270_11, x270_12, ct_c, ct_z, cat_I, cat_J, cat_A, lq_I, lq_A, lq_n, Nat.reduceAdd, Nat.reduceLeDiff, true_and, and_true, true_or, or_true, ev_b, eq_self, Option.toList_some, Option.toList_none, List.cons_append, List.nil_append, zB]
    exact ⟨by omega, kM⟩
  have z0 : sm_z (fun _ _ => 0 : sm_H) 32 = (fun _ _ => 0) := sz_id (fun i => rfl)
  unfold st_cfg
  simp only [x270_0, x270_3, x270_4, ct_c, ct_z, cat_I, cat_J, cat_A, lq_I, lq_A, lq_n, Nat.reduceAdd, Nat.reduceLeDiff, true_and, and_true, true_or, or_true, ev_b, eq_self, Option.toList_some, Option.toList_none, List.cons_append, List.nil_append, List.length_nil, Nat.zero_add, z0]
  exact ⟨by omega, kB⟩
end START
