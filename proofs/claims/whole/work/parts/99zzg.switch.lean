/-! the law's switch (by program) -/
section SWITCH
variable {n : Nat} {Q : sm_O → Prop} {Ls : sm_K} {H : sm_H} {fmt : Bool} {L : Nat} {xs : Nat → Int32} {i : Int} {P : sm_K → sm_H → Prop}
theorem ld4 {K : sm_K} {j : Int} {κ : Int → Prop} : wldI (st_S fmt L xs) K H 4 j κ ↔ (0 ≤ j ∧ j < L) ∧ κ ((xs j.toNat).toInt) := Iff.rfl
theorem lc_0 (hb : 0 ≤ i ∧ i + 6 ≤ L) (hL : L ≤ 3072) (hs : Sim2 (st_S fmt L xs) 60 Ls H 88 150 [.inl ((xs (i + 1).toNat).toInt), .inl ((xs (i + 2).toNat).toInt), .inl ((xs (i + 3).toNat).toInt), .inl ((xs (i + 4).toNat).toInt)] P) (tail : ∀ Ls' H2, P Ls' H2 → Bx (st_S fmt L xs) 60 270 (1302, ([some (.inr (.inr 4)), some (.inr (.inr 32)), some (.inr (.inr 80)), some (.inl i)], ([], (kk0 ++ Ls', H2)))) Q) : Bx (st_S fmt L xs) 60 270 (216, ([some (.inr (.inr 4)), some (.inr (.inr 32)), some (.inr (.inr 80)), some (.inl i)], ([], (kk0 ++ Ls, H)))) Q := by
  have key1 : Ru (st_S fmt L xs) 60 88 [.inr (.inr 32), .inl ((xs (i + 1).toNat).toInt), .inl ((xs (i + 2).toNat).toInt), .inl ((xs (i + 3).toNat).toInt), .inl ((xs (i + 4).toNat).toInt)] (kk0 ++ Ls) H (fun o => Bx (st_S fmt L xs) 60 270 (240, ([some (.inr (.inr 4)), some (.inr (.inr 32)), some (.inr (.inr 80)), some (.inl i)], (o.2.2.toList ++ [], (o.1, o.2.1)))) Q) := by
    refine Ru.mono hs (fun o ho => ?_)
    obtain ⟨Ls', H1, a, rfl, hr⟩ := ho
    have key2 : Ru (st_S fmt L xs) 60 150 [.inr (.inr 80), .inl ((xs (i + 1).toNat).toInt), .inl ((xs (i + 2).toNat).toInt), .inl ((xs (i + 3).toNat).toInt), .inl ((xs (i + 4).toNat).toInt)] (kk0 ++ Ls') H1 (fun o => Bx (st_S fmt L xs) 60 270 (264, ([some (.inr (.inr 4)), some (.inr (.inr 32)), some (.inr (.inr 80)), some (.inl i)], (o.2.2.toList ++ [.inl a], (o.1, o.2.1)))) Q) := hr.mono (fun o2 ho2 => by
      obtain ⟨H2, rfl, hp⟩ := ho2
      have fin := tail Ls' H2 hp
      simp only [x270_264, ct_c, ct_z, cat_I, cat_J, cat_A, lq_I, lq_A, lq_n, Nat.reduceAdd, Nat.reduceLeDiff, true_and, and_true, true_or, or_true, ev_b, eq_self, Option.toList_some, Option.toList_none, List.cons_append, List.nil_append]
      simpa using fin)
    simp (disch := omega) only [x270_240, x270_241, x270_242, x270_243, x270_244, x270_245, x270_246, x270_247, x270_248, x270_249, x270_250, x270_251, x270_252, x270_253, x270_254, x270_255, x270_256, x270_257, x270_258, x270_259, x270_260, x270_261, ct_c, ct_z, cat_I, cat_J, cat_A, lq_I, lq_A, lq_n, Nat.reduceAdd, Nat.reduceLeDiff, true_and, and_true, true_or, or_true, ev_b, eq_self, Option.toList_some, Option.toList_none, List.cons_append, List.nil_append, ld4, rc32, rc80, sw_id, ↓ok_and]
    exact key2
  simp (disch := omega) only [x270_216, x270_217, x270_218, x270_219, x270_220, x270_221, x270_222, x270_223, x270_224, x270_225, x270_226, x270_227, x270_228, x270_229, x270_230, x270_231, x270_232, x270_233, x270_234, x270_235, x270_236, x270_237, ct_c, ct_z, cat_I, cat_J, cat_A, lq_I, lq_A, lq_n, Nat.reduceAdd, Nat.reduceLeDiff, true_and, and_true, true_or, or_true, ev_b, eq_self, Option.toList_some, Option.toList_none, List.cons_append, List.nil_append, ld4, rc32, rc80, sw_id, ↓ok_and]
  exact key1
theorem lc_1 (hb : 0 ≤ i ∧ i + 6 ≤ L) (hL : L ≤ 3072) (hs : Sim2 (st_S fmt L xs) 60 Ls H 89 151 [.inl ((xs (i + 1).toNat).toInt), .inl ((xs (i + 2).toNat).toInt), .inl ((xs (i + 3).toNat).toInt)] P) (tail : ∀ Ls' H2, P Ls' H2 → Bx (st_S fmt L xs) 60 270 (1302, ([some (.inr (.inr 4)), some (.inr (.inr 32)), some (.inr (.inr 80)), some (.inl i)], ([], (kk0 ++ Ls', H2)))) Q) : Bx (st_S fmt L xs) 60 270 (269, ([some (.inr (.inr 4)), some (.inr (.inr 32)), some (.inr (.inr 80)), some (.inl i)], ([], (kk0 ++ Ls, H)))) Q := by
  have key1 : Ru (st_S fmt L xs) 60 89 [.inr (.inr 32), .inl ((xs (i + 1).toNat).toInt), .inl ((xs (i + 2).toNat).toInt), .inl ((xs (i + 3).toNat).toInt)] (kk0 ++ Ls) H (fun o => Bx (st_S fmt L xs) 60 270 (288, ([some (.inr (.inr 4)), some (.inr (.inr 32)), some (.inr (.inr 80)), some (.inl i)], (o.2.2.toList ++ [], (o.1, o.2.1)))) Q) := by
    refine Ru.mono hs (fun o ho => ?_)
    obtain ⟨Ls', H1, a, rfl, hr⟩ := ho
    have key2 : Ru (st_S fmt L xs) 60 151 [.inr (.inr 80), .inl ((xs (i + 1).toNat).toInt), .inl ((xs (i + 2).toNat).toInt), .inl ((xs (i + 3).toNat).toInt)] (kk0 ++ Ls') H1 (fun o => Bx (st_S fmt L xs) 60 270 (307, ([some (.inr (.inr 4)), some (.inr (.inr 32)), some (.inr (.inr 80)), some (.inl i)], (o.2.2.toList ++ [.inl a], (o.1, o.2.1)))) Q) := hr.mono (fun o2 ho2 => by
      obtain ⟨H2, rfl, hp⟩ := ho2
      have fin := tail Ls' H2 hp
      simp only [x270_307, ct_c, ct_z, cat_I, cat_J, cat_A, lq_I, lq_A, lq_n, Nat.reduceAdd, Nat.reduceLeDiff, true_and, and_true, true_or, or_true, ev_b, eq_self, Option.toList_some, Option.toList_none, List.cons_append, List.nil_append]
      simpa using fin)
    simp (disch := omega) only [x270_288, x270_289, x270_290, x270_291, x270_292, x270_293, x270_294, x270_295, x270_296, x270_297, x270_298, x270_299, x270_300, x270_301, x270_302, x270_303, x270_304, ct_c, ct_z, cat_I, cat_J, cat_A, lq_I, lq_A, lq_n, Nat.reduceAdd, Nat.reduceLeDiff, true_and, and_true, true_or, or_true, ev_b, eq_self, Option.toList_some, Option.toList_none, List.cons_append, List.nil_append, ld4, rc32, rc80, sw_id, ↓ok_and]
    exact key2
  simp (disch := omega) only [x270_269, x270_270, x270_271, x270_272, x270_273, x270_274, x270_275, x270_276, x270_277, x270_278, x270_279, x270_280, x270_281, x270_282, x270_283, x270_284, x270_285, ct_c, ct_z, cat_I, cat_J, cat_A, lq_I, lq_A, lq_n, Nat.reduceAdd, Nat.reduceLeDiff, true_and, and_true, true_or, or_true, ev_b, eq_self, Option.toList_some, Option.toList_none, List.cons_append, List.nil_append, ld4, rc32, rc80, sw_id, ↓ok_and]
  exact key1
theorem lc_2 (hb : 0 ≤ i ∧ i + 6 ≤ L) (hL : L ≤ 3072) (hs : Sim2 (st_S fmt L xs) 60 Ls H 90 154 [.inl ((xs (i + 1).toNat).toInt), .inl ((xs (i + 2).toNat).toInt)] P) (tail : ∀ Ls' H2, P Ls' H2 → Bx (st_S fmt L xs) 60 270 (1302, ([some (.inr (.inr 4)), some (.inr (.inr 32)), some (.inr (.inr 80)), some (.inl i)], ([], (kk0 ++ Ls', H2)))) Q) : Bx (st_S fmt L xs) 60 270 (312, ([some (.inr (.inr 4)), some (.inr (.inr 32)), some (.inr (.inr 80)), some (.inl i)], ([], (kk0 ++ Ls, H)))) Q := by
  have key1 : Ru (st_S fmt L xs) 60 90 [.inr (.inr 32), .inl ((xs (i + 1).toNat).toInt), .inl ((xs (i + 2).toNat).toInt)] (kk0 ++ Ls) H (fun o => Bx (st_S fmt L xs) 60 270 (326, ([some (.inr (.inr 4)), some (.inr (.inr 32)), some (.inr (.inr 80)), some (.inl i)], (o.2.2.toList ++ [], (o.1, o.2.1)))) Q) := by
    refine Ru.mono hs (fun o ho => ?_)
    obtain ⟨Ls', H1, a, rfl, hr⟩ := ho
    have key2 : Ru (st_S fmt L xs) 60 154 [.inr (.inr 80), .inl ((xs (i + 1).toNat).toInt), .inl ((xs (i + 2).toNat).toInt)] (kk0 ++ Ls') H1 (fun o => Bx (st_S fmt L xs) 60 270 (340, ([some (.inr (.inr 4)), some (.inr (.inr 32)), some (.inr (.inr 80)), some (.inl i)], (o.2.2.toList ++ [.inl a], (o.1, o.2.1)))) Q) := hr.mono (fun o2 ho2 => by
      obtain ⟨H2, rfl, hp⟩ := ho2
      have fin := tail Ls' H2 hp
      simp only [x270_340, ct_c, ct_z, cat_I, cat_J, cat_A, lq_I, lq_A, lq_n, Nat.reduceAdd, Nat.reduceLeDiff, true_and, and_true, true_or, or_true, ev_b, eq_self, Option.toList_some, Option.toList_none, List.cons_append, List.nil_append]
      simpa using fin)
    simp (disch := omega) only [x270_326, x270_327, x270_328, x270_329, x270_330, x270_331, x270_332, x270_333, x270_334, x270_335, x270_336, x270_337, ct_c, ct_z, cat_I, cat_J, cat_A, lq_I, lq_A, lq_n, Nat.reduceAdd, Nat.reduceLeDiff, true_and, and_true, true_or, or_true, ev_b, eq_self, Option.toList_some, Option.toList_none, List.cons_append, List.nil_append, ld4, rc32, rc80, sw_id, ↓ok_and]
    exact key2
  simp (disch := omega) only [x270_312, x270_313, x270_314, x270_315, x270_316, x270_317, x270_318, x270_319, x270_320, x270_321, x270_322, x270_323, ct_c, ct_z, cat_I, cat_J, cat_A, lq_I, lq_A, lq_n, Nat.reduceAdd, Nat.reduceLeDiff, true_and, and_true, true_or, or_true, ev_b, eq_self, Option.toList_some, Option.toList_none, List.cons_append, List.nil_append, ld4, rc32, rc80, sw_id, ↓ok_and]
  exact key1
theorem lc_3 (hb : 0 ≤ i ∧ i + 6 ≤ L) (hL : L ≤ 3072) (hs : Sim2 (st_S fmt L xs) 60 Ls H 91 155 [.inl ((xs (i + 1).toNat).toInt), .inl ((xs (i + 2).toNat).toInt)] P) (tail : ∀ Ls' H2, P Ls' H2 → Bx (st_S fmt L xs) 60 270 (1302, ([some (.inr (.inr 4)), some (.inr (.inr 32)), some (.inr (.inr 80)), some (.inl i)], ([], (kk0 ++ Ls', H2)))) Q) : Bx (st_S fmt L xs) 60 270 (345, ([some (.inr (.inr 4)), some (.inr (.inr 32)), some (.inr (.inr 80)), some (.inl i)], ([], (kk0 ++ Ls, H)))) Q := by
  have key1 : Ru (st_S fmt L xs) 60 91 [.inr (.inr 32), .inl ((xs (i + 1).toNat).toInt), .inl ((xs (i + 2).toNat).toInt)] (kk0 ++ Ls) H (fun o => Bx (st_S fmt L xs) 60 270 (359, ([some (.inr (.inr 4)), some (.inr (.inr 32)), some (.inr (.inr 80)), some (.inl i)], (o.2.2.toList ++ [], (o.1, o.2.1)))) Q) := by
    refine Ru.mono hs (fun o ho => ?_)
    obtain ⟨Ls', H1, a, rfl, hr⟩ := ho
    have key2 : Ru (st_S fmt L xs) 60 155 [.inr (.inr 80), .inl ((xs (i + 1).toNat).toInt), .inl ((xs (i + 2).toNat).toInt)] (kk0 ++ Ls') H1 (fun o => Bx (st_S fmt L xs) 60 270 (373, ([some (.inr (.inr 4)), some (.inr (.inr 32)), some (.inr (.inr 80)), some (.inl i)], (o.2.2.toList ++ [.inl a], (o.1, o.2.1)))) Q) := hr.mono (fun o2 ho2 => by
      obtain ⟨H2, rfl, hp⟩ := ho2
      have fin := tail Ls' H2 hp
      simp only [x270_373, ct_c, ct_z, cat_I, cat_J, cat_A, lq_I, lq_A, lq_n, Nat.reduceAdd, Nat.reduceLeDiff, true_and, and_true, true_or, or_true, ev_b, eq_self, Option.toList_some, Option.toList_none, List.cons_append, List.nil_append]
      simpa using fin)
    simp (disch := omega) only [x270_359, x270_360, x270_361, x270_362, x270_363, x270_364, x270_365, x270_366, x270_367, x270_368, x270_369, x270_370, ct_c, ct_z, cat_I, cat_J, cat_A, lq_I, lq_A, lq_n, Nat.reduceAdd, Nat.reduceLeDiff, true_and, and_true, true_or, or_true, ev_b, eq_self, Option.toList_some, Option.toList_none, List.cons_append, List.nil_append, ld4, rc32, rc80, sw_id, ↓ok_and]
    exact key2
  simp (disch := omega) only [x270_345, x270_346, x270_347, x270_348, x270_349, x270_350, x270_351, x270_352, x270_353, x270_354, x270_355, x270_356, ct_c, ct_z, cat_I, cat_J, cat_A, lq_I, lq_A, lq_n, Nat.reduceAdd, Nat.reduceLeDiff, true_and, and_true, true_or, or_true, ev_b, eq_self, Option.toList_some, Option.toList_none, List.cons_append, List.nil_append, ld4, rc32, rc80, sw_id, ↓ok_and]
  exact key1
theorem lc_4 (hb : 0 ≤ i ∧ i + 6 ≤ L) (hL : L ≤ 3072) (hs : Sim2 (st_S fmt L xs) 60 Ls H 92 156 [.inl ((xs (i + 1).toNat).toInt), .inl ((xs (i + 2).toNat).toInt)] P) (tail : ∀ Ls' H2, P Ls' H2 → Bx (st_S fmt L xs) 60 270 (1302, ([some (.inr (.inr 4)), some (.inr (.inr 32)), some (.inr (.inr 80)), some (.inl i)], ([], (kk0 ++ Ls', H2)))) Q) : Bx (st_S fmt L xs) 60 270 (378, ([some (.inr (.inr 4)), some (.inr (.inr 32)), some (.inr (.inr 80)), some (.inl i)], ([], (kk0 ++ Ls, H)))) Q := by
  have key1 : Ru (st_S fmt L xs) 60 92 [.inr (.inr 32), .inl ((xs (i + 1).toNat).toInt), .inl ((xs (i + 2).toNat).toInt)] (kk0 ++ Ls) H (fun o => Bx (st_S fmt L xs) 60 270 (392, ([some (.inr (.inr 4)), some (.inr (.inr 32)), some (.inr (.inr 80)), some (.inl i)], (o.2.2.toList ++ [], (o.1, o.2.1)))) Q) := by
    refine Ru.mono hs (fun o ho => ?_)
    obtain ⟨Ls', H1, a, rfl, hr⟩ := ho
    have key2 : Ru (st_S fmt L xs) 60 156 [.inr (.inr 80), .inl ((xs (i + 1).toNat).toInt), .inl ((xs (i + 2).toNat).toInt)] (kk0 ++ Ls') H1 (fun o => Bx (st_S fmt L xs) 60 270 (406, ([some (.inr (.inr 4)), some (.inr (.inr 32)), some (.inr (.inr 80)), some (.inl i)], (o.2.2.toList ++ [.inl a], (o.1, o.2.1)))) Q) := hr.mono (fun o2 ho2 => by
      obtain ⟨H2, rfl, hp⟩ := ho2
      have fin := tail Ls' H2 hp
      simp only [x270_406, ct_c, ct_z, cat_I, cat_J, cat_A, lq_I, lq_A, lq_n, Nat.reduceAdd, Nat.reduceLeDiff, true_and, and_true, true_or, or_true, ev_b, eq_self, Option.toList_some, Option.toList_none, List.cons_append, List.nil_append]
      simpa using fin)
    simp (disch := omega) only [x270_392, x270_393, x270_394, x270_395, x270_396, x270_397, x270_398, x270_399, x270_400, x270_401, x270_402, x270_403, ct_c, ct_z, cat_I, cat_J, cat_A, lq_I, lq_A, lq_n, Nat.reduceAdd, Nat.reduceLeDiff, true_and, and_true, true_or, or_true, ev_b, eq_self, Option.toList_some, Option.toList_none, List.cons_append, List.nil_append, ld4, rc32, rc80, sw_id, ↓ok_and]
    exact key2
  simp (disch := omega) only [x270_378, x270_379, x270_380, x270_381, x270_382, x270_383, x270_384, x270_385, x270_386, x270_387, x270_388, x270_389, ct_c, ct_z, cat_I, cat_J, cat_A, lq_I, lq_A, lq_n, Nat.reduceAdd, Nat.reduceLeDiff, true_and, and_true, true_or, or_true, ev_b, eq_self, Option.toList_some, Option.toList_none, List.cons_append, List.nil_append, ld4, rc32, rc80, sw_id, ↓ok_and]
  exact key1
theorem lc_5 (hb : 0 ≤ i ∧ i + 6 ≤ L) (hL : L ≤ 3072) (hs : Sim2 (st_S fmt L xs) 60 Ls H 93 157 [.inl ((xs (i + 1).toNat).toInt)] P) (tail : ∀ Ls' H2, P Ls' H2 → Bx (st_S fmt L xs) 60 270 (1302, ([some (.inr (.inr 4)), some (.inr (.inr 32)), some (.inr (.inr 80)), some (.inl i)], ([], (kk0 ++ Ls', H2)))) Q) : Bx (st_S fmt L xs) 60 270 (411, ([some (.inr (.inr 4)), some (.inr (.inr 32)), some (.inr (.inr 80)), some (.inl i)], ([], (kk0 ++ Ls, H)))) Q := by
  have key1 : Ru (st_S fmt L xs) 60 93 [.inr (.inr 32), .inl ((xs (i + 1).toNat).toInt)] (kk0 ++ Ls) H (fun o => Bx (st_S fmt L xs) 60 270 (420, ([some (.inr (.inr 4)), some (.inr (.inr 32)), some (.inr (.inr 80)), some (.inl i)], (o.2.2.toList ++ [], (o.1, o.2.1)))) Q) := by
    refine Ru.mono hs (fun o ho => ?_)
    obtain ⟨Ls', H1, a, rfl, hr⟩ := ho
    have key2 : Ru (st_S fmt L xs) 60 157 [.inr (.inr 80), .inl ((xs (i + 1).toNat).toInt)] (kk0 ++ Ls') H1 (fun o => Bx (st_S fmt L xs) 60 270 (429, ([some (.inr (.inr 4)), some (.inr (.inr 32)), some (.inr (.inr 80)), some (.inl i)], (o.2.2.toList ++ [.inl a], (o.1, o.2.1)))) Q) := hr.mono (fun o2 ho2 => by
      obtain ⟨H2, rfl, hp⟩ := ho2
      have fin := tail Ls' H2 hp
      simp only [x270_429, ct_c, ct_z, cat_I, cat_J, cat_A, lq_I, lq_A, lq_n, Nat.reduceAdd, Nat.reduceLeDiff, true_and, and_true, true_or, or_true, ev_b, eq_self, Option.toList_some, Option.toList_none, List.cons_append, List.nil_append]
      simpa using fin)
    simp (disch := omega) only [x270_420, x270_421, x270_422, x270_423, x270_424, x270_425, x270_426, ct_c, ct_z, cat_I, cat_J, cat_A, lq_I, lq_A, lq_n, Nat.reduceAdd, Nat.reduceLeDiff, true_and, and_true, true_or, or_true, ev_b, eq_self, Option.toList_some, Option.toList_none, List.cons_append, List.nil_append, ld4, rc32, rc80, sw_id, ↓ok_and]
    exact key2
  simp (disch := omega) only [x270_411, x270_412, x270_413, x270_414, x270_415, x270_416, x270_417, ct_c, ct_z, cat_I, cat_J, cat_A, lq_I, lq_A, lq_n, Nat.reduceAdd, Nat.reduceLeDiff, true_and, and_true, true_or, or_true, ev_b, eq_self, Option.toList_some, Option.toList_none, List.cons_append, List.nil_append, ld4, rc32, rc80, sw_id, ↓ok_and]
  exact key1
theorem lc_6 (hb : 0 ≤ i ∧ i + 6 ≤ L) (hL : L ≤ 3072) (hs : Sim2 (st_S fmt L xs) 60 Ls H 94 158 [.inl ((xs (i + 1).toNat).toInt)] P) (tail : ∀ Ls' H2, P Ls' H2 → Bx (st_S fmt L xs) 60 270 (1302, ([some (.inr (.inr 4)), some (.inr (.inr 32)), some (.inr (.inr 80)), some (.inl i)], ([], (kk0 ++ Ls', H2)))) Q) : Bx (st_S fmt L xs) 60 270 (434, ([some (.inr (.inr 4)), some (.inr (.inr 32)), some (.inr (.inr 80)), some (.inl i)], ([], (kk0 ++ Ls, H)))) Q := by
  have key1 : Ru (st_S fmt L xs) 60 94 [.inr (.inr 32), .inl ((xs (i + 1).toNat).toInt)] (kk0 ++ Ls) H (fun o => Bx (st_S fmt L xs) 60 270 (443, ([some (.inr (.inr 4)), some (.inr (.inr 32)), some (.inr (.inr 80)), some (.inl i)], (o.2.2.toList ++ [], (o.1, o.2.1)))) Q) := by
    refine Ru.mono hs (fun o ho => ?_)
    obtain ⟨Ls', H1, a, rfl, hr⟩ := ho
    have key2 : Ru (st_S fmt L xs) 60 158 [.inr (.inr 80), .inl ((xs (i + 1).toNat).toInt)] (kk0 ++ Ls') H1 (fun o => Bx (st_S fmt L xs) 60 270 (452, ([some (.inr (.inr 4)), some (.inr (.inr 32)), some (.inr (.inr 80)), some (.inl i)], (o.2.2.toList ++ [.inl a], (o.1, o.2.1)))) Q) := hr.mono (fun o2 ho2 => by
      obtain ⟨H2, rfl, hp⟩ := ho2
      have fin := tail Ls' H2 hp
      simp only [x270_452, ct_c, ct_z, cat_I, cat_J, cat_A, lq_I, lq_A, lq_n, Nat.reduceAdd, Nat.reduceLeDiff, true_and, and_true, true_or, or_true, ev_b, eq_self, Option.toList_some, Option.toList_none, List.cons_append, List.nil_append]
      simpa using fin)
    simp (disch := omega) only [x270_443, x270_444, x270_445, x270_446, x270_447, x270_448, x270_449, ct_c, ct_z, cat_I, cat_J, cat_A, lq_I, lq_A, lq_n, Nat.reduceAdd, Nat.reduceLeDiff, true_and, and_true, true_or, or_true, ev_b, eq_self, Option.toList_some, Option.toList_none, List.cons_append, List.nil_append, ld4, rc32, rc80, sw_id, ↓ok_and]
    exact key2
  simp (disch := omega) only [x270_434, x270_435, x270_436, x270_437, x270_438, x270_439, x270_440, ct_c, ct_z, cat_I, cat_J, cat_A, lq_I, lq_A, lq_n, Nat.reduceAdd, Nat.reduceLeDiff, true_and, and_true, true_or, or_true, ev_b, eq_self, Option.toList_some, Option.toList_none, List.cons_append, List.nil_append, ld4, rc32, rc80, sw_id, ↓ok_and]
  exact key1
theorem lc_7 (hb : 0 ≤ i ∧ i + 6 ≤ L) (hL : L ≤ 3072) (hs : Sim2 (st_S fmt L xs) 60 Ls H 95 159 [.inl ((xs (i + 1).toNat).toInt)] P) (tail : ∀ Ls' H2, P Ls' H2 → Bx (st_S fmt L xs) 60 270 (1302, ([some (.inr (.inr 4)), some (.inr (.inr 32)), some (.inr (.inr 80)), some (.inl i)], ([], (kk0 ++ Ls', H2)))) Q) : Bx (st_S fmt L xs) 60 270 (457, ([some (.inr (.inr 4)), some (.inr (.inr 32)), some (.inr (.inr 80)), some (.inl i)], ([], (kk0 ++ Ls, H)))) Q := by
  have key1 : Ru (st_S fmt L xs) 60 95 [.inr (.inr 32), .inl ((xs (i + 1).toNat).toInt)] (kk0 ++ Ls) H (fun o => Bx (st_S fmt L xs) 60 270 (466, ([some (.inr (.inr 4)), some (.inr (.inr 32)), some (.inr (.inr 80)), some (.inl i)], (o.2.2.toList ++ [], (o.1, o.2.1)))) Q) := by
    refine Ru.mono hs (fun o ho => ?_)
    obtain ⟨Ls', H1, a, rfl, hr⟩ := ho
    have key2 : Ru (st_S fmt L xs) 60 159 [.inr (.inr 80), .inl ((xs (i + 1).toNat).toInt)] (kk0 ++ Ls') H1 (fun o => Bx (st_S fmt L xs) 60 270 (475, ([some (.inr (.inr 4)), some (.inr (.inr 32)), some (.inr (.inr 80)), some (.inl i)], (o.2.2.toList ++ [.inl a], (o.1, o.2.1)))) Q) := hr.mono (fun o2 ho2 => by
      obtain ⟨H2, rfl, hp⟩ := ho2
      have fin := tail Ls' H2 hp
      simp only [x270_475, ct_c, ct_z, cat_I, cat_J, cat_A, lq_I, lq_A, lq_n, Nat.reduceAdd, Nat.reduceLeDiff, true_and, and_true, true_or, or_true, ev_b, eq_self, Option.toList_some, Option.toList_none, List.cons_append, List.nil_append]
      simpa using fin)
    simp (disch := omega) only [x270_466, x270_467, x270_468, x270_469, x270_470, x270_471, x270_472, ct_c, ct_z, cat_I, cat_J, cat_A, lq_I, lq_A, lq_n, Nat.reduceAdd, Nat.reduceLeDiff, true_and, and_true, true_or, or_true, ev_b, eq_self, Option.toList_some, Option.toList_none, List.cons_append, List.nil_append, ld4, rc32, rc80, sw_id, ↓ok_and]
    exact key2
  simp (disch := omega) only [x270_457, x270_458, x270_459, x270_460, x270_461, x270_462, x270_463, ct_c, ct_z, cat_I, cat_J, cat_A, lq_I, lq_A, lq_n, Nat.reduceAdd, Nat.reduceLeDiff, true_and, and_true, true_or, or_true, ev_b, eq_self, Option.toList_some, Option.toList_none, List.cons_append, List.nil_append, ld4, rc32, rc80, sw_id, ↓ok_and]
  exact key1
theorem lc_8 (hb : 0 ≤ i ∧ i + 6 ≤ L) (hL : L ≤ 3072) (hs : Sim2 (st_S fmt L xs) 60 Ls H 96 167 [.inl ((xs (i + 1).toNat).toInt), .inl ((xs (i + 2).toNat).toInt), .inl ((xs (i + 3).toNat).toInt), .inl ((xs (i + 4).toNat).toInt), .inl ((xs (i + 5).toNat).toInt)] P) (tail : ∀ Ls' H2, P Ls' H2 → Bx (st_S fmt L xs) 60 270 (1302, ([some (.inr (.inr 4)), some (.inr (.inr 32)), some (.inr (.inr 80)), some (.inl i)], ([], (kk0 ++ Ls', H2)))) Q) : Bx (st_S fmt L xs) 60 270 (480, ([some (.inr (.inr 4)), some (.inr (.inr 32)), some (.inr (.inr 80)), some (.inl i)], ([], (kk0 ++ Ls, H)))) Q := by
  have key1 : Ru (st_S fmt L xs) 60 96 [.inr (.inr 32), .inl ((xs (i + 1).toNat).toInt), .inl ((xs (i + 2).toNat).toInt), .inl ((xs (i + 3).toNat).toInt), .inl ((xs (i + 4).toNat).toInt), .inl ((xs (i + 5).toNat).toInt)] (kk0 ++ Ls) H (fun o => Bx (st_S fmt L xs) 60 270 (509, ([some (.inr (.inr 4)), some (.inr (.inr 32)), some (.inr (.inr 80)), some (.inl i)], (o.2.2.toList ++ [], (o.1, o.2.1)))) Q) := by
    refine Ru.mono hs (fun o ho => ?_)
    obtain ⟨Ls', H1, a, rfl, hr⟩ := ho
    have key2 : Ru (st_S fmt L xs) 60 167 [.inr (.inr 80), .inl ((xs (i + 1).toNat).toInt), .inl ((xs (i + 2).toNat).toInt), .inl ((xs (i + 3).toNat).toInt), .inl ((xs (i + 4).toNat).toInt), .inl ((xs (i + 5).toNat).toInt)] (kk0 ++ Ls') H1 (fun o => Bx (st_S fmt L xs) 60 270 (538, ([some (.inr (.inr 4)), some (.inr (.inr 32)), some (.inr (.inr 80)), some (.inl i)], (o.2.2.toList ++ [.inl a], (o.1, o.2.1)))) Q) := hr.mono (fun o2 ho2 => by
      obtain ⟨H2, rfl, hp⟩ := ho2
      have fin := tail Ls' H2 hp
      simp only [x270_538, ct_c, ct_z, cat_I, cat_J, cat_A, lq_I, lq_A, lq_n, Nat.reduceAdd, Nat.reduceLeDiff, true_and, and_true, true_or, or_true, ev_b, eq_self, Option.toList_some, Option.toList_none, List.cons_append, List.nil_append]
      simpa using fin)
    simp (disch := omega) only [x270_509, x270_510, x270_511, x270_512, x270_513, x270_514, x270_515, x270_516, x270_517, x270_518, x270_519, x270_520, x270_521, x270_522, x270_523, x270_524, x270_525, x270_526, x270_527, x270_528, x270_529, x270_530, x270_531, x270_532, x270_533, x270_534, x270_535, ct_c, ct_z, cat_I, cat_J, cat_A, lq_I, lq_A, lq_n, Nat.reduceAdd, Nat.reduceLeDiff, true_and, and_true, true_or, or_true, ev_b, eq_self, Option.toList_some, Option.toList_none, List.cons_append, List.nil_append, ld4, rc32, rc80, sw_id, ↓ok_and]
    exact key2
  simp (disch := omega) only [x270_480, x270_481, x270_482, x270_483, x270_484, x270_485, x270_486, x270_487, x270_488, x270_489, x270_490, x270_491, x270_492, x270_493, x270_494, x270_495, x270_496, x270_497, x270_498, x270_499, x270_500, x270_501, x270_502, x270_503, x270_504, x270_505, x270_506, ct_c, ct_z, cat_I, cat_J, cat_A, lq_I, lq_A, lq_n, Nat.reduceAdd, Nat.reduceLeDiff, true_and, and_true, true_or, or_true, ev_b, eq_self, Option.toList_some, Option.toList_none, List.cons_append, List.nil_append, ld4, rc32, rc80, sw_id, ↓ok_and]
  exact key1
theorem lc_9 (hb : 0 ≤ i ∧ i + 6 ≤ L) (hL : L ≤ 3072) (hs : Sim2 (st_S fmt L xs) 60 Ls H 98 168 [.inl ((xs (i + 1).toNat).toInt)] P) (tail : ∀ Ls' H2, P Ls' H2 → Bx (st_S fmt L xs) 60 270 (1302, ([some (.inr (.inr 4)), some (.inr (.inr 32)), some (.inr (.inr 80)), some (.inl i)], ([], (kk0 ++ Ls', H2)))) Q) : Bx (st_S fmt L xs) 60 270 (543, ([some (.inr (.inr 4)), some (.inr (.inr 32)), some (.inr (.inr 80)), some (.inl i)], ([], (kk0 ++ Ls, H)))) Q := by
  have key1 : Ru (st_S fmt L xs) 60 98 [.inr (.inr 32), .inl ((xs (i + 1).toNat).toInt)] (kk0 ++ Ls) H (fun o => Bx (st_S fmt L xs) 60 270 (552, ([some (.inr (.inr 4)), some (.inr (.inr 32)), some (.inr (.inr 80)), some (.inl i)], (o.2.2.toList ++ [], (o.1, o.2.1)))) Q) := by
    refine Ru.mono hs (fun o ho => ?_)
    obtain ⟨Ls', H1, a, rfl, hr⟩ := ho
    have key2 : Ru (st_S fmt L xs) 60 168 [.inr (.inr 80), .inl ((xs (i + 1).toNat).toInt)] (kk0 ++ Ls') H1 (fun o => Bx (st_S fmt L xs) 60 270 (561, ([some (.inr (.inr 4)), some (.inr (.inr 32)), some (.inr (.inr 80)), some (.inl i)], (o.2.2.toList ++ [.inl a], (o.1, o.2.1)))) Q) := hr.mono (fun o2 ho2 => by
      obtain ⟨H2, rfl, hp⟩ := ho2
      have fin := tail Ls' H2 hp
      simp only [x270_561, ct_c, ct_z, cat_I, cat_J, cat_A, lq_I, lq_A, lq_n, Nat.reduceAdd, Nat.reduceLeDiff, true_and, and_true, true_or, or_true, ev_b, eq_self, Option.toList_some, Option.toList_none, List.cons_append, List.nil_append]
      simpa using fin)
    simp (disch := omega) only [x270_552, x270_553, x270_554, x270_555, x270_556, x270_557, x270_558, ct_c, ct_z, cat_I, cat_J, cat_A, lq_I, lq_A, lq_n, Nat.reduceAdd, Nat.reduceLeDiff, true_and, and_true, true_or, or_true, ev_b, eq_self, Option.toList_some, Option.toList_none, List.cons_append, List.nil_append, ld4, rc32, rc80, sw_id, ↓ok_and]
    exact key2
  simp (disch := omega) only [x270_543, x270_544, x270_545, x270_546, x270_547, x270_548, x270_549, ct_c, ct_z, cat_I, cat_J, cat_A, lq_I, lq_A, lq_n, Nat.reduceAdd, Nat.reduceLeDiff, true_and, and_true, true_or, or_true, ev_b, eq_self, Option.toList_some, Option.toList_none, List.cons_append, List.nil_append, ld4, rc32, rc80, sw_id, ↓ok_and]
  exact key1
theorem lc_10 (hb : 0 ≤ i ∧ i + 6 ≤ L) (hL : L ≤ 3072) (hs : Sim2 (st_S fmt L xs) 60 Ls H 99 161 [.inl ((xs (i + 1).toNat).toInt), .inl ((xs (i + 2).toNat).toInt)] P) (tail : ∀ Ls' H2, P Ls' H2 → Bx (st_S fmt L xs) 60 270 (1302, ([some (.inr (.inr 4)), some (.inr (.inr 32)), some (.inr (.inr 80)), some (.inl i)], ([], (kk0 ++ Ls', H2)))) Q) : Bx (st_S fmt L xs) 60 270 (566, ([some (.inr (.inr 4)), some (.inr (.inr 32)), some (.inr (.inr 80)), some (.inl i)], ([], (kk0 ++ Ls, H)))) Q := by
  have key1 : Ru (st_S fmt L xs) 60 99 [.inr (.inr 32), .inl ((xs (i + 1).toNat).toInt), .inl ((xs (i + 2).toNat).toInt)] (kk0 ++ Ls) H (fun o => Bx (st_S fmt L xs) 60 270 (580, ([some (.inr (.inr 4)), some (.inr (.inr 32)), some (.inr (.inr 80)), some (.inl i)], (o.2.2.toList ++ [], (o.1, o.2.1)))) Q) := by
    refine Ru.mono hs (fun o ho => ?_)
    obtain ⟨Ls', H1, a, rfl, hr⟩ := ho
    have key2 : Ru (st_S fmt L xs) 60 161 [.inr (.inr 80), .inl ((xs (i + 1).toNat).toInt), .inl ((xs (i + 2).toNat).toInt)] (kk0 ++ Ls') H1 (fun o => Bx (st_S fmt L xs) 60 270 (594, ([some (.inr (.inr 4)), some (.inr (.inr 32)), some (.inr (.inr 80)), some (.inl i)], (o.2.2.toList ++ [.inl a], (o.1, o.2.1)))) Q) := hr.mono (fun o2 ho2 => by
      obtain ⟨H2, rfl, hp⟩ := ho2
      have fin := tail Ls' H2 hp
      simp only [x270_594, ct_c, ct_z, cat_I, cat_J, cat_A, lq_I, lq_A, lq_n, Nat.reduceAdd, Nat.reduceLeDiff, true_and, and_true, true_or, or_true, ev_b, eq_self, Option.toList_some, Option.toList_none, List.cons_append, List.nil_append]
      simpa using fin)
    simp (disch := omega) only [x270_580, x270_581, x270_582, x270_583, x270_584, x270_585, x270_586, x270_587, x270_588, x270_589, x270_590, x270_591, ct_c, ct_z, cat_I, cat_J, cat_A, lq_I, lq_A, lq_n, Nat.reduceAdd, Nat.reduceLeDiff, true_and, and_true, true_or, or_true, ev_b, eq_self, Option.toList_some, Option.toList_none, List.cons_append, List.nil_append, ld4, rc32, rc80, sw_id, ↓ok_and]
    exact key2
  simp (disch := omega) only [x270_566, x270_567, x270_568, x270_569, x270_570, x270_571, x270_572, x270_573, x270_574, x270_575, x270_576, x270_577, ct_c, ct_z, cat_I, cat_J, cat_A, lq_I, lq_A, lq_n, Nat.reduceAdd, Nat.reduceLeDiff, true_and, and_true, true_or, or_true, ev_b, eq_self, Option.toList_some, Option.toList_none, List.cons_append, List.nil_append, ld4, rc32, rc80, sw_id, ↓ok_and]
  exact key1
theorem lc_11 (hb : 0 ≤ i ∧ i + 6 ≤ L) (hL : L ≤ 3072) (hs : Sim2 (st_S fmt L xs) 60 Ls H 101 162 [] P) (tail : ∀ Ls' H2, P Ls' H2 → Bx (st_S fmt L xs) 60 270 (1302, ([some (.inr (.inr 4)), some (.inr (.inr 32)), some (.inr (.inr 80)), some (.inl i)], ([], (kk0 ++ Ls', H2)))) Q) : Bx (st_S fmt L xs) 60 270 (599, ([some (.inr (.inr 4)), some (.inr (.inr 32)), some (.inr (.inr 80)), some (.inl i)], ([], (kk0 ++ Ls, H)))) Q := by
  have key1 : Ru (st_S fmt L xs) 60 101 [.inr (.inr 32)] (kk0 ++ Ls) H (fun o => Bx (st_S fmt L xs) 60 270 (603, ([some (.inr (.inr 4)), some (.inr (.inr 32)), some (.inr (.inr 80)), some (.inl i)], (o.2.2.toList ++ [], (o.1, o.2.1)))) Q) := by
    refine Ru.mono hs (fun o ho => ?_)
    obtain ⟨Ls', H1, a, rfl, hr⟩ := ho
    have key2 : Ru (st_S fmt L xs) 60 162 [.inr (.inr 80)] (kk0 ++ Ls') H1 (fun o => Bx (st_S fmt L xs) 60 270 (607, ([some (.inr (.inr 4)), some (.inr (.inr 32)), some (.inr (.inr 80)), some (.inl i)], (o.2.2.toList ++ [.inl a], (o.1, o.2.1)))) Q) := hr.mono (fun o2 ho2 => by
      obtain ⟨H2, rfl, hp⟩ := ho2
      have fin := tail Ls' H2 hp
      simp only [x270_607, ct_c, ct_z, cat_I, cat_J, cat_A, lq_I, lq_A, lq_n, Nat.reduceAdd, Nat.reduceLeDiff, true_and, and_true, true_or, or_true, ev_b, eq_self, Option.toList_some, Option.toList_none, List.cons_append, List.nil_append]
      simpa using fin)
    simp (disch := omega) only [x270_603, x270_604, ct_c, ct_z, cat_I, cat_J, cat_A, lq_I, lq_A, lq_n, Nat.reduceAdd, Nat.reduceLeDiff, true_and, and_true, true_or, or_true, ev_b, eq_self, Option.toList_some, Option.toList_none, List.cons_append, List.nil_append, ld4, rc32, rc80, sw_id, ↓ok_and]
    exact key2
  simp (disch := omega) only [x270_599, x270_600, ct_c, ct_z, cat_I, cat_J, cat_A, lq_I, lq_A, lq_n, Nat.reduceAdd, Nat.reduceLeDiff, true_and, and_true, true_or, or_true, ev_b, eq_self, Option.toList_some, Option.toList_none, List.cons_append, List.nil_append, ld4, rc32, rc80, sw_id, ↓ok_and]
  exact key1
theorem lc_12 (hb : 0 ≤ i ∧ i + 6 ≤ L) (hL : L ≤ 3072) (hs : Sim2 (st_S fmt L xs) 60 Ls H 102 165 [.inl ((xs (i + 1).toNat).toInt), .inl ((xs (i + 2).toNat).toInt)] P) (tail : ∀ Ls' H2, P Ls' H2 → Bx (st_S fmt L xs) 60 270 (1302, ([some (.inr (.inr 4)), some (.inr (.inr 32)), some (.inr (.inr 80)), some (.inl i)], ([], (kk0 ++ Ls', H2)))) Q) : Bx (st_S fmt L xs) 60 270 (612, ([some (.inr (.inr 4)), some (.inr (.inr 32)), some (.inr (.inr 80)), some (.inl i)], ([], (kk0 ++ Ls, H)))) Q := by
  have key1 : Ru (st_S fmt L xs) 60 102 [.inr (.inr 32), .inl ((xs (i + 1).toNat).toInt), .inl ((xs (i + 2).toNat).toInt)] (kk0 ++ Ls) H (fun o => Bx (st_S fmt L xs) 60 270 (626, ([some (.inr (.inr 4)), some (.inr (.inr 32)), some (.inr (.inr 80)), some (.inl i)], (o.2.2.toList ++ [], (o.1, o.2.1)))) Q) := by
    refine Ru.mono hs (fun o ho => ?_)
    obtain ⟨Ls', H1, a, rfl, hr⟩ := ho
    have key2 : Ru (st_S fmt L xs) 60 165 [.inr (.inr 80), .inl ((xs (i + 1).toNat).toInt), .inl ((xs (i + 2).toNat).toInt)] (kk0 ++ Ls') H1 (fun o => Bx (st_S fmt L xs) 60 270 (640, ([some (.inr (.inr 4)), some (.inr (.inr 32)), some (.inr (.inr 80)), some (.inl i)], (o.2.2.toList ++ [.inl a], (o.1, o.2.1)))) Q) := hr.mono (fun o2 ho2 => by
      obtain ⟨H2, rfl, hp⟩ := ho2
      have fin := tail Ls' H2 hp
      simp only [x270_640, ct_c, ct_z, cat_I, cat_J, cat_A, lq_I, lq_A, lq_n, Nat.reduceAdd, Nat.reduceLeDiff, true_and, and_true, true_or, or_true, ev_b, eq_self, Option.toList_some, Option.toList_none, List.cons_append, List.nil_append]
      simpa using fin)
    simp (disch := omega) only [x270_626, x270_627, x270_628, x270_629, x270_630, x270_631, x270_632, x270_633, x270_634, x270_635, x270_636, x270_637, ct_c, ct_z, cat_I, cat_J, cat_A, lq_I, lq_A, lq_n, Nat.reduceAdd, Nat.reduceLeDiff, true_and, and_true, true_or, or_true, ev_b, eq_self, Option.toList_some, Option.toList_none, List.cons_append, List.nil_append, ld4, rc32, rc80, sw_id, ↓ok_and]
    exact key2
  simp (disch := omega) only [x270_612, x270_613, x270_614, x270_615, x270_616, x270_617, x270_618, x270_619, x270_620, x270_621, x270_622, x270_623, ct_c, ct_z, cat_I, cat_J, cat_A, lq_I, lq_A, lq_n, Nat.reduceAdd, Nat.reduceLeDiff, true_and, and_true, true_or, or_true, ev_b, eq_self, Option.toList_some, Option.toList_none, List.cons_append, List.nil_append, ld4, rc32, rc80, sw_id, ↓ok_and]
  exact key1
theorem lc_13 (hb : 0 ≤ i ∧ i + 6 ≤ L) (hL : L ≤ 3072) (hs : Sim2 (st_S fmt L xs) 60 Ls H 103 192 [] P) (tail : ∀ Ls' H2, P Ls' H2 → Bx (st_S fmt L xs) 60 270 (1302, ([some (.inr (.inr 4)), some (.inr (.inr 32)), some (.inr (.inr 80)), some (.inl i)], ([], (kk0 ++ Ls', H2)))) Q) : Bx (st_S fmt L xs) 60 270 (645, ([some (.inr (.inr 4)), some (.inr (.inr 32)), some (.inr (.inr 80)), some (.inl i)], ([], (kk0 ++ Ls, H)))) Q := by
  have key1 : Ru (st_S fmt L xs) 60 103 [.inr (.inr 32)] (kk0 ++ Ls) H (fun o => Bx (st_S fmt L xs) 60 270 (649, ([some (.inr (.inr 4)), some (.inr (.inr 32)), some (.inr (.inr 80)), some (.inl i)], (o.2.2.toList ++ [], (o.1, o.2.1)))) Q) := by
    refine Ru.mono hs (fun o ho => ?_)
    obtain ⟨Ls', H1, a, rfl, hr⟩ := ho
    have key2 : Ru (st_S fmt L xs) 60 192 [.inr (.inr 80)] (kk0 ++ Ls') H1 (fun o => Bx (st_S fmt L xs) 60 270 (653, ([some (.inr (.inr 4)), some (.inr (.inr 32)), some (.inr (.inr 80)), some (.inl i)], (o.2.2.toList ++ [.inl a], (o.1, o.2.1)))) Q) := hr.mono (fun o2 ho2 => by
      obtain ⟨H2, rfl, hp⟩ := ho2
      have fin := tail Ls' H2 hp
      simp only [x270_653, ct_c, ct_z, cat_I, cat_J, cat_A, lq_I, lq_A, lq_n, Nat.reduceAdd, Nat.reduceLeDiff, true_and, and_true, true_or, or_true, ev_b, eq_self, Option.toList_some, Option.toList_none, List.cons_append, List.nil_append]
      simpa using fin)
    simp (disch := omega) only [x270_649, x270_650, ct_c, ct_z, cat_I, cat_J, cat_A, lq_I, lq_A, lq_n, Nat.reduceAdd, Nat.reduceLeDiff, true_and, and_true, true_or, or_true, ev_b, eq_self, Option.toList_some, Option.toList_none, List.cons_append, List.nil_append, ld4, rc32, rc80, sw_id, ↓ok_and]
    exact key2
  simp (disch := omega) only [x270_645, x270_646, ct_c, ct_z, cat_I, cat_J, cat_A, lq_I, lq_A, lq_n, Nat.reduceAdd, Nat.reduceLeDiff, true_and, and_true, true_or, or_true, ev_b, eq_self, Option.toList_some, Option.toList_none, List.cons_append, List.nil_append, ld4, rc32, rc80, sw_id, ↓ok_and]
  exact key1
theorem lc_14 (hb : 0 ≤ i ∧ i + 6 ≤ L) (hL : L ≤ 3072) (hs : Sim2 (st_S fmt L xs) 60 Ls H 104 176 [] P) (tail : ∀ Ls' H2, P Ls' H2 → Bx (st_S fmt L xs) 60 270 (1302, ([some (.inr (.inr 4)), some (.inr (.inr 32)), some (.inr (.inr 80)), some (.inl i)], ([], (kk0 ++ Ls', H2)))) Q) : Bx (st_S fmt L xs) 60 270 (658, ([some (.inr (.inr 4)), some (.inr (.inr 32)), some (.inr (.inr 80)), some (.inl i)], ([], (kk0 ++ Ls, H)))) Q := by
  have key1 : Ru (st_S fmt L xs) 60 104 [.inr (.inr 32)] (kk0 ++ Ls) H (fun o => Bx (st_S fmt L xs) 60 270 (662, ([some (.inr (.inr 4)), some (.inr (.inr 32)), some (.inr (.inr 80)), some (.inl i)], (o.2.2.toList ++ [], (o.1, o.2.1)))) Q) := by
    refine Ru.mono hs (fun o ho => ?_)
    obtain ⟨Ls', H1, a, rfl, hr⟩ := ho
    have key2 : Ru (st_S fmt L xs) 60 176 [.inr (.inr 80)] (kk0 ++ Ls') H1 (fun o => Bx (st_S fmt L xs) 60 270 (666, ([some (.inr (.inr 4)), some (.inr (.inr 32)), some (.inr (.inr 80)), some (.inl i)], (o.2.2.toList ++ [.inl a], (o.1, o.2.1)))) Q) := hr.mono (fun o2 ho2 => by
      obtain ⟨H2, rfl, hp⟩ := ho2
      have fin := tail Ls' H2 hp
      simp only [x270_666, ct_c, ct_z, cat_I, cat_J, cat_A, lq_I, lq_A, lq_n, Nat.reduceAdd, Nat.reduceLeDiff, true_and, and_true, true_or, or_true, ev_b, eq_self, Option.toList_some, Option.toList_none, List.cons_append, List.nil_append]
      simpa using fin)
    simp (disch := omega) only [x270_662, x270_663, ct_c, ct_z, cat_I, cat_J, cat_A, lq_I, lq_A, lq_n, Nat.reduceAdd, Nat.reduceLeDiff, true_and, and_true, true_or, or_true, ev_b, eq_self, Option.toList_some, Option.toList_none, List.cons_append, List.nil_append, ld4, rc32, rc80, sw_id, ↓ok_and]
    exact key2
  simp (disch := omega) only [x270_658, x270_659, ct_c, ct_z, cat_I, cat_J, cat_A, lq_I, lq_A, lq_n, Nat.reduceAdd, Nat.reduceLeDiff, true_and, and_true, true_or, or_true, ev_b, eq_self, Option.toList_some, Option.toList_none, List.cons_append, List.nil_append, ld4, rc32, rc80, sw_id, ↓ok_and]
  exact key1
theorem lc_15 (hb : 0 ≤ i ∧ i + 6 ≤ L) (hL : L ≤ 3072) (hs : Sim2 (st_S fmt L xs) 60 Ls H 105 193 [.inl ((xs (i + 1).toNat).toInt)] P) (tail : ∀ Ls' H2, P Ls' H2 → Bx (st_S fmt L xs) 60 270 (1302, ([some (.inr (.inr 4)), some (.inr (.inr 32)), some (.inr (.inr 80)), some (.inl i)], ([], (kk0 ++ Ls', H2)))) Q) : Bx (st_S fmt L xs) 60 270 (671, ([some (.inr (.inr 4)), some (.inr (.inr 32)), some (.inr (.inr 80)), some (.inl i)], ([], (kk0 ++ Ls, H)))) Q := by
  have key1 : Ru (st_S fmt L xs) 60 105 [.inr (.inr 32), .inl ((xs (i + 1).toNat).toInt)] (kk0 ++ Ls) H (fun o => Bx (st_S fmt L xs) 60 270 (680, ([some (.inr (.inr 4)), some (.inr (.inr 32)), some (.inr (.inr 80)), some (.inl i)], (o.2.2.toList ++ [], (o.1, o.2.1)))) Q) := by
    refine Ru.mono hs (fun o ho => ?_)
    obtain ⟨Ls', H1, a, rfl, hr⟩ := ho
    have key2 : Ru (st_S fmt L xs) 60 193 [.inr (.inr 80), .inl ((xs (i + 1).toNat).toInt)] (kk0 ++ Ls') H1 (fun o => Bx (st_S fmt L xs) 60 270 (689, ([some (.inr (.inr 4)), some (.inr (.inr 32)), some (.inr (.inr 80)), some (.inl i)], (o.2.2.toList ++ [.inl a], (o.1, o.2.1)))) Q) := hr.mono (fun o2 ho2 => by
      obtain ⟨H2, rfl, hp⟩ := ho2
      have fin := tail Ls' H2 hp
      simp only [x270_689, ct_c, ct_z, cat_I, cat_J, cat_A, lq_I, lq_A, lq_n, Nat.reduceAdd, Nat.reduceLeDiff, true_and, and_true, true_or, or_true, ev_b, eq_self, Option.toList_some, Option.toList_none, List.cons_append, List.nil_append]
      simpa using fin)
    simp (disch := omega) only [x270_680, x270_681, x270_682, x270_683, x270_684, x270_685, x270_686, ct_c, ct_z, cat_I, cat_J, cat_A, lq_I, lq_A, lq_n, Nat.reduceAdd, Nat.reduceLeDiff, true_and, and_true, true_or, or_true, ev_b, eq_self, Option.toList_some, Option.toList_none, List.cons_append, List.nil_append, ld4, rc32, rc80, sw_id, ↓ok_and]
    exact key2
  simp (disch := omega) only [x270_671, x270_672, x270_673, x270_674, x270_675, x270_676, x270_677, ct_c, ct_z, cat_I, cat_J, cat_A, lq_I, lq_A, lq_n, Nat.reduceAdd, Nat.reduceLeDiff, true_and, and_true, true_or, or_true, ev_b, eq_self, Option.toList_some, Option.toList_none, List.cons_append, List.nil_append, ld4, rc32, rc80, sw_id, ↓ok_and]
  exact key1
theorem lc_16 (hb : 0 ≤ i ∧ i + 6 ≤ L) (hL : L ≤ 3072) (hs : Sim2 (st_S fmt L xs) 60 Ls H 106 202 [.inl ((xs (i + 1).toNat).toInt)] P) (tail : ∀ Ls' H2, P Ls' H2 → Bx (st_S fmt L xs) 60 270 (1302, ([some (.inr (.inr 4)), some (.inr (.inr 32)), some (.inr (.inr 80)), some (.inl i)], ([], (kk0 ++ Ls', H2)))) Q) : Bx (st_S fmt L xs) 60 270 (694, ([some (.inr (.inr 4)), some (.inr (.inr 32)), some (.inr (.inr 80)), some (.inl i)], ([], (kk0 ++ Ls, H)))) Q := by
  have key1 : Ru (st_S fmt L xs) 60 106 [.inr (.inr 32), .inl ((xs (i + 1).toNat).toInt)] (kk0 ++ Ls) H (fun o => Bx (st_S fmt L xs) 60 270 (703, ([some (.inr (.inr 4)), some (.inr (.inr 32)), some (.inr (.inr 80)), some (.inl i)], (o.2.2.toList ++ [], (o.1, o.2.1)))) Q) := by
    refine Ru.mono hs (fun o ho => ?_)
    obtain ⟨Ls', H1, a, rfl, hr⟩ := ho
    have key2 : Ru (st_S fmt L xs) 60 202 [.inr (.inr 80), .inl ((xs (i + 1).toNat).toInt)] (kk0 ++ Ls') H1 (fun o => Bx (st_S fmt L xs) 60 270 (712, ([some (.inr (.inr 4)), some (.inr (.inr 32)), some (.inr (.inr 80)), some (.inl i)], (o.2.2.toList ++ [.inl a], (o.1, o.2.1)))) Q) := hr.mono (fun o2 ho2 => by
      obtain ⟨H2, rfl, hp⟩ := ho2
      have fin := tail Ls' H2 hp
      simp only [x270_712, ct_c, ct_z, cat_I, cat_J, cat_A, lq_I, lq_A, lq_n, Nat.reduceAdd, Nat.reduceLeDiff, true_and, and_true, true_or, or_true, ev_b, eq_self, Option.toList_some, Option.toList_none, List.cons_append, List.nil_append]
      simpa using fin)
    simp (disch := omega) only [x270_703, x270_704, x270_705, x270_706, x270_707, x270_708, x270_709, ct_c, ct_z, cat_I, cat_J, cat_A, lq_I, lq_A, lq_n, Nat.reduceAdd, Nat.reduceLeDiff, true_and, and_true, true_or, or_true, ev_b, eq_self, Option.toList_some, Option.toList_none, List.cons_append, List.nil_append, ld4, rc32, rc80, sw_id, ↓ok_and]
    exact key2
  simp (disch := omega) only [x270_694, x270_695, x270_696, x270_697, x270_698, x270_699, x270_700, ct_c, ct_z, cat_I, cat_J, cat_A, lq_I, lq_A, lq_n, Nat.reduceAdd, Nat.reduceLeDiff, true_and, and_true, true_or, or_true, ev_b, eq_self, Option.toList_some, Option.toList_none, List.cons_append, List.nil_append, ld4, rc32, rc80, sw_id, ↓ok_and]
  exact key1
theorem lc_17 (hb : 0 ≤ i ∧ i + 6 ≤ L) (hL : L ≤ 3072) (hs : Sim2 (st_S fmt L xs) 60 Ls H 107 203 [] P) (tail : ∀ Ls' H2, P Ls' H2 → Bx (st_S fmt L xs) 60 270 (1302, ([some (.inr (.inr 4)), some (.inr (.inr 32)), some (.inr (.inr 80)), some (.inl i)], ([], (kk0 ++ Ls', H2)))) Q) : Bx (st_S fmt L xs) 60 270 (717, ([some (.inr (.inr 4)), some (.inr (.inr 32)), some (.inr (.inr 80)), some (.inl i)], ([], (kk0 ++ Ls, H)))) Q := by
  have key1 : Ru (st_S fmt L xs) 60 107 [.inr (.inr 32)] (kk0 ++ Ls) H (fun o => Bx (st_S fmt L xs) 60 270 (721, ([some (.inr (.inr 4)), some (.inr (.inr 32)), some (.inr (.inr 80)), some (.inl i)], (o.2.2.toList ++ [], (o.1, o.2.1)))) Q) := by
    refine Ru.mono hs (fun o ho => ?_)
    obtain ⟨Ls', H1, a, rfl, hr⟩ := ho
    have key2 : Ru (st_S fmt L xs) 60 203 [.inr (.inr 80)] (kk0 ++ Ls') H1 (fun o => Bx (st_S fmt L xs) 60 270 (725, ([some (.inr (.inr 4)), some (.inr (.inr 32)), some (.inr (.inr 80)), some (.inl i)], (o.2.2.toList ++ [.inl a], (o.1, o.2.1)))) Q) := hr.mono (fun o2 ho2 => by
      obtain ⟨H2, rfl, hp⟩ := ho2
      have fin := tail Ls' H2 hp
      simp only [x270_725, ct_c, ct_z, cat_I, cat_J, cat_A, lq_I, lq_A, lq_n, Nat.reduceAdd, Nat.reduceLeDiff, true_and, and_true, true_or, or_true, ev_b, eq_self, Option.toList_some, Option.toList_none, List.cons_append, List.nil_append]
      simpa using fin)
    simp (disch := omega) only [x270_721, x270_722, ct_c, ct_z, cat_I, cat_J, cat_A, lq_I, lq_A, lq_n, Nat.reduceAdd, Nat.reduceLeDiff, true_and, and_true, true_or, or_true, ev_b, eq_self, Option.toList_some, Option.toList_none, List.cons_append, List.nil_append, ld4, rc32, rc80, sw_id, ↓ok_and]
    exact key2
  simp (disch := omega) only [x270_717, x270_718, ct_c, ct_z, cat_I, cat_J, cat_A, lq_I, lq_A, lq_n, Nat.reduceAdd, Nat.reduceLeDiff, true_and, and_true, true_or, or_true, ev_b, eq_self, Option.toList_some, Option.toList_none, List.cons_append, List.nil_append, ld4, rc32, rc80, sw_id, ↓ok_and]
  exact key1
theorem lc_18 (hb : 0 ≤ i ∧ i + 6 ≤ L) (hL : L ≤ 3072) (hs : Sim2 (st_S fmt L xs) 60 Ls H 108 206 [.inl ((xs (i + 1).toNat).toInt), .inl ((xs (i + 2).toNat).toInt)] P) (tail : ∀ Ls' H2, P Ls' H2 → Bx (st_S fmt L xs) 60 270 (1302, ([some (.inr (.inr 4)), some (.inr (.inr 32)), some (.inr (.inr 80)), some (.inl i)], ([], (kk0 ++ Ls', H2)))) Q) : Bx (st_S fmt L xs) 60 270 (730, ([some (.inr (.inr 4)), some (.inr (.inr 32)), some (.inr (.inr 80)), some (.inl i)], ([], (kk0 ++ Ls, H)))) Q := by
  have key1 : Ru (st_S fmt L xs) 60 108 [.inr (.inr 32), .inl ((xs (i + 1).toNat).toInt), .inl ((xs (i + 2).toNat).toInt)] (kk0 ++ Ls) H (fun o => Bx (st_S fmt L xs) 60 270 (744, ([some (.inr (.inr 4)), some (.inr (.inr 32)), some (.inr (.inr 80)), some (.inl i)], (o.2.2.toList ++ [], (o.1, o.2.1)))) Q) := by
    refine Ru.mono hs (fun o ho => ?_)
    obtain ⟨Ls', H1, a, rfl, hr⟩ := ho
    have key2 : Ru (st_S fmt L xs) 60 206 [.inr (.inr 80), .inl ((xs (i + 1).toNat).toInt), .inl ((xs (i + 2).toNat).toInt)] (kk0 ++ Ls') H1 (fun o => Bx (st_S fmt L xs) 60 270 (758, ([some (.inr (.inr 4)), some (.inr (.inr 32)), some (.inr (.inr 80)), some (.inl i)], (o.2.2.toList ++ [.inl a], (o.1, o.2.1)))) Q) := hr.mono (fun o2 ho2 => by
      obtain ⟨H2, rfl, hp⟩ := ho2
      have fin := tail Ls' H2 hp
      simp only [x270_758, ct_c, ct_z, cat_I, cat_J, cat_A, lq_I, lq_A, lq_n, Nat.reduceAdd, Nat.reduceLeDiff, true_and, and_true, true_or, or_true, ev_b, eq_self, Option.toList_some, Option.toList_none, List.cons_append, List.nil_append]
      simpa using fin)
    simp (disch := omega) only [x270_744, x270_745, x270_746, x270_747, x270_748, x270_749, x270_750, x270_751, x270_752, x270_753, x270_754, x270_755, ct_c, ct_z, cat_I, cat_J, cat_A, lq_I, lq_A, lq_n, Nat.reduceAdd, Nat.reduceLeDiff, true_and, and_true, true_or, or_true, ev_b, eq_self, Option.toList_some, Option.toList_none, List.cons_append, List.nil_append, ld4, rc32, rc80, sw_id, ↓ok_and]
    exact key2
  simp (disch := omega) only [x270_730, x270_731, x270_732, x270_733, x270_734, x270_735, x270_736, x270_737, x270_738, x270_739, x270_740, x270_741, ct_c, ct_z, cat_I, cat_J, cat_A, lq_I, lq_A, lq_n, Nat.reduceAdd, Nat.reduceLeDiff, true_and, and_true, true_or, or_true, ev_b, eq_self, Option.toList_some, Option.toList_none, List.cons_append, List.nil_append, ld4, rc32, rc80, sw_id, ↓ok_and]
  exact key1
theorem lc_19 (hb : 0 ≤ i ∧ i + 6 ≤ L) (hL : L ≤ 3072) (hs : Sim2 (st_S fmt L xs) 60 Ls H 111 207 [] P) (tail : ∀ Ls' H2, P Ls' H2 → Bx (st_S fmt L xs) 60 270 (1302, ([some (.inr (.inr 4)), some (.inr (.inr 32)), some (.inr (.inr 80)), some (.inl i)], ([], (kk0 ++ Ls', H2)))) Q) : Bx (st_S fmt L xs) 60 270 (763, ([some (.inr (.inr 4)), some (.inr (.inr 32)), some (.inr (.inr 80)), some (.inl i)], ([], (kk0 ++ Ls, H)))) Q := by
  have key1 : Ru (st_S fmt L xs) 60 111 [.inr (.inr 32)] (kk0 ++ Ls) H (fun o => Bx (st_S fmt L xs) 60 270 (767, ([some (.inr (.inr 4)), some (.inr (.inr 32)), some (.inr (.inr 80)), some (.inl i)], (o.2.2.toList ++ [], (o.1, o.2.1)))) Q) := by
    refine Ru.mono hs (fun o ho => ?_)
    obtain ⟨Ls', H1, a, rfl, hr⟩ := ho
    have key2 : Ru (st_S fmt L xs) 60 207 [.inr (.inr 80)] (kk0 ++ Ls') H1 (fun o => Bx (st_S fmt L xs) 60 270 (771, ([some (.inr (.inr 4)), some (.inr (.inr 32)), some (.inr (.inr 80)), some (.inl i)], (o.2.2.toList ++ [.inl a], (o.1, o.2.1)))) Q) := hr.mono (fun o2 ho2 => by
      obtain ⟨H2, rfl, hp⟩ := ho2
      have fin := tail Ls' H2 hp
      simp only [x270_771, ct_c, ct_z, cat_I, cat_J, cat_A, lq_I, lq_A, lq_n, Nat.reduceAdd, Nat.reduceLeDiff, true_and, and_true, true_or, or_true, ev_b, eq_self, Option.toList_some, Option.toList_none, List.cons_append, List.nil_append]
      simpa using fin)
    simp (disch := omega) only [x270_767, x270_768, ct_c, ct_z, cat_I, cat_J, cat_A, lq_I, lq_A, lq_n, Nat.reduceAdd, Nat.reduceLeDiff, true_and, and_true, true_or, or_true, ev_b, eq_self, Option.toList_some, Option.toList_none, List.cons_append, List.nil_append, ld4, rc32, rc80, sw_id, ↓ok_and]
    exact key2
  simp (disch := omega) only [x270_763, x270_764, ct_c, ct_z, cat_I, cat_J, cat_A, lq_I, lq_A, lq_n, Nat.reduceAdd, Nat.reduceLeDiff, true_and, and_true, true_or, or_true, ev_b, eq_self, Option.toList_some, Option.toList_none, List.cons_append, List.nil_append, ld4, rc32, rc80, sw_id, ↓ok_and]
  exact key1
theorem lc_20 (hb : 0 ≤ i ∧ i + 6 ≤ L) (hL : L ≤ 3072) (hs : Sim2 (st_S fmt L xs) 60 Ls H 112 213 [.inl ((xs (i + 1).toNat).toInt)] P) (tail : ∀ Ls' H2, P Ls' H2 → Bx (st_S fmt L xs) 60 270 (1302, ([some (.inr (.inr 4)), some (.inr (.inr 32)), some (.inr (.inr 80)), some (.inl i)], ([], (kk0 ++ Ls', H2)))) Q) : Bx (st_S fmt L xs) 60 270 (776, ([some (.inr (.inr 4)), some (.inr (.inr 32)), some (.inr (.inr 80)), some (.inl i)], ([], (kk0 ++ Ls, H)))) Q := by
  have key1 : Ru (st_S fmt L xs) 60 112 [.inr (.inr 32), .inl ((xs (i + 1).toNat).toInt)] (kk0 ++ Ls) H (fun o => Bx (st_S fmt L xs) 60 270 (785, ([some (.inr (.inr 4)), some (.inr (.inr 32)), some (.inr (.inr 80)), some (.inl i)], (o.2.2.toList ++ [], (o.1, o.2.1)))) Q) := by
    refine Ru.mono hs (fun o ho => ?_)
    obtain ⟨Ls', H1, a, rfl, hr⟩ := ho
    have key2 : Ru (st_S fmt L xs) 60 213 [.inr (.inr 80), .inl ((xs (i + 1).toNat).toInt)] (kk0 ++ Ls') H1 (fun o => Bx (st_S fmt L xs) 60 270 (794, ([some (.inr (.inr 4)), some (.inr (.inr 32)), some (.inr (.inr 80)), some (.inl i)], (o.2.2.toList ++ [.inl a], (o.1, o.2.1)))) Q) := hr.mono (fun o2 ho2 => by
      obtain ⟨H2, rfl, hp⟩ := ho2
      have fin := tail Ls' H2 hp
      simp only [x270_794, ct_c, ct_z, cat_I, cat_J, cat_A, lq_I, lq_A, lq_n, Nat.reduceAdd, Nat.reduceLeDiff, true_and, and_true, true_or, or_true, ev_b, eq_self, Option.toList_some, Option.toList_none, List.cons_append, List.nil_append]
      simpa using fin)
    simp (disch := omega) only [x270_785, x270_786, x270_787, x270_788, x270_789, x270_790, x270_791, ct_c, ct_z, cat_I, cat_J, cat_A, lq_I, lq_A, lq_n, Nat.reduceAdd, Nat.reduceLeDiff, true_and, and_true, true_or, or_true, ev_b, eq_self, Option.toList_some, Option.toList_none, List.cons_append, List.nil_append, ld4, rc32, rc80, sw_id, ↓ok_and]
    exact key2
  simp (disch := omega) only [x270_776, x270_777, x270_778, x270_779, x270_780, x270_781, x270_782, ct_c, ct_z, cat_I, cat_J, cat_A, lq_I, lq_A, lq_n, Nat.reduceAdd, Nat.reduceLeDiff, true_and, and_true, true_or, or_true, ev_b, eq_self, Option.toList_some, Option.toList_none, List.cons_append, List.nil_append, ld4, rc32, rc80, sw_id, ↓ok_and]
  exact key1
theorem lc_21 (hb : 0 ≤ i ∧ i + 6 ≤ L) (hL : L ≤ 3072) (hs : Sim2 (st_S fmt L xs) 60 Ls H 113 214 [.inl ((xs (i + 1).toNat).toInt), .inl ((xs (i + 2).toNat).toInt)] P) (tail : ∀ Ls' H2, P Ls' H2 → Bx (st_S fmt L xs) 60 270 (1302, ([some (.inr (.inr 4)), some (.inr (.inr 32)), some (.inr (.inr 80)), some (.inl i)], ([], (kk0 ++ Ls', H2)))) Q) : Bx (st_S fmt L xs) 60 270 (799, ([some (.inr (.inr 4)), some (.inr (.inr 32)), some (.inr (.inr 80)), some (.inl i)], ([], (kk0 ++ Ls, H)))) Q := by
  have key1 : Ru (st_S fmt L xs) 60 113 [.inr (.inr 32), .inl ((xs (i + 1).toNat).toInt), .inl ((xs (i + 2).toNat).toInt)] (kk0 ++ Ls) H (fun o => Bx (st_S fmt L xs) 60 270 (813, ([some (.inr (.inr 4)), some (.inr (.inr 32)), some (.inr (.inr 80)), some (.inl i)], (o.2.2.toList ++ [], (o.1, o.2.1)))) Q) := by
    refine Ru.mono hs (fun o ho => ?_)
    obtain ⟨Ls', H1, a, rfl, hr⟩ := ho
    have key2 : Ru (st_S fmt L xs) 60 214 [.inr (.inr 80), .inl ((xs (i + 1).toNat).toInt), .inl ((xs (i + 2).toNat).toInt)] (kk0 ++ Ls') H1 (fun o => Bx (st_S fmt L xs) 60 270 (827, ([some (.inr (.inr 4)), some (.inr (.inr 32)), some (.inr (.inr 80)), some (.inl i)], (o.2.2.toList ++ [.inl a], (o.1, o.2.1)))) Q) := hr.mono (fun o2 ho2 => by
      obtain ⟨H2, rfl, hp⟩ := ho2
      have fin := tail Ls' H2 hp
      simp only [x270_827, ct_c, ct_z, cat_I, cat_J, cat_A, lq_I, lq_A, lq_n, Nat.reduceAdd, Nat.reduceLeDiff, true_and, and_true, true_or, or_true, ev_b, eq_self, Option.toList_some, Option.toList_none, List.cons_append, List.nil_append]
      simpa using fin)
    simp (disch := omega) only [x270_813, x270_814, x270_815, x270_816, x270_817, x270_818, x270_819, x270_820, x270_821, x270_822, x270_823, x270_824, ct_c, ct_z, cat_I, cat_J, cat_A, lq_I, lq_A, lq_n, Nat.reduceAdd, Nat.reduceLeDiff, true_and, and_true, true_or, or_true, ev_b, eq_self, Option.toList_some, Option.toList_none, List.cons_append, List.nil_append, ld4, rc32, rc80, sw_id, ↓ok_and]
    exact key2
  simp (disch := omega) only [x270_799, x270_800, x270_801, x270_802, x270_803, x270_804, x270_805, x270_806, x270_807, x270_808, x270_809, x270_810, ct_c, ct_z, cat_I, cat_J, cat_A, lq_I, lq_A, lq_n, Nat.reduceAdd, Nat.reduceLeDiff, true_and, and_true, true_or, or_true, ev_b, eq_self, Option.toList_some, Option.toList_none, List.cons_append, List.nil_append, ld4, rc32, rc80, sw_id, ↓ok_and]
  exact key1
theorem lc_22 (hb : 0 ≤ i ∧ i + 6 ≤ L) (hL : L ≤ 3072) (hs : Sim2 (st_S fmt L xs) 60 Ls H 114 221 [.inl ((xs (i + 1).toNat).toInt)] P) (tail : ∀ Ls' H2, P Ls' H2 → Bx (st_S fmt L xs) 60 270 (1302, ([some (.inr (.inr 4)), some (.inr (.inr 32)), some (.inr (.inr 80)), some (.inl i)], ([], (kk0 ++ Ls', H2)))) Q) : Bx (st_S fmt L xs) 60 270 (832, ([some (.inr (.inr 4)), some (.inr (.inr 32)), some (.inr (.inr 80)), some (.inl i)], ([], (kk0 ++ Ls, H)))) Q := by
  have key1 : Ru (st_S fmt L xs) 60 114 [.inr (.inr 32), .inl ((xs (i + 1).toNat).toInt)] (kk0 ++ Ls) H (fun o => Bx (st_S fmt L xs) 60 270 (841, ([some (.inr (.inr 4)), some (.inr (.inr 32)), some (.inr (.inr 80)), some (.inl i)], (o.2.2.toList ++ [], (o.1, o.2.1)))) Q) := by
    refine Ru.mono hs (fun o ho => ?_)
    obtain ⟨Ls', H1, a, rfl, hr⟩ := ho
    have key2 : Ru (st_S fmt L xs) 60 221 [.inr (.inr 80), .inl ((xs (i + 1).toNat).toInt)] (kk0 ++ Ls') H1 (fun o => Bx (st_S fmt L xs) 60 270 (850, ([some (.inr (.inr 4)), some (.inr (.inr 32)), some (.inr (.inr 80)), some (.inl i)], (o.2.2.toList ++ [.inl a], (o.1, o.2.1)))) Q) := hr.mono (fun o2 ho2 => by
      obtain ⟨H2, rfl, hp⟩ := ho2
      have fin := tail Ls' H2 hp
      simp only [x270_850, ct_c, ct_z, cat_I, cat_J, cat_A, lq_I, lq_A, lq_n, Nat.reduceAdd, Nat.reduceLeDiff, true_and, and_true, true_or, or_true, ev_b, eq_self, Option.toList_some, Option.toList_none, List.cons_append, List.nil_append]
      simpa using fin)
    simp (disch := omega) only [x270_841, x270_842, x270_843, x270_844, x270_845, x270_846, x270_847, ct_c, ct_z, cat_I, cat_J, cat_A, lq_I, lq_A, lq_n, Nat.reduceAdd, Nat.reduceLeDiff, true_and, and_true, true_or, or_true, ev_b, eq_self, Option.toList_some, Option.toList_none, List.cons_append, List.nil_append, ld4, rc32, rc80, sw_id, ↓ok_and]
    exact key2
  simp (disch := omega) only [x270_832, x270_833, x270_834, x270_835, x270_836, x270_837, x270_838, ct_c, ct_z, cat_I, cat_J, cat_A, lq_I, lq_A, lq_n, Nat.reduceAdd, Nat.reduceLeDiff, true_and, and_true, true_or, or_true, ev_b, eq_self, Option.toList_some, Option.toList_none, List.cons_append, List.nil_append, ld4, rc32, rc80, sw_id, ↓ok_and]
  exact key1
theorem lc_23 (hb : 0 ≤ i ∧ i + 6 ≤ L) (hL : L ≤ 3072) (hs : Sim2 (st_S fmt L xs) 60 Ls H 115 222 [.inl ((xs (i + 1).toNat).toInt)] P) (tail : ∀ Ls' H2, P Ls' H2 → Bx (st_S fmt L xs) 60 270 (1302, ([some (.inr (.inr 4)), some (.inr (.inr 32)), some (.inr (.inr 80)), some (.inl i)], ([], (kk0 ++ Ls', H2)))) Q) : Bx (st_S fmt L xs) 60 270 (855, ([some (.inr (.inr 4)), some (.inr (.inr 32)), some (.inr (.inr 80)), some (.inl i)], ([], (kk0 ++ Ls, H)))) Q := by
  have key1 : Ru (st_S fmt L xs) 60 115 [.inr (.inr 32), .inl ((xs (i + 1).toNat).toInt)] (kk0 ++ Ls) H (fun o => Bx (st_S fmt L xs) 60 270 (864, ([some (.inr (.inr 4)), some (.inr (.inr 32)), some (.inr (.inr 80)), some (.inl i)], (o.2.2.toList ++ [], (o.1, o.2.1)))) Q) := by
    refine Ru.mono hs (fun o ho => ?_)
    obtain ⟨Ls', H1, a, rfl, hr⟩ := ho
    have key2 : Ru (st_S fmt L xs) 60 222 [.inr (.inr 80), .inl ((xs (i + 1).toNat).toInt)] (kk0 ++ Ls') H1 (fun o => Bx (st_S fmt L xs) 60 270 (873, ([some (.inr (.inr 4)), some (.inr (.inr 32)), some (.inr (.inr 80)), some (.inl i)], (o.2.2.toList ++ [.inl a], (o.1, o.2.1)))) Q) := hr.mono (fun o2 ho2 => by
      obtain ⟨H2, rfl, hp⟩ := ho2
      have fin := tail Ls' H2 hp
      simp only [x270_873, ct_c, ct_z, cat_I, cat_J, cat_A, lq_I, lq_A, lq_n, Nat.reduceAdd, Nat.reduceLeDiff, true_and, and_true, true_or, or_true, ev_b, eq_self, Option.toList_some, Option.toList_none, List.cons_append, List.nil_append]
      simpa using fin)
    simp (disch := omega) only [x270_864, x270_865, x270_866, x270_867, x270_868, x270_869, x270_870, ct_c, ct_z, cat_I, cat_J, cat_A, lq_I, lq_A, lq_n, Nat.reduceAdd, Nat.reduceLeDiff, true_and, and_true, true_or, or_true, ev_b, eq_self, Option.toList_some, Option.toList_none, List.cons_append, List.nil_append, ld4, rc32, rc80, sw_id, ↓ok_and]
    exact key2
  simp (disch := omega) only [x270_855, x270_856, x270_857, x270_858, x270_859, x270_860, x270_861, ct_c, ct_z, cat_I, cat_J, cat_A, lq_I, lq_A, lq_n, Nat.reduceAdd, Nat.reduceLeDiff, true_and, and_true, true_or, or_true, ev_b, eq_self, Option.toList_some, Option.toList_none, List.cons_append, List.nil_append, ld4, rc32, rc80, sw_id, ↓ok_and]
  exact key1
theorem lc_24 (hb : 0 ≤ i ∧ i + 6 ≤ L) (hL : L ≤ 3072) (hs : Sim2 (st_S fmt L xs) 60 Ls H 116 225 [] P) (tail : ∀ Ls' H2, P Ls' H2 → Bx (st_S fmt L xs) 60 270 (1302, ([some (.inr (.inr 4)), some (.inr (.inr 32)), some (.inr (.inr 80)), some (.inl i)], ([], (kk0 ++ Ls', H2)))) Q) : Bx (st_S fmt L xs) 60 270 (878, ([some (.inr (.inr 4)), some (.inr (.inr 32)), some (.inr (.inr 80)), some (.inl i)], ([], (kk0 ++ Ls, H)))) Q := by
  have key1 : Ru (st_S fmt L xs) 60 116 [.inr (.inr 32)] (kk0 ++ Ls) H (fun o => Bx (st_S fmt L xs) 60 270 (882, ([some (.inr (.inr 4)), some (.inr (.inr 32)), some (.inr (.inr 80)), some (.inl i)], (o.2.2.toList ++ [], (o.1, o.2.1)))) Q) := by
    refine Ru.mono hs (fun o ho => ?_)
    obtain ⟨Ls', H1, a, rfl, hr⟩ := ho
    have key2 : Ru (st_S fmt L xs) 60 225 [.inr (.inr 80)] (kk0 ++ Ls') H1 (fun o => Bx (st_S fmt L xs) 60 270 (886, ([some (.inr (.inr 4)), some (.inr (.inr 32)), some (.inr (.inr 80)), some (.inl i)], (o.2.2.toList ++ [.inl a], (o.1, o.2.1)))) Q) := hr.mono (fun o2 ho2 => by
      obtain ⟨H2, rfl, hp⟩ := ho2
      have fin := tail Ls' H2 hp
      simp only [x270_886, ct_c, ct_z, cat_I, cat_J, cat_A, lq_I, lq_A, lq_n, Nat.reduceAdd, Nat.reduceLeDiff, true_and, and_true, true_or, or_true, ev_b, eq_self, Option.toList_some, Option.toList_none, List.cons_append, List.nil_append]
      simpa using fin)
    simp (disch := omega) only [x270_882, x270_883, ct_c, ct_z, cat_I, cat_J, cat_A, lq_I, lq_A, lq_n, Nat.reduceAdd, Nat.reduceLeDiff, true_and, and_true, true_or, or_true, ev_b, eq_self, Option.toList_some, Option.toList_none, List.cons_append, List.nil_append, ld4, rc32, rc80, sw_id, ↓ok_and]
    exact key2
  simp (disch := omega) only [x270_878, x270_879, ct_c, ct_z, cat_I, cat_J, cat_A, lq_I, lq_A, lq_n, Nat.reduceAdd, Nat.reduceLeDiff, true_and, and_true, true_or, or_true, ev_b, eq_self, Option.toList_some, Option.toList_none, List.cons_append, List.nil_append, ld4, rc32, rc80, sw_id, ↓ok_and]
  exact key1
theorem lc_25 (hb : 0 ≤ i ∧ i + 6 ≤ L) (hL : L ≤ 3072) (hs : Sim2 (st_S fmt L xs) 60 Ls H 117 228 [.inl ((xs (i + 1).toNat).toInt)] P) (tail : ∀ Ls' H2, P Ls' H2 → Bx (st_S fmt L xs) 60 270 (1302, ([some (.inr (.inr 4)), some (.inr (.inr 32)), some (.inr (.inr 80)), some (.inl i)], ([], (kk0 ++ Ls', H2)))) Q) : Bx (st_S fmt L xs) 60 270 (891, ([some (.inr (.inr 4)), some (.inr (.inr 32)), some (.inr (.inr 80)), some (.inl i)], ([], (kk0 ++ Ls, H)))) Q := by
  have key1 : Ru (st_S fmt L xs) 60 117 [.inr (.inr 32), .inl ((xs (i + 1).toNat).toInt)] (kk0 ++ Ls) H (fun o => Bx (st_S fmt L xs) 60 270 (900, ([some (.inr (.inr 4)), some (.inr (.inr 32)), some (.inr (.inr 80)), some (.inl i)], (o.2.2.toList ++ [], (o.1, o.2.1)))) Q) := by
    refine Ru.mono hs (fun o ho => ?_)
    obtain ⟨Ls', H1, a, rfl, hr⟩ := ho
    have key2 : Ru (st_S fmt L xs) 60 228 [.inr (.inr 80), .inl ((xs (i + 1).toNat).toInt)] (kk0 ++ Ls') H1 (fun o => Bx (st_S fmt L xs) 60 270 (909, ([some (.inr (.inr 4)), some (.inr (.inr 32)), some (.inr (.inr 80)), some (.inl i)], (o.2.2.toList ++ [.inl a], (o.1, o.2.1)))) Q) := hr.mono (fun o2 ho2 => by
      obtain ⟨H2, rfl, hp⟩ := ho2
      have fin := tail Ls' H2 hp
      simp only [x270_909, ct_c, ct_z, cat_I, cat_J, cat_A, lq_I, lq_A, lq_n, Nat.reduceAdd, Nat.reduceLeDiff, true_and, and_true, true_or, or_true, ev_b, eq_self, Option.toList_some, Option.toList_none, List.cons_append, List.nil_append]
      simpa using fin)
    simp (disch := omega) only [x270_900, x270_901, x270_902, x270_903, x270_904, x270_905, x270_906, ct_c, ct_z, cat_I, cat_J, cat_A, lq_I, lq_A, lq_n, Nat.reduceAdd, Nat.reduceLeDiff, true_and, and_true, true_or, or_true, ev_b, eq_self, Option.toList_some, Option.toList_none, List.cons_append, List.nil_append, ld4, rc32, rc80, sw_id, ↓ok_and]
    exact key2
  simp (disch := omega) only [x270_891, x270_892, x270_893, x270_894, x270_895, x270_896, x270_897, ct_c, ct_z, cat_I, cat_J, cat_A, lq_I, lq_A, lq_n, Nat.reduceAdd, Nat.reduceLeDiff, true_and, and_true, true_or, or_true, ev_b, eq_self, Option.toList_some, Option.toList_none, List.cons_append, List.nil_append, ld4, rc32, rc80, sw_id, ↓ok_and]
  exact key1
theorem lc_26 (hb : 0 ≤ i ∧ i + 6 ≤ L) (hL : L ≤ 3072) (hs : Sim2 (st_S fmt L xs) 60 Ls H 119 229 [.inl ((xs (i + 1).toNat).toInt)] P) (tail : ∀ Ls' H2, P Ls' H2 → Bx (st_S fmt L xs) 60 270 (1302, ([some (.inr (.inr 4)), some (.inr (.inr 32)), some (.inr (.inr 80)), some (.inl i)], ([], (kk0 ++ Ls', H2)))) Q) : Bx (st_S fmt L xs) 60 270 (914, ([some (.inr (.inr 4)), some (.inr (.inr 32)), some (.inr (.inr 80)), some (.inl i)], ([], (kk0 ++ Ls, H)))) Q := by
  have key1 : Ru (st_S fmt L xs) 60 119 [.inr (.inr 32), .inl ((xs (i + 1).toNat).toInt)] (kk0 ++ Ls) H (fun o => Bx (st_S fmt L xs) 60 270 (923, ([some (.inr (.inr 4)), some (.inr (.inr 32)), some (.inr (.inr 80)), some (.inl i)], (o.2.2.toList ++ [], (o.1, o.2.1)))) Q) := by
    refine Ru.mono hs (fun o ho => ?_)
    obtain ⟨Ls', H1, a, rfl, hr⟩ := ho
    have key2 : Ru (st_S fmt L xs) 60 229 [.inr (.inr 80), .inl ((xs (i + 1).toNat).toInt)] (kk0 ++ Ls') H1 (fun o => Bx (st_S fmt L xs) 60 270 (932, ([some (.inr (.inr 4)), some (.inr (.inr 32)), some (.inr (.inr 80)), some (.inl i)], (o.2.2.toList ++ [.inl a], (o.1, o.2.1)))) Q) := hr.mono (fun o2 ho2 => by
      obtain ⟨H2, rfl, hp⟩ := ho2
      have fin := tail Ls' H2 hp
      simp only [x270_932, ct_c, ct_z, cat_I, cat_J, cat_A, lq_I, lq_A, lq_n, Nat.reduceAdd, Nat.reduceLeDiff, true_and, and_true, true_or, or_true, ev_b, eq_self, Option.toList_some, Option.toList_none, List.cons_append, List.nil_append]
      simpa using fin)
    simp (disch := omega) only [x270_923, x270_924, x270_925, x270_926, x270_927, x270_928, x270_929, ct_c, ct_z, cat_I, cat_J, cat_A, lq_I, lq_A, lq_n, Nat.reduceAdd, Nat.reduceLeDiff, true_and, and_true, true_or, or_true, ev_b, eq_self, Option.toList_some, Option.toList_none, List.cons_append, List.nil_append, ld4, rc32, rc80, sw_id, ↓ok_and]
    exact key2
  simp (disch := omega) only [x270_914, x270_915, x270_916, x270_917, x270_918, x270_919, x270_920, ct_c, ct_z, cat_I, cat_J, cat_A, lq_I, lq_A, lq_n, Nat.reduceAdd, Nat.reduceLeDiff, true_and, and_true, true_or, or_true, ev_b, eq_self, Option.toList_some, Option.toList_none, List.cons_append, List.nil_append, ld4, rc32, rc80, sw_id, ↓ok_and]
  exact key1
theorem lc_27 (hb : 0 ≤ i ∧ i + 6 ≤ L) (hL : L ≤ 3072) (hs : Sim2 (st_S fmt L xs) 60 Ls H 120 232 [.inl ((xs (i + 1).toNat).toInt), .inl ((xs (i + 2).toNat).toInt)] P) (tail : ∀ Ls' H2, P Ls' H2 → Bx (st_S fmt L xs) 60 270 (1302, ([some (.inr (.inr 4)), some (.inr (.inr 32)), some (.inr (.inr 80)), some (.inl i)], ([], (kk0 ++ Ls', H2)))) Q) : Bx (st_S fmt L xs) 60 270 (937, ([some (.inr (.inr 4)), some (.inr (.inr 32)), some (.inr (.inr 80)), some (.inl i)], ([], (kk0 ++ Ls, H)))) Q := by
  have key1 : Ru (st_S fmt L xs) 60 120 [.inr (.inr 32), .inl ((xs (i + 1).toNat).toInt), .inl ((xs (i + 2).toNat).toInt)] (kk0 ++ Ls) H (fun o => Bx (st_S fmt L xs) 60 270 (951, ([some (.inr (.inr 4)), some (.inr (.inr 32)), some (.inr (.inr 80)), some (.inl i)], (o.2.2.toList ++ [], (o.1, o.2.1)))) Q) := by
    refine Ru.mono hs (fun o ho => ?_)
    obtain ⟨Ls', H1, a, rfl, hr⟩ := ho
    have key2 : Ru (st_S fmt L xs) 60 232 [.inr (.inr 80), .inl ((xs (i + 1).toNat).toInt), .inl ((xs (i + 2).toNat).toInt)] (kk0 ++ Ls') H1 (fun o => Bx (st_S fmt L xs) 60 270 (965, ([some (.inr (.inr 4)), some (.inr (.inr 32)), some (.inr (.inr 80)), some (.inl i)], (o.2.2.toList ++ [.inl a], (o.1, o.2.1)))) Q) := hr.mono (fun o2 ho2 => by
      obtain ⟨H2, rfl, hp⟩ := ho2
      have fin := tail Ls' H2 hp
      simp only [x270_965, ct_c, ct_z, cat_I, cat_J, cat_A, lq_I, lq_A, lq_n, Nat.reduceAdd, Nat.reduceLeDiff, true_and, and_true, true_or, or_true, ev_b, eq_self, Option.toList_some, Option.toList_none, List.cons_append, List.nil_append]
      simpa using fin)
    simp (disch := omega) only [x270_951, x270_952, x270_953, x270_954, x270_955, x270_956, x270_957, x270_958, x270_959, x270_960, x270_961, x270_962, ct_c, ct_z, cat_I, cat_J, cat_A, lq_I, lq_A, lq_n, Nat.reduceAdd, Nat.reduceLeDiff, true_and, and_true, true_or, or_true, ev_b, eq_self, Option.toList_some, Option.toList_none, List.cons_append, List.nil_append, ld4, rc32, rc80, sw_id, ↓ok_and]
    exact key2
  simp (disch := omega) only [x270_937, x270_938, x270_939, x270_940, x270_941, x270_942, x270_943, x270_944, x270_945, x270_946, x270_947, x270_948, ct_c, ct_z, cat_I, cat_J, cat_A, lq_I, lq_A, lq_n, Nat.reduceAdd, Nat.reduceLeDiff, true_and, and_true, true_or, or_true, ev_b, eq_self, Option.toList_some, Option.toList_none, List.cons_append, List.nil_append, ld4, rc32, rc80, sw_id, ↓ok_and]
  exact key1
theorem lc_28 (hb : 0 ≤ i ∧ i + 6 ≤ L) (hL : L ≤ 3072) (hs : Sim2 (st_S fmt L xs) 60 Ls H 121 233 [.inl ((xs (i + 1).toNat).toInt), .inl ((xs (i + 2).toNat).toInt)] P) (tail : ∀ Ls' H2, P Ls' H2 → Bx (st_S fmt L xs) 60 270 (1302, ([some (.inr (.inr 4)), some (.inr (.inr 32)), some (.inr (.inr 80)), some (.inl i)], ([], (kk0 ++ Ls', H2)))) Q) : Bx (st_S fmt L xs) 60 270 (970, ([some (.inr (.inr 4)), some (.inr (.inr 32)), some (.inr (.inr 80)), some (.inl i)], ([], (kk0 ++ Ls, H)))) Q := by
  have key1 : Ru (st_S fmt L xs) 60 121 [.inr (.inr 32), .inl ((xs (i + 1).toNat).toInt), .inl ((xs (i + 2).toNat).toInt)] (kk0 ++ Ls) H (fun o => Bx (st_S fmt L xs) 60 270 (984, ([some (.inr (.inr 4)), some (.inr (.inr 32)), some (.inr (.inr 80)), some (.inl i)], (o.2.2.toList ++ [], (o.1, o.2.1)))) Q) := by
    refine Ru.mono hs (fun o ho => ?_)
    obtain ⟨Ls', H1, a, rfl, hr⟩ := ho
    have key2 : Ru (st_S fmt L xs) 60 233 [.inr (.inr 80), .inl ((xs (i + 1).toNat).toInt), .inl ((xs (i + 2).toNat).toInt)] (kk0 ++ Ls') H1 (fun o => Bx (st_S fmt L xs) 60 270 (998, ([some (.inr (.inr 4)), some (.inr (.inr 32)), some (.inr (.inr 80)), some (.inl i)], (o.2.2.toList ++ [.inl a], (o.1, o.2.1)))) Q) := hr.mono (fun o2 ho2 => by
      obtain ⟨H2, rfl, hp⟩ := ho2
      have fin := tail Ls' H2 hp
      simp only [x270_998, ct_c, ct_z, cat_I, cat_J, cat_A, lq_I, lq_A, lq_n, Nat.reduceAdd, Nat.reduceLeDiff, true_and, and_true, true_or, or_true, ev_b, eq_self, Option.toList_some, Option.toList_none, List.cons_append, List.nil_append]
      simpa using fin)
    simp (disch := omega) only [x270_984, x270_985, x270_986, x270_987, x270_988, x270_989, x270_990, x270_991, x270_992, x270_993, x270_994, x270_995, ct_c, ct_z, cat_I, cat_J, cat_A, lq_I, lq_A, lq_n, Nat.reduceAdd, Nat.reduceLeDiff, true_and, and_true, true_or, or_true, ev_b, eq_self, Option.toList_some, Option.toList_none, List.cons_append, List.nil_append, ld4, rc32, rc80, sw_id, ↓ok_and]
    exact key2
  simp (disch := omega) only [x270_970, x270_971, x270_972, x270_973, x270_974, x270_975, x270_976, x270_977, x270_978, x270_979, x270_980, x270_981, ct_c, ct_z, cat_I, cat_J, cat_A, lq_I, lq_A, lq_n, Nat.reduceAdd, Nat.reduceLeDiff, true_and, and_true, true_or, or_true, ev_b, eq_self, Option.toList_some, Option.toList_none, List.cons_append, List.nil_append, ld4, rc32, rc80, sw_id, ↓ok_and]
  exact key1
theorem lc_29 (hb : 0 ≤ i ∧ i + 6 ≤ L) (hL : L ≤ 3072) (hs : Sim2 (st_S fmt L xs) 60 Ls H 122 234 [.inl ((xs (i + 1).toNat).toInt)] P) (tail : ∀ Ls' H2, P Ls' H2 → Bx (st_S fmt L xs) 60 270 (1302, ([some (.inr (.inr 4)), some (.inr (.inr 32)), some (.inr (.inr 80)), some (.inl i)], ([], (kk0 ++ Ls', H2)))) Q) : Bx (st_S fmt L xs) 60 270 (1003, ([some (.inr (.inr 4)), some (.inr (.inr 32)), some (.inr (.inr 80)), some (.inl i)], ([], (kk0 ++ Ls, H)))) Q := by
  have key1 : Ru (st_S fmt L xs) 60 122 [.inr (.inr 32), .inl ((xs (i + 1).toNat).toInt)] (kk0 ++ Ls) H (fun o => Bx (st_S fmt L xs) 60 270 (1012, ([some (.inr (.inr 4)), some (.inr (.inr 32)), some (.inr (.inr 80)), some (.inl i)], (o.2.2.toList ++ [], (o.1, o.2.1)))) Q) := by
    refine Ru.mono hs (fun o ho => ?_)
    obtain ⟨Ls', H1, a, rfl, hr⟩ := ho
    have key2 : Ru (st_S fmt L xs) 60 234 [.inr (.inr 80), .inl ((xs (i + 1).toNat).toInt)] (kk0 ++ Ls') H1 (fun o => Bx (st_S fmt L xs) 60 270 (1021, ([some (.inr (.inr 4)), some (.inr (.inr 32)), some (.inr (.inr 80)), some (.inl i)], (o.2.2.toList ++ [.inl a], (o.1, o.2.1)))) Q) := hr.mono (fun o2 ho2 => by
      obtain ⟨H2, rfl, hp⟩ := ho2
      have fin := tail Ls' H2 hp
      simp only [x270_1021, ct_c, ct_z, cat_I, cat_J, cat_A, lq_I, lq_A, lq_n, Nat.reduceAdd, Nat.reduceLeDiff, true_and, and_true, true_or, or_true, ev_b, eq_self, Option.toList_some, Option.toList_none, List.cons_append, List.nil_append]
      simpa using fin)
    simp (disch := omega) only [x270_1012, x270_1013, x270_1014, x270_1015, x270_1016, x270_1017, x270_1018, ct_c, ct_z, cat_I, cat_J, cat_A, lq_I, lq_A, lq_n, Nat.reduceAdd, Nat.reduceLeDiff, true_and, and_true, true_or, or_true, ev_b, eq_self, Option.toList_some, Option.toList_none, List.cons_append, List.nil_append, ld4, rc32, rc80, sw_id, ↓ok_and]
    exact key2
  simp (disch := omega) only [x270_1003, x270_1004, x270_1005, x270_1006, x270_1007, x270_1008, x270_1009, ct_c, ct_z, cat_I, cat_J, cat_A, lq_I, lq_A, lq_n, Nat.reduceAdd, Nat.reduceLeDiff, true_and, and_true, true_or, or_true, ev_b, eq_self, Option.toList_some, Option.toList_none, List.cons_append, List.nil_append, ld4, rc32, rc80, sw_id, ↓ok_and]
  exact key1
theorem lc_30 (hb : 0 ≤ i ∧ i + 6 ≤ L) (hL : L ≤ 3072) (hs : Sim2 (st_S fmt L xs) 60 Ls H 123 235 [] P) (tail : ∀ Ls' H2, P Ls' H2 → Bx (st_S fmt L xs) 60 270 (1302, ([some (.inr (.inr 4)), some (.inr (.inr 32)), some (.inr (.inr 80)), some (.inl i)], ([], (kk0 ++ Ls', H2)))) Q) : Bx (st_S fmt L xs) 60 270 (1026, ([some (.inr (.inr 4)), some (.inr (.inr 32)), some (.inr (.inr 80)), some (.inl i)], ([], (kk0 ++ Ls, H)))) Q := by
  have key1 : Ru (st_S fmt L xs) 60 123 [.inr (.inr 32)] (kk0 ++ Ls) H (fun o => Bx (st_S fmt L xs) 60 270 (1030, ([some (.inr (.inr 4)), some (.inr (.inr 32)), some (.inr (.inr 80)), some (.inl i)], (o.2.2.toList ++ [], (o.1, o.2.1)))) Q) := by
    refine Ru.mono hs (fun o ho => ?_)
    obtain ⟨Ls', H1, a, rfl, hr⟩ := ho
    have key2 : Ru (st_S fmt L xs) 60 235 [.inr (.inr 80)] (kk0 ++ Ls') H1 (fun o => Bx (st_S fmt L xs) 60 270 (1034, ([some (.inr (.inr 4)), some (.inr (.inr 32)), some (.inr (.inr 80)), some (.inl i)], (o.2.2.toList ++ [.inl a], (o.1, o.2.1)))) Q) := hr.mono (fun o2 ho2 => by
      obtain ⟨H2, rfl, hp⟩ := ho2
      have fin := tail Ls' H2 hp
      simp only [x270_1034, ct_c, ct_z, cat_I, cat_J, cat_A, lq_I, lq_A, lq_n, Nat.reduceAdd, Nat.reduceLeDiff, true_and, and_true, true_or, or_true, ev_b, eq_self, Option.toList_some, Option.toList_none, List.cons_append, List.nil_append]
      simpa using fin)
    simp (disch := omega) only [x270_1030, x270_1031, ct_c, ct_z, cat_I, cat_J, cat_A, lq_I, lq_A, lq_n, Nat.reduceAdd, Nat.reduceLeDiff, true_and, and_true, true_or, or_true, ev_b, eq_self, Option.toList_some, Option.toList_none, List.cons_append, List.nil_append, ld4, rc32, rc80, sw_id, ↓ok_and]
    exact key2
  simp (disch := omega) only [x270_1026, x270_1027, ct_c, ct_z, cat_I, cat_J, cat_A, lq_I, lq_A, lq_n, Nat.reduceAdd, Nat.reduceLeDiff, true_and, and_true, true_or, or_true, ev_b, eq_self, Option.toList_some, Option.toList_none, List.cons_append, List.nil_append, ld4, rc32, rc80, sw_id, ↓ok_and]
  exact key1
theorem lc_31 (hb : 0 ≤ i ∧ i + 6 ≤ L) (hL : L ≤ 3072) (hs : Sim2 (st_S fmt L xs) 60 Ls H 124 238 [.inl ((xs (i + 1).toNat).toInt), .inl ((xs (i + 2).toNat).toInt)] P) (tail : ∀ Ls' H2, P Ls' H2 → Bx (st_S fmt L xs) 60 270 (1302, ([some (.inr (.inr 4)), some (.inr (.inr 32)), some (.inr (.inr 80)), some (.inl i)], ([], (kk0 ++ Ls', H2)))) Q) : Bx (st_S fmt L xs) 60 270 (1039, ([some (.inr (.inr 4)), some (.inr (.inr 32)), some (.inr (.inr 80)), some (.inl i)], ([], (kk0 ++ Ls, H)))) Q := by
  have key1 : Ru (st_S fmt L xs) 60 124 [.inr (.inr 32), .inl ((xs (i + 1).toNat).toInt), .inl ((xs (i + 2).toNat).toInt)] (kk0 ++ Ls) H (fun o => Bx (st_S fmt L xs) 60 270 (1053, ([some (.inr (.inr 4)), some (.inr (.inr 32)), some (.inr (.inr 80)), some (.inl i)], (o.2.2.toList ++ [], (o.1, o.2.1)))) Q) := by
    refine Ru.mono hs (fun o ho => ?_)
    obtain ⟨Ls', H1, a, rfl, hr⟩ := ho
    have key2 : Ru (st_S fmt L xs) 60 238 [.inr (.inr 80), .inl ((xs (i + 1).toNat).toInt), .inl ((xs (i + 2).toNat).toInt)] (kk0 ++ Ls') H1 (fun o => Bx (st_S fmt L xs) 60 270 (1067, ([some (.inr (.inr 4)), some (.inr (.inr 32)), some (.inr (.inr 80)), some (.inl i)], (o.2.2.toList ++ [.inl a], (o.1, o.2.1)))) Q) := hr.mono (fun o2 ho2 => by
      obtain ⟨H2, rfl, hp⟩ := ho2
      have fin := tail Ls' H2 hp
      simp only [x270_1067, ct_c, ct_z, cat_I, cat_J, cat_A, lq_I, lq_A, lq_n, Nat.reduceAdd, Nat.reduceLeDiff, true_and, and_true, true_or, or_true, ev_b, eq_self, Option.toList_some, Option.toList_none, List.cons_append, List.nil_append]
      simpa using fin)
    simp (disch := omega) only [x270_1053, x270_1054, x270_1055, x270_1056, x270_1057, x270_1058, x270_1059, x270_1060, x270_1061, x270_1062, x270_1063, x270_1064, ct_c, ct_z, cat_I, cat_J, cat_A, lq_I, lq_A, lq_n, Nat.reduceAdd, Nat.reduceLeDiff, true_and, and_true, true_or, or_true, ev_b, eq_self, Option.toList_some, Option.toList_none, List.cons_append, List.nil_append, ld4, rc32, rc80, sw_id, ↓ok_and]
    exact key2
  simp (disch := omega) only [x270_1039, x270_1040, x270_1041, x270_1042, x270_1043, x270_1044, x270_1045, x270_1046, x270_1047, x270_1048, x270_1049, x270_1050, ct_c, ct_z, cat_I, cat_J, cat_A, lq_I, lq_A, lq_n, Nat.reduceAdd, Nat.reduceLeDiff, true_and, and_true, true_or, or_true, ev_b, eq_self, Option.toList_some, Option.toList_none, List.cons_append, List.nil_append, ld4, rc32, rc80, sw_id, ↓ok_and]
  exact key1
theorem lc_32 (hb : 0 ≤ i ∧ i + 6 ≤ L) (hL : L ≤ 3072) (hs : Sim2 (st_S fmt L xs) 60 Ls H 125 239 [] P) (tail : ∀ Ls' H2, P Ls' H2 → Bx (st_S fmt L xs) 60 270 (1302, ([some (.inr (.inr 4)), some (.inr (.inr 32)), some (.inr (.inr 80)), some (.inl i)], ([], (kk0 ++ Ls', H2)))) Q) : Bx (st_S fmt L xs) 60 270 (1072, ([some (.inr (.inr 4)), some (.inr (.inr 32)), some (.inr (.inr 80)), some (.inl i)], ([], (kk0 ++ Ls, H)))) Q := by
  have key1 : Ru (st_S fmt L xs) 60 125 [.inr (.inr 32)] (kk0 ++ Ls) H (fun o => Bx (st_S fmt L xs) 60 270 (1076, ([some (.inr (.inr 4)), some (.inr (.inr 32)), some (.inr (.inr 80)), some (.inl i)], (o.2.2.toList ++ [], (o.1, o.2.1)))) Q) := by
    refine Ru.mono hs (fun o ho => ?_)
    obtain ⟨Ls', H1, a, rfl, hr⟩ := ho
    have key2 : Ru (st_S fmt L xs) 60 239 [.inr (.inr 80)] (kk0 ++ Ls') H1 (fun o => Bx (st_S fmt L xs) 60 270 (1080, ([some (.inr (.inr 4)), some (.inr (.inr 32)), some (.inr (.inr 80)), some (.inl i)], (o.2.2.toList ++ [.inl a], (o.1, o.2.1)))) Q) := hr.mono (fun o2 ho2 => by
      obtain ⟨H2, rfl, hp⟩ := ho2
      have fin := tail Ls' H2 hp
      simp only [x270_1080, ct_c, ct_z, cat_I, cat_J, cat_A, lq_I, lq_A, lq_n, Nat.reduceAdd, Nat.reduceLeDiff, true_and, and_true, true_or, or_true, ev_b, eq_self, Option.toList_some, Option.toList_none, List.cons_append, List.nil_append]
      simpa using fin)
    simp (disch := omega) only [x270_1076, x270_1077, ct_c, ct_z, cat_I, cat_J, cat_A, lq_I, lq_A, lq_n, Nat.reduceAdd, Nat.reduceLeDiff, true_and, and_true, true_or, or_true, ev_b, eq_self, Option.toList_some, Option.toList_none, List.cons_append, List.nil_append, ld4, rc32, rc80, sw_id, ↓ok_and]
    exact key2
  simp (disch := omega) only [x270_1072, x270_1073, ct_c, ct_z, cat_I, cat_J, cat_A, lq_I, lq_A, lq_n, Nat.reduceAdd, Nat.reduceLeDiff, true_and, and_true, true_or, or_true, ev_b, eq_self, Option.toList_some, Option.toList_none, List.cons_append, List.nil_append, ld4, rc32, rc80, sw_id, ↓ok_and]
  exact key1
theorem lc_33 (hb : 0 ≤ i ∧ i + 6 ≤ L) (hL : L ≤ 3072) (hs : Sim2 (st_S fmt L xs) 60 Ls H 126 240 [.inl ((xs (i + 1).toNat).toInt), .inl ((xs (i + 2).toNat).toInt)] P) (tail : ∀ Ls' H2, P Ls' H2 → Bx (st_S fmt L xs) 60 270 (1302, ([some (.inr (.inr 4)), some (.inr (.inr 32)), some (.inr (.inr 80)), some (.inl i)], ([], (kk0 ++ Ls', H2)))) Q) : Bx (st_S fmt L xs) 60 270 (1085, ([some (.inr (.inr 4)), some (.inr (.inr 32)), some (.inr (.inr 80)), some (.inl i)], ([], (kk0 ++ Ls, H)))) Q := by
  have key1 : Ru (st_S fmt L xs) 60 126 [.inr (.inr 32), .inl ((xs (i + 1).toNat).toInt), .inl ((xs (i + 2).toNat).toInt)] (kk0 ++ Ls) H (fun o => Bx (st_S fmt L xs) 60 270 (1099, ([some (.inr (.inr 4)), some (.inr (.inr 32)), some (.inr (.inr 80)), some (.inl i)], (o.2.2.toList ++ [], (o.1, o.2.1)))) Q) := by
    refine Ru.mono hs (fun o ho => ?_)
    obtain ⟨Ls', H1, a, rfl, hr⟩ := ho
    have key2 : Ru (st_S fmt L xs) 60 240 [.inr (.inr 80), .inl ((xs (i + 1).toNat).toInt), .inl ((xs (i + 2).toNat).toInt)] (kk0 ++ Ls') H1 (fun o => Bx (st_S fmt L xs) 60 270 (1113, ([some (.inr (.inr 4)), some (.inr (.inr 32)), some (.inr (.inr 80)), some (.inl i)], (o.2.2.toList ++ [.inl a], (o.1, o.2.1)))) Q) := hr.mono (fun o2 ho2 => by
      obtain ⟨H2, rfl, hp⟩ := ho2
      have fin := tail Ls' H2 hp
      simp only [x270_1113, ct_c, ct_z, cat_I, cat_J, cat_A, lq_I, lq_A, lq_n, Nat.reduceAdd, Nat.reduceLeDiff, true_and, and_true, true_or, or_true, ev_b, eq_self, Option.toList_some, Option.toList_none, List.cons_append, List.nil_append]
      simpa using fin)
    simp (disch := omega) only [x270_1099, x270_1100, x270_1101, x270_1102, x270_1103, x270_1104, x270_1105, x270_1106, x270_1107, x270_1108, x270_1109, x270_1110, ct_c, ct_z, cat_I, cat_J, cat_A, lq_I, lq_A, lq_n, Nat.reduceAdd, Nat.reduceLeDiff, true_and, and_true, true_or, or_true, ev_b, eq_self, Option.toList_some, Option.toList_none, List.cons_append, List.nil_append, ld4, rc32, rc80, sw_id, ↓ok_and]
    exact key2
  simp (disch := omega) only [x270_1085, x270_1086, x270_1087, x270_1088, x270_1089, x270_1090, x270_1091, x270_1092, x270_1093, x270_1094, x270_1095, x270_1096, ct_c, ct_z, cat_I, cat_J, cat_A, lq_I, lq_A, lq_n, Nat.reduceAdd, Nat.reduceLeDiff, true_and, and_true, true_or, or_true, ev_b, eq_self, Option.toList_some, Option.toList_none, List.cons_append, List.nil_append, ld4, rc32, rc80, sw_id, ↓ok_and]
  exact key1
theorem lc_34 (hb : 0 ≤ i ∧ i + 6 ≤ L) (hL : L ≤ 3072) (hs : Sim2 (st_S fmt L xs) 60 Ls H 127 241 [] P) (tail : ∀ Ls' H2, P Ls' H2 → Bx (st_S fmt L xs) 60 270 (1302, ([some (.inr (.inr 4)), some (.inr (.inr 32)), some (.inr (.inr 80)), some (.inl i)], ([], (kk0 ++ Ls', H2)))) Q) : Bx (st_S fmt L xs) 60 270 (1118, ([some (.inr (.inr 4)), some (.inr (.inr 32)), some (.inr (.inr 80)), some (.inl i)], ([], (kk0 ++ Ls, H)))) Q := by
  have key1 : Ru (st_S fmt L xs) 60 127 [.inr (.inr 32)] (kk0 ++ Ls) H (fun o => Bx (st_S fmt L xs) 60 270 (1122, ([some (.inr (.inr 4)), some (.inr (.inr 32)), some (.inr (.inr 80)), some (.inl i)], (o.2.2.toList ++ [], (o.1, o.2.1)))) Q) := by
    refine Ru.mono hs (fun o ho => ?_)
    obtain ⟨Ls', H1, a, rfl, hr⟩ := ho
    have key2 : Ru (st_S fmt L xs) 60 241 [.inr (.inr 80)] (kk0 ++ Ls') H1 (fun o => Bx (st_S fmt L xs) 60 270 (1126, ([some (.inr (.inr 4)), some (.inr (.inr 32)), some (.inr (.inr 80)), some (.inl i)], (o.2.2.toList ++ [.inl a], (o.1, o.2.1)))) Q) := hr.mono (fun o2 ho2 => by
      obtain ⟨H2, rfl, hp⟩ := ho2
      have fin := tail Ls' H2 hp
      simp only [x270_1126, ct_c, ct_z, cat_I, cat_J, cat_A, lq_I, lq_A, lq_n, Nat.reduceAdd, Nat.reduceLeDiff, true_and, and_true, true_or, or_true, ev_b, eq_self, Option.toList_some, Option.toList_none, List.cons_append, List.nil_append]
      simpa using fin)
    simp (disch := omega) only [x270_1122, x270_1123, ct_c, ct_z, cat_I, cat_J, cat_A, lq_I, lq_A, lq_n, Nat.reduceAdd, Nat.reduceLeDiff, true_and, and_true, true_or, or_true, ev_b, eq_self, Option.toList_some, Option.toList_none, List.cons_append, List.nil_append, ld4, rc32, rc80, sw_id, ↓ok_and]
    exact key2
  simp (disch := omega) only [x270_1118, x270_1119, ct_c, ct_z, cat_I, cat_J, cat_A, lq_I, lq_A, lq_n, Nat.reduceAdd, Nat.reduceLeDiff, true_and, and_true, true_or, or_true, ev_b, eq_self, Option.toList_some, Option.toList_none, List.cons_append, List.nil_append, ld4, rc32, rc80, sw_id, ↓ok_and]
  exact key1
theorem lc_35 (hb : 0 ≤ i ∧ i + 6 ≤ L) (hL : L ≤ 3072) (hs : Sim2 (st_S fmt L xs) 60 Ls H 128 246 [.inl ((xs (i + 1).toNat).toInt), .inl ((xs (i + 2).toNat).toInt)] P) (tail : ∀ Ls' H2, P Ls' H2 → Bx (st_S fmt L xs) 60 270 (1302, ([some (.inr (.inr 4)), some (.inr (.inr 32)), some (.inr (.inr 80)), some (.inl i)], ([], (kk0 ++ Ls', H2)))) Q) : Bx (st_S fmt L xs) 60 270 (1131, ([some (.inr (.inr 4)), some (.inr (.inr 32)), some (.inr (.inr 80)), some (.inl i)], ([], (kk0 ++ Ls, H)))) Q := by
  have key1 : Ru (st_S fmt L xs) 60 128 [.inr (.inr 32), .inl ((xs (i + 1).toNat).toInt), .inl ((xs (i + 2).toNat).toInt)] (kk0 ++ Ls) H (fun o => Bx (st_S fmt L xs) 60 270 (1145, ([some (.inr (.inr 4)), some (.inr (.inr 32)), some (.inr (.inr 80)), some (.inl i)], (o.2.2.toList ++ [], (o.1, o.2.1)))) Q) := by
    refine Ru.mono hs (fun o ho => ?_)
    obtain ⟨Ls', H1, a, rfl, hr⟩ := ho
    have key2 : Ru (st_S fmt L xs) 60 246 [.inr (.inr 80), .inl ((xs (i + 1).toNat).toInt), .inl ((xs (i + 2).toNat).toInt)] (kk0 ++ Ls') H1 (fun o => Bx (st_S fmt L xs) 60 270 (1159, ([some (.inr (.inr 4)), some (.inr (.inr 32)), some (.inr (.inr 80)), some (.inl i)], (o.2.2.toList ++ [.inl a], (o.1, o.2.1)))) Q) := hr.mono (fun o2 ho2 => by
      obtain ⟨H2, rfl, hp⟩ := ho2
      have fin := tail Ls' H2 hp
      simp only [x270_1159, ct_c, ct_z, cat_I, cat_J, cat_A, lq_I, lq_A, lq_n, Nat.reduceAdd, Nat.reduceLeDiff, true_and, and_true, true_or, or_true, ev_b, eq_self, Option.toList_some, Option.toList_none, List.cons_append, List.nil_append]
      simpa using fin)
    simp (disch := omega) only [x270_1145, x270_1146, x270_1147, x270_1148, x270_1149, x270_1150, x270_1151, x270_1152, x270_1153, x270_1154, x270_1155, x270_1156, ct_c, ct_z, cat_I, cat_J, cat_A, lq_I, lq_A, lq_n, Nat.reduceAdd, Nat.reduceLeDiff, true_and, and_true, true_or, or_true, ev_b, eq_self, Option.toList_some, Option.toList_none, List.cons_append, List.nil_append, ld4, rc32, rc80, sw_id, ↓ok_and]
    exact key2
  simp (disch := omega) only [x270_1131, x270_1132, x270_1133, x270_1134, x270_1135, x270_1136, x270_1137, x270_1138, x270_1139, x270_1140, x270_1141, x270_1142, ct_c, ct_z, cat_I, cat_J, cat_A, lq_I, lq_A, lq_n, Nat.reduceAdd, Nat.reduceLeDiff, true_and, and_true, true_or, or_true, ev_b, eq_self, Option.toList_some, Option.toList_none, List.cons_append, List.nil_append, ld4, rc32, rc80, sw_id, ↓ok_and]
  exact key1
theorem lc_36 (hb : 0 ≤ i ∧ i + 6 ≤ L) (hL : L ≤ 3072) (hs : Sim2 (st_S fmt L xs) 60 Ls H 129 250 [.inl ((xs (i + 1).toNat).toInt), .inl ((xs (i + 2).toNat).toInt)] P) (tail : ∀ Ls' H2, P Ls' H2 → Bx (st_S fmt L xs) 60 270 (1302, ([some (.inr (.inr 4)), some (.inr (.inr 32)), some (.inr (.inr 80)), some (.inl i)], ([], (kk0 ++ Ls', H2)))) Q) : Bx (st_S fmt L xs) 60 270 (1164, ([some (.inr (.inr 4)), some (.inr (.inr 32)), some (.inr (.inr 80)), some (.inl i)], ([], (kk0 ++ Ls, H)))) Q := by
  have key1 : Ru (st_S fmt L xs) 60 129 [.inr (.inr 32), .inl ((xs (i + 1).toNat).toInt), .inl ((xs (i + 2).toNat).toInt)] (kk0 ++ Ls) H (fun o => Bx (st_S fmt L xs) 60 270 (1178, ([some (.inr (.inr 4)), some (.inr (.inr 32)), some (.inr (.inr 80)), some (.inl i)], (o.2.2.toList ++ [], (o.1, o.2.1)))) Q) := by
    refine Ru.mono hs (fun o ho => ?_)
    obtain ⟨Ls', H1, a, rfl, hr⟩ := ho
    have key2 : Ru (st_S fmt L xs) 60 250 [.inr (.inr 80), .inl ((xs (i + 1).toNat).toInt), .inl ((xs (i + 2).toNat).toInt)] (kk0 ++ Ls') H1 (fun o => Bx (st_S fmt L xs) 60 270 (1192, ([some (.inr (.inr 4)), some (.inr (.inr 32)), some (.inr (.inr 80)), some (.inl i)], (o.2.2.toList ++ [.inl a], (o.1, o.2.1)))) Q) := hr.mono (fun o2 ho2 => by
      obtain ⟨H2, rfl, hp⟩ := ho2
      have fin := tail Ls' H2 hp
      simp only [x270_1192, ct_c, ct_z, cat_I, cat_J, cat_A, lq_I, lq_A, lq_n, Nat.reduceAdd, Nat.reduceLeDiff, true_and, and_true, true_or, or_true, ev_b, eq_self, Option.toList_some, Option.toList_none, List.cons_append, List.nil_append]
      simpa using fin)
    simp (disch := omega) only [x270_1178, x270_1179, x270_1180, x270_1181, x270_1182, x270_1183, x270_1184, x270_1185, x270_1186, x270_1187, x270_1188, x270_1189, ct_c, ct_z, cat_I, cat_J, cat_A, lq_I, lq_A, lq_n, Nat.reduceAdd, Nat.reduceLeDiff, true_and, and_true, true_or, or_true, ev_b, eq_self, Option.toList_some, Option.toList_none, List.cons_append, List.nil_append, ld4, rc32, rc80, sw_id, ↓ok_and]
    exact key2
  simp (disch := omega) only [x270_1164, x270_1165, x270_1166, x270_1167, x270_1168, x270_1169, x270_1170, x270_1171, x270_1172, x270_1173, x270_1174, x270_1175, ct_c, ct_z, cat_I, cat_J, cat_A, lq_I, lq_A, lq_n, Nat.reduceAdd, Nat.reduceLeDiff, true_and, and_true, true_or, or_true, ev_b, eq_self, Option.toList_some, Option.toList_none, List.cons_append, List.nil_append, ld4, rc32, rc80, sw_id, ↓ok_and]
  exact key1
theorem lc_37 (hb : 0 ≤ i ∧ i + 6 ≤ L) (hL : L ≤ 3072) (hs : Sim2 (st_S fmt L xs) 60 Ls H 130 251 [.inl ((xs (i + 1).toNat).toInt)] P) (tail : ∀ Ls' H2, P Ls' H2 → Bx (st_S fmt L xs) 60 270 (1302, ([some (.inr (.inr 4)), some (.inr (.inr 32)), some (.inr (.inr 80)), some (.inl i)], ([], (kk0 ++ Ls', H2)))) Q) : Bx (st_S fmt L xs) 60 270 (1197, ([some (.inr (.inr 4)), some (.inr (.inr 32)), some (.inr (.inr 80)), some (.inl i)], ([], (kk0 ++ Ls, H)))) Q := by
  have key1 : Ru (st_S fmt L xs) 60 130 [.inr (.inr 32), .inl ((xs (i + 1).toNat).toInt)] (kk0 ++ Ls) H (fun o => Bx (st_S fmt L xs) 60 270 (1206, ([some (.inr (.inr 4)), some (.inr (.inr 32)), some (.inr (.inr 80)), some (.inl i)], (o.2.2.toList ++ [], (o.1, o.2.1)))) Q) := by
    refine Ru.mono hs (fun o ho => ?_)
    obtain ⟨Ls', H1, a, rfl, hr⟩ := ho
    have key2 : Ru (st_S fmt L xs) 60 251 [.inr (.inr 80), .inl ((xs (i + 1).toNat).toInt)] (kk0 ++ Ls') H1 (fun o => Bx (st_S fmt L xs) 60 270 (1215, ([some (.inr (.inr 4)), some (.inr (.inr 32)), some (.inr (.inr 80)), some (.inl i)], (o.2.2.toList ++ [.inl a], (o.1, o.2.1)))) Q) := hr.mono (fun o2 ho2 => by
      obtain ⟨H2, rfl, hp⟩ := ho2
      have fin := tail Ls' H2 hp
      simp only [x270_1215, ct_c, ct_z, cat_I, cat_J, cat_A, lq_I, lq_A, lq_n, Nat.reduceAdd, Nat.reduceLeDiff, true_and, and_true, true_or, or_true, ev_b, eq_self, Option.toList_some, Option.toList_none, List.cons_append, List.nil_append]
      simpa using fin)
    simp (disch := omega) only [x270_1206, x270_1207, x270_1208, x270_1209, x270_1210, x270_1211, x270_1212, ct_c, ct_z, cat_I, cat_J, cat_A, lq_I, lq_A, lq_n, Nat.reduceAdd, Nat.reduceLeDiff, true_and, and_true, true_or, or_true, ev_b, eq_self, Option.toList_some, Option.toList_none, List.cons_append, List.nil_append, ld4, rc32, rc80, sw_id, ↓ok_and]
    exact key2
  simp (disch := omega) only [x270_1197, x270_1198, x270_1199, x270_1200, x270_1201, x270_1202, x270_1203, ct_c, ct_z, cat_I, cat_J, cat_A, lq_I, lq_A, lq_n, Nat.reduceAdd, Nat.reduceLeDiff, true_and, and_true, true_or, or_true, ev_b, eq_self, Option.toList_some, Option.toList_none, List.cons_append, List.nil_append, ld4, rc32, rc80, sw_id, ↓ok_and]
  exact key1
theorem lc_38 (hb : 0 ≤ i ∧ i + 6 ≤ L) (hL : L ≤ 3072) (hs : Sim2 (st_S fmt L xs) 60 Ls H 131 145 [.inl ((xs (i + 1).toNat).toInt)] P) (tail : ∀ Ls' H2, P Ls' H2 → Bx (st_S fmt L xs) 60 270 (1302, ([some (.inr (.inr 4)), some (.inr (.inr 32)), some (.inr (.inr 80)), some (.inl i)], ([], (kk0 ++ Ls', H2)))) Q) : Bx (st_S fmt L xs) 60 270 (1220, ([some (.inr (.inr 4)), some (.inr (.inr 32)), some (.inr (.inr 80)), some (.inl i)], ([], (kk0 ++ Ls, H)))) Q := by
  have key1 : Ru (st_S fmt L xs) 60 131 [.inr (.inr 32), .inl ((xs (i + 1).toNat).toInt)] (kk0 ++ Ls) H (fun o => Bx (st_S fmt L xs) 60 270 (1229, ([some (.inr (.inr 4)), some (.inr (.inr 32)), some (.inr (.inr 80)), some (.inl i)], (o.2.2.toList ++ [], (o.1, o.2.1)))) Q) := by
    refine Ru.mono hs (fun o ho => ?_)
    obtain ⟨Ls', H1, a, rfl, hr⟩ := ho
    have key2 : Ru (st_S fmt L xs) 60 145 [.inr (.inr 80), .inl ((xs (i + 1).toNat).toInt)] (kk0 ++ Ls') H1 (fun o => Bx (st_S fmt L xs) 60 270 (1238, ([some (.inr (.inr 4)), some (.inr (.inr 32)), some (.inr (.inr 80)), some (.inl i)], (o.2.2.toList ++ [.inl a], (o.1, o.2.1)))) Q) := hr.mono (fun o2 ho2 => by
      obtain ⟨H2, rfl, hp⟩ := ho2
      have fin := tail Ls' H2 hp
      simp only [x270_1238, ct_c, ct_z, cat_I, cat_J, cat_A, lq_I, lq_A, lq_n, Nat.reduceAdd, Nat.reduceLeDiff, true_and, and_true, true_or, or_true, ev_b, eq_self, Option.toList_some, Option.toList_none, List.cons_append, List.nil_append]
      simpa using fin)
    simp (disch := omega) only [x270_1229, x270_1230, x270_1231, x270_1232, x270_1233, x270_1234, x270_1235, ct_c, ct_z, cat_I, cat_J, cat_A, lq_I, lq_A, lq_n, Nat.reduceAdd, Nat.reduceLeDiff, true_and, and_true, true_or, or_true, ev_b, eq_self, Option.toList_some, Option.toList_none, List.cons_append, List.nil_append, ld4, rc32, rc80, sw_id, ↓ok_and]
    exact key2
  simp (disch := omega) only [x270_1220, x270_1221, x270_1222, x270_1223, x270_1224, x270_1225, x270_1226, ct_c, ct_z, cat_I, cat_J, cat_A, lq_I, lq_A, lq_n, Nat.reduceAdd, Nat.reduceLeDiff, true_and, and_true, true_or, or_true, ev_b, eq_self, Option.toList_some, Option.toList_none, List.cons_append, List.nil_append, ld4, rc32, rc80, sw_id, ↓ok_and]
  exact key1
theorem lc_39 (hb : 0 ≤ i ∧ i + 6 ≤ L) (hL : L ≤ 3072) (hs : Sim2 (st_S fmt L xs) 60 Ls H 132 146 [.inl ((xs (i + 1).toNat).toInt)] P) (tail : ∀ Ls' H2, P Ls' H2 → Bx (st_S fmt L xs) 60 270 (1302, ([some (.inr (.inr 4)), some (.inr (.inr 32)), some (.inr (.inr 80)), some (.inl i)], ([], (kk0 ++ Ls', H2)))) Q) : Bx (st_S fmt L xs) 60 270 (1243, ([some (.inr (.inr 4)), some (.inr (.inr 32)), some (.inr (.inr 80)), some (.inl i)], ([], (kk0 ++ Ls, H)))) Q := by
  have key1 : Ru (st_S fmt L xs) 60 132 [.inr (.inr 32), .inl ((xs (i + 1).toNat).toInt)] (kk0 ++ Ls) H (fun o => Bx (st_S fmt L xs) 60 270 (1252, ([some (.inr (.inr 4)), some (.inr (.inr 32)), some (.inr (.inr 80)), some (.inl i)], (o.2.2.toList ++ [], (o.1, o.2.1)))) Q) := by
    refine Ru.mono hs (fun o ho => ?_)
    obtain ⟨Ls', H1, a, rfl, hr⟩ := ho
    have key2 : Ru (st_S fmt L xs) 60 146 [.inr (.inr 80), .inl ((xs (i + 1).toNat).toInt)] (kk0 ++ Ls') H1 (fun o => Bx (st_S fmt L xs) 60 270 (1261, ([some (.inr (.inr 4)), some (.inr (.inr 32)), some (.inr (.inr 80)), some (.inl i)], (o.2.2.toList ++ [.inl a], (o.1, o.2.1)))) Q) := hr.mono (fun o2 ho2 => by
      obtain ⟨H2, rfl, hp⟩ := ho2
      have fin := tail Ls' H2 hp
      simp only [x270_1261, ct_c, ct_z, cat_I, cat_J, cat_A, lq_I, lq_A, lq_n, Nat.reduceAdd, Nat.reduceLeDiff, true_and, and_true, true_or, or_true, ev_b, eq_self, Option.toList_some, Option.toList_none, List.cons_append, List.nil_append]
      simpa using fin)
    simp (disch := omega) only [x270_1252, x270_1253, x270_1254, x270_1255, x270_1256, x270_1257, x270_1258, ct_c, ct_z, cat_I, cat_J, cat_A, lq_I, lq_A, lq_n, Nat.reduceAdd, Nat.reduceLeDiff, true_and, and_true, true_or, or_true, ev_b, eq_self, Option.toList_some, Option.toList_none, List.cons_append, List.nil_append, ld4, rc32, rc80, sw_id, ↓ok_and]
    exact key2
  simp (disch := omega) only [x270_1243, x270_1244, x270_1245, x270_1246, x270_1247, x270_1248, x270_1249, ct_c, ct_z, cat_I, cat_J, cat_A, lq_I, lq_A, lq_n, Nat.reduceAdd, Nat.reduceLeDiff, true_and, and_true, true_or, or_true, ev_b, eq_self, Option.toList_some, Option.toList_none, List.cons_append, List.nil_append, ld4, rc32, rc80, sw_id, ↓ok_and]
  exact key1
theorem lc_40 (hb : 0 ≤ i ∧ i + 6 ≤ L) (hL : L ≤ 3072) (hs : Sim2 (st_S fmt L xs) 60 Ls H 133 252 [.inl ((xs (i + 1).toNat).toInt)] P) (tail : ∀ Ls' H2, P Ls' H2 → Bx (st_S fmt L xs) 60 270 (1302, ([some (.inr (.inr 4)), some (.inr (.inr 32)), some (.inr (.inr 80)), some (.inl i)], ([], (kk0 ++ Ls', H2)))) Q) : Bx (st_S fmt L xs) 60 270 (1266, ([some (.inr (.inr 4)), some (.inr (.inr 32)), some (.inr (.inr 80)), some (.inl i)], ([], (kk0 ++ Ls, H)))) Q := by
  have key1 : Ru (st_S fmt L xs) 60 133 [.inr (.inr 32), .inl ((xs (i + 1).toNat).toInt)] (kk0 ++ Ls) H (fun o => Bx (st_S fmt L xs) 60 270 (1275, ([some (.inr (.inr 4)), some (.inr (.inr 32)), some (.inr (.inr 80)), some (.inl i)], (o.2.2.toList ++ [], (o.1, o.2.1)))) Q) := by
    refine Ru.mono hs (fun o ho => ?_)
    obtain ⟨Ls', H1, a, rfl, hr⟩ := ho
    have key2 : Ru (st_S fmt L xs) 60 252 [.inr (.inr 80), .inl ((xs (i + 1).toNat).toInt)] (kk0 ++ Ls') H1 (fun o => Bx (st_S fmt L xs) 60 270 (1284, ([some (.inr (.inr 4)), some (.inr (.inr 32)), some (.inr (.inr 80)), some (.inl i)], (o.2.2.toList ++ [.inl a], (o.1, o.2.1)))) Q) := hr.mono (fun o2 ho2 => by
      obtain ⟨H2, rfl, hp⟩ := ho2
      have fin := tail Ls' H2 hp
      simp only [x270_1284, ct_c, ct_z, cat_I, cat_J, cat_A, lq_I, lq_A, lq_n, Nat.reduceAdd, Nat.reduceLeDiff, true_and, and_true, true_or, or_true, ev_b, eq_self, Option.toList_some, Option.toList_none, List.cons_append, List.nil_append]
      simpa using fin)
    simp (disch := omega) only [x270_1275, x270_1276, x270_1277, x270_1278, x270_1279, x270_1280, x270_1281, ct_c, ct_z, cat_I, cat_J, cat_A, lq_I, lq_A, lq_n, Nat.reduceAdd, Nat.reduceLeDiff, true_and, and_true, true_or, or_true, ev_b, eq_self, Option.toList_some, Option.toList_none, List.cons_append, List.nil_append, ld4, rc32, rc80, sw_id, ↓ok_and]
    exact key2
  simp (disch := omega) only [x270_1266, x270_1267, x270_1268, x270_1269, x270_1270, x270_1271, x270_1272, ct_c, ct_z, cat_I, cat_J, cat_A, lq_I, lq_A, lq_n, Nat.reduceAdd, Nat.reduceLeDiff, true_and, and_true, true_or, or_true, ev_b, eq_self, Option.toList_some, Option.toList_none, List.cons_append, List.nil_append, ld4, rc32, rc80, sw_id, ↓ok_and]
  exact key1
theorem lc_41 (hb : 0 ≤ i ∧ i + 6 ≤ L) (hL : L ≤ 3072) (hs : Sim2 (st_S fmt L xs) 60 Ls H 134 253 [] P) (tail : ∀ Ls' H2, P Ls' H2 → Bx (st_S fmt L xs) 60 270 (1302, ([some (.inr (.inr 4)), some (.inr (.inr 32)), some (.inr (.inr 80)), some (.inl i)], ([], (kk0 ++ Ls', H2)))) Q) : Bx (st_S fmt L xs) 60 270 (1289, ([some (.inr (.inr 4)), some (.inr (.inr 32)), some (.inr (.inr 80)), some (.inl i)], ([], (kk0 ++ Ls, H)))) Q := by
  have key1 : Ru (st_S fmt L xs) 60 134 [.inr (.inr 32)] (kk0 ++ Ls) H (fun o => Bx (st_S fmt L xs) 60 270 (1293, ([some (.inr (.inr 4)), some (.inr (.inr 32)), some (.inr (.inr 80)), some (.inl i)], (o.2.2.toList ++ [], (o.1, o.2.1)))) Q) := by
    refine Ru.mono hs (fun o ho => ?_)
    obtain ⟨Ls', H1, a, rfl, hr⟩ := ho
    have key2 : Ru (st_S fmt L xs) 60 253 [.inr (.inr 80)] (kk0 ++ Ls') H1 (fun o => Bx (st_S fmt L xs) 60 270 (1297, ([some (.inr (.inr 4)), some (.inr (.inr 32)), some (.inr (.inr 80)), some (.inl i)], (o.2.2.toList ++ [.inl a], (o.1, o.2.1)))) Q) := hr.mono (fun o2 ho2 => by
      obtain ⟨H2, rfl, hp⟩ := ho2
      have fin := tail Ls' H2 hp
      simp only [x270_1297, ct_c, ct_z, cat_I, cat_J, cat_A, lq_I, lq_A, lq_n, Nat.reduceAdd, Nat.reduceLeDiff, true_and, and_true, true_or, or_true, ev_b, eq_self, Option.toList_some, Option.toList_none, List.cons_append, List.nil_append]
      simpa using fin)
    simp (disch := omega) only [x270_1293, x270_1294, ct_c, ct_z, cat_I, cat_J, cat_A, lq_I, lq_A, lq_n, Nat.reduceAdd, Nat.reduceLeDiff, true_and, and_true, true_or, or_true, ev_b, eq_self, Option.toList_some, Option.toList_none, List.cons_append, List.nil_append, ld4, rc32, rc80, sw_id, ↓ok_and]
    exact key2
  simp (disch := omega) only [x270_1289, x270_1290, ct_c, ct_z, cat_I, cat_J, cat_A, lq_I, lq_A, lq_n, Nat.reduceAdd, Nat.reduceLeDiff, true_and, and_true, true_or, or_true, ev_b, eq_self, Option.toList_some, Option.toList_none, List.cons_append, List.nil_append, ld4, rc32, rc80, sw_id, ↓ok_and]
  exact key1
end SWITCH
