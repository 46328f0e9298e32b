/-! THE LAW'S START: what the small machine needs, out of what the Statement gives -/
/-! THE CLAIM OUT OF ONE WALK OF THE LAW'S BODY. Your part is whole_start (and what it stands on); all else here is the same for every law, but numbers. -/
def R_law : String := "BellHerdLaw"
def lw_P (b : Addr) (xs : List Int32) (args : Array Value) (s : State) : Prop := args = #[.ref b] ∧ s.IntsAt b xs ∧ xs.length ≤ 3072 ∧ (Jvm.Cond.and given_1 narrow_1).before args s = true
def lw_Q (_ : Array Value) (s : State) (o : Outcome) (t : State) : Prop := o = .returned (some (.int 1)) ∧ Framed s o t [] room_1.cells room_1.slots
def lw_Z (below : List Frame) (a : Array Value) (s : State) : State → Prop := fun t => ∃ o, t.status = .running ∧ Ended t below o ∧ lw_Q a s o t
/-- the law's own end, with 1 on the stack, nothing written that was there before, its room as the claim has it -/
theorem lw_ret {p : Program} {l : Launch} {e : Env} {s : State} {m : MethodId} {below : List Frame} {meth : Method} {c : Code} {b : Nat} (hx : p.tables.exec = Jvm.exec) (hb : c.code = code) (hr : meth.sig.returnType = ret) (hlocks : meth.locks = false) {pc : Nat} {H : Heap} {ls : Array Slot} (hdg : decode code pc = .ok (.ireturn, 1)) : W p l e room_1 s m #[Value.ref b] below meth c H [] room_1.cells room_1.slots (lw_Z below #[Value.ref b] s) (F0 m pc ls [.int 1]) := by
  intro T hT X
  obtain ⟨fs, hret, hrun, hended, hW, hframe⟩ := X.leave (v := some (.int 1)) (hlocks := hlocks) (fun h => by rw [hr] at h; cases h)
  have hmeth' : T.vm.method? m = some meth := X.method'
  refine ⟨T.setFrames fs, ?_, .returned (some (.int 1)), hrun, hended, rfl, ⟨_, rfl⟩, hW, hframe⟩
  jvm_step X.here [X.here.top, hx, hb, hdg, hmeth', hr, ret, narrow_b1]
  (try refine ⟨rfl, ?_⟩); (try refine ⟨rfl, ?_⟩)
  first | (intro acts; rw [hret _ acts rfl rfl rfl]) | rw [hret _ _ rfl rfl rfl]
  exact Steps.refl _
/-- what holds at the law's entry: the machine, the code, the tables' words (any of lw_tbl by 'hts w (by decide +kernel)'), the script of L ints xs at the cell b, what the Statement gives of the start (any of its parts by flat_of_before) -/
def lw_At (p : Program) (s : State) (m : MethodId) (meth : Method) (c : Code) (b L : Nat) (xs : Nat → Int32) : Prop :=
  p.tables.exec = Jvm.exec ∧ c.code = code ∧ meth.sig.returnType = ret ∧ c.maxLocals = 4 ∧ s.vm.findClass R_law = some m.cls ∧ (∀ w ∈ lw_tbl, w.before #[Value.ref b] s = true) ∧ va_X b L xs s s.heap ∧ b < s.heap.size ∧ meth.locks = false ∧ (Jvm.Cond.and given_1 narrow_1).before #[Value.ref b] s = true
def st_ix : List Nat := [68, 120, 77, 102, 100, 89]
def st_tm (i : Nat) : Term := .string "BellHerd$Reader" (st_ix.getD i 0)
def st_fl : List Cond := flatC (Jvm.Cond.and given_1 narrow_1)
theorem st_s1 : ∀ i, i < 6 → Cond.exactly (st_tm i) "java/lang/String" ∈ st_fl := by decide +kernel
theorem st_s2 : ∀ i, i < 6 → Cond.eq (.field (st_tm i) "java/lang/String" "coder" "B") (.int 0) ∈ st_fl := by decide +kernel
theorem st_s3 : ∀ i, i < 6 → Cond.arrayOf (.field (st_tm i) "java/lang/String" "value" "[B") .byte ∈ st_fl := by decide +kernel
theorem st_s4 : ∀ i, i < 6 → Cond.eq (.length (.field (st_tm i) "java/lang/String" "value" "[B")) (.int (Int32.ofNat ((sm_str.map List.length).getD i 0))) ∈ st_fl := by decide +kernel
set_option maxRecDepth 100000 in
theorem st_s5_0 : ∀ j, j < (sm_str.map List.length).getD 0 0 → Cond.eq (.elem (.field (st_tm 0) "java/lang/String" "value" "[B") (.int (Int32.ofNat j))) (.int (((sm_str.map (fun l => l.map Int32.ofInt)).getD 0 []).getD j 0)) ∈ st_fl := by decide +kernel
set_option maxRecDepth 100000 in
theorem st_s5_1 : ∀ j, j < (sm_str.map List.length).getD 1 0 → Cond.eq (.elem (.field (st_tm 1) "java/lang/String" "value" "[B") (.int (Int32.ofNat j))) (.int (((sm_str.map (fun l => l.map Int32.ofInt)).getD 1 []).getD j 0)) ∈ st_fl := by decide +kernel
set_option maxRecDepth 100000 in
theorem st_s5_2 : ∀ j, j < (sm_str.map List.length).getD 2 0 → Cond.eq (.elem (.field (st_tm 2) "java/lang/String" "value" "[B") (.int (Int32.ofNat j))) (.int (((sm_str.map (fun l => l.map Int32.ofInt)).getD 2 []).getD j 0)) ∈ st_fl := by decide +kernel
set_option maxRecDepth 100000 in
theorem st_s5_3 : ∀ j, j < (sm_str.map List.length).getD 3 0 → Cond.eq (.elem (.field (st_tm 3) "java/lang/String" "value" "[B") (.int (Int32.ofNat j))) (.int (((sm_str.map (fun l => l.map Int32.ofInt)).getD 3 []).getD j 0)) ∈ st_fl := by decide +kernel
set_option maxRecDepth 100000 in
theorem st_s5_4 : ∀ j, j < (sm_str.map List.length).getD 4 0 → Cond.eq (.elem (.field (st_tm 4) "java/lang/String" "value" "[B") (.int (Int32.ofNat j))) (.int (((sm_str.map (fun l => l.map Int32.ofInt)).getD 4 []).getD j 0)) ∈ st_fl := by decide +kernel
set_option maxRecDepth 100000 in
theorem st_s5_5 : ∀ j, j < (sm_str.map List.length).getD 5 0 → Cond.eq (.elem (.field (st_tm 5) "java/lang/String" "value" "[B") (.int (Int32.ofNat j))) (.int (((sm_str.map (fun l => l.map Int32.ofInt)).getD 5 []).getD j 0)) ∈ st_fl := by decide +kernel
theorem st_s6 : ∀ i, i < 6 → ∀ j, j < 6 → i ≠ j → Cond.not (Cond.eq (st_tm i) (st_tm j)) ∈ st_fl ∨ Cond.not (Cond.eq (st_tm j) (st_tm i)) ∈ st_fl := by decide +kernel
def st_r1 : List Int := [0, 0, 1, 0, 0]
theorem st_a1 : Cond.arrayOf (.static "BellHerd" "LEAST_TRAIT" "[I") .int ∈ st_fl := by decide +kernel
theorem st_b1 : Cond.eq (.length (.static "BellHerd" "LEAST_TRAIT" "[I")) (.int (Int32.ofNat 5)) ∈ st_fl := by decide +kernel
theorem st_c1 : ∀ j, j < 5 → Cond.eq (.elem (.static "BellHerd" "LEAST_TRAIT" "[I") (.int (Int32.ofNat j))) (.int (Int32.ofInt (st_r1.getD j 0))) ∈ st_fl := by decide +kernel
theorem st_d1 : Cond.laysStatic "BellHerd" "LEAST_TRAIT" "[I" ∈ lw_tbl := List.mem_append_right _ (List.mem_append_right _ (List.mem_append_left _ (List.mem_of_getElem? (l := tables_1_2) (i := 172) rfl)))
theorem st_e1 : ∀ j, j < 5 → (Int32.ofInt (st_r1.getD j 0)).toInt = st_r1.getD j 0 := by decide +kernel
def st_r2 : List Int := [23, 1, 3, 9, 30]
theorem st_a2 : Cond.arrayOf (.static "BellHerd" "MOST_TRAIT" "[I") .int ∈ st_fl := by decide +kernel
theorem st_b2 : Cond.eq (.length (.static "BellHerd" "MOST_TRAIT" "[I")) (.int (Int32.ofNat 5)) ∈ st_fl := by decide +kernel
theorem st_c2 : ∀ j, j < 5 → Cond.eq (.elem (.static "BellHerd" "MOST_TRAIT" "[I") (.int (Int32.ofNat j))) (.int (Int32.ofInt (st_r2.getD j 0))) ∈ st_fl := by decide +kernel
theorem st_d2 : Cond.laysStatic "BellHerd" "MOST_TRAIT" "[I" ∈ lw_tbl := List.mem_append_right _ (List.mem_append_right _ (List.mem_append_left _ (List.mem_of_getElem? (l := tables_1_2) (i := 174) rfl)))
theorem st_e2 : ∀ j, j < 5 → (Int32.ofInt (st_r2.getD j 0)).toInt = st_r2.getD j 0 := by decide +kernel
def st_r3 : List Int := [-1431655766, -858993460, -252645136, -16711936, -65536]
theorem st_a3 : Cond.arrayOf (.static "BellHerd$Drives" "SETS_WITH" "[I") .int ∈ st_fl := by decide +kernel
theorem st_b3 : Cond.eq (.length (.static "BellHerd$Drives" "SETS_WITH" "[I")) (.int (Int32.ofNat 5)) ∈ st_fl := by decide +kernel
theorem st_c3 : ∀ j, j < 5 → Cond.eq (.elem (.static "BellHerd$Drives" "SETS_WITH" "[I") (.int (Int32.ofNat j))) (.int (Int32.ofInt (st_r3.getD j 0))) ∈ st_fl := by decide +kernel
theorem st_d3 : Cond.laysStatic "BellHerd$Drives" "SETS_WITH" "[I" ∈ lw_tbl := List.mem_append_right _ (List.mem_append_right _ (List.mem_append_right _ (List.mem_append_right _ (List.mem_append_left _ (List.mem_of_getElem? (l := tables_1_4) (i := 159) rfl)))))
theorem st_e3 : ∀ j, j < 5 → (Int32.ofInt (st_r3.getD j 0)).toInt = st_r3.getD j 0 := by decide +kernel
theorem st_d4 : Cond.laysStatic "java/lang/String" "COMPACT_STRINGS" "Z" ∈ lw_tbl := List.mem_append_right _ (List.mem_append_right _ (List.mem_append_right _ (List.mem_append_left _ (List.mem_of_getElem? (l := tables_1_3) (i := 76) rfl))))
theorem st_d5 : Cond.laysStatic "jdk/internal/util/Preconditions" "SIOOBE_FORMATTER" "Ljava/util/function/BiFunction;" ∈ lw_tbl := List.mem_append_right _ (List.mem_append_right _ (List.mem_append_right _ (List.mem_append_left _ (List.mem_of_getElem? (l := tables_1_3) (i := 92) rfl))))
theorem st_g4 : Cond.eq (.static "java/lang/String" "COMPACT_STRINGS" "Z") (.int 1) ∈ st_fl := by decide +kernel
theorem st_g5 : Cond.isRef (.static "jdk/internal/util/Preconditions" "SIOOBE_FORMATTER" "Ljava/util/function/BiFunction;") ∈ st_fl := by decide +kernel
theorem st_sr : ∀ q ∈ sm_srs, Cond.stringRef "BellHerd$Reader" q.1 q.2.1 ∈ lw_tbl := List.forall_mem_cons.mpr ⟨List.mem_append_right _ (List.mem_append_right _ (List.mem_append_right _ (List.mem_append_left _ (List.mem_of_getElem? (l := tables_1_3) (i := 62) rfl)))), List.forall_mem_cons.mpr ⟨List.mem_append_right _ (List.mem_append_right _ (List.mem_append_right _ (List.mem_append_left _ (List.mem_of_getElem? (l := tables_1_3) (i := 135) rfl)))), List.forall_mem_cons.mpr ⟨List.mem_append_right _ (List.mem_append_right _ (List.mem_append_right _ (List.mem_append_left _ (List.mem_of_getElem? (l := tables_1_3) (i := 144) rfl)))), List.forall_mem_cons.mpr ⟨List.mem_append_right _ (List.mem_append_right _ (List.mem_append_right _ (List.mem_append_left _ (List.mem_of_getElem? (l := tables_1_3) (i := 161) rfl)))), List.forall_mem_cons.mpr ⟨List.mem_append_right _ (List.mem_append_right _ (List.mem_append_right _ (List.mem_append_left _ (List.mem_of_getElem? (l := tables_1_3) (i := 170) rfl)))), List.forall_mem_cons.mpr ⟨List.mem_append_right _ (List.mem_append_right _ (List.mem_append_right _ (List.mem_append_left _ (List.mem_of_getElem? (l := tables_1_3) (i := 171) rfl)))), fun w h => absurd h List.not_mem_nil⟩⟩⟩⟩⟩⟩
set_option maxRecDepth 100000 in
theorem st_nst : ∀ q ∈ sm_nst 9, Cond.methodLinkNest "BellHerd" q.1 (sm_mn q.2) "BellHerd" ∈ lw_tbl := List.forall_mem_cons.mpr ⟨List.mem_append_right _ (List.mem_append_left _ (List.mem_of_getElem? (l := tables_1_1) (i := 30) rfl)), List.forall_mem_cons.mpr ⟨List.mem_append_right _ (List.mem_append_left _ (List.mem_of_getElem? (l := tables_1_1) (i := 130) rfl)), List.forall_mem_cons.mpr ⟨List.mem_append_right _ (List.mem_append_left _ (List.mem_of_getElem? (l := tables_1_1) (i := 171) rfl)), List.forall_mem_cons.mpr ⟨List.mem_append_right _ (List.mem_append_right _ (List.mem_append_left _ (List.mem_of_getElem? (l := tables_1_2) (i := 46) rfl))), List.forall_mem_cons.mpr ⟨List.mem_append_right _ (List.mem_append_right _ (List.mem_append_left _ (List.mem_of_getElem? (l := tables_1_2) (i := 74) rfl))), List.forall_mem_cons.mpr ⟨List.mem_append_right _ (List.mem_append_right _ (List.mem_append_left _ (List.mem_of_getElem? (l := tables_1_2) (i := 95) rfl))), fun w h => absurd h List.not_mem_nil⟩⟩⟩⟩⟩⟩
theorem st_cst : Cond.castable "[I" "java/lang/Cloneable" ∈ lw_tbl := List.mem_append_right _ (List.mem_append_right _ (List.mem_append_right _ (List.mem_append_left _ (List.mem_of_getElem? (l := tables_1_3) (i := 182) rfl))))
theorem st_ovLaw : Cond.arrayOver (.object "BellHerd$Law") ∈ lw_tbl := List.mem_append_right _ (List.mem_append_left _ (List.mem_of_getElem? (l := tables_1_1) (i := 35) rfl))
theorem st_ovHerd : Cond.arrayOver (.object "BellHerd$Herd") ∈ lw_tbl := List.mem_append_right _ (List.mem_append_left _ (List.mem_of_getElem? (l := tables_1_1) (i := 127) rfl))
/-- the int rows that were there: the class's three, the script; and whether the formatter is null -/
def st_S (fmt : Bool) (L : Nat) (xs : Nat → Int32) : sm_E := fun a => match a with
  | 1 => some (5, fun i => st_r1.getD i.toNat 0)
  | 2 => some (5, fun i => st_r2.getD i.toNat 0)
  | 3 => some (5, fun i => st_r3.getD i.toNat 0)
  | 4 => some (L, fun i => (xs i.toNat).toInt)
  | 5 => if fmt then some (0, fun _ => 0) else none
  | _ => none
theorem st_X {b L : Nat} {xs : Nat → Int32} {s : State} {H : Heap} {A : Nat → Prop} (h : va_X b L xs s H) (hA : ¬ A b) : va_T .int b L (fun j => .int (xs j)) A s H := by
  obtain ⟨cell, h1, h2, h3, h4, h5⟩ := h
  exact ⟨cell, h1, h2, h3, by omega, by rw [h4], h5, hA⟩
theorem st_env {p : Program} {s : State} {m : MethodId} {meth : Method} {c : Code} {b L : Nat} {xs : Nat → Int32} (C0 : lw_At p s m meth c b L xs) : ∃ (fmt : Bool) (ad : Nat → Nat) (D : va_G), ad 4 = b ∧ so_Ev s.heap.size ad (st_S fmt L xs) s ∧ so_R s.heap.size ad D s [] (fun _ _ => 0) s.heap := by
  obtain ⟨hx, hb, hr, hml, hown, hts, hX, hbl, hlocks, hgv⟩ := C0
  have hs : ∀ w ∈ st_fl, w.before #[Value.ref b] s = true := flat_of_before _ hgv
  have hA : ∀ a : Nat, a < s.heap.size → ¬ (fun q => s.heap.size ≤ q) a := fun a h => Nat.not_le.mpr h
  have htb : ∀ w ∈ sm_tb, w.before #[Value.ref b] s = true := fun w hw => hts w (List.mem_filter.mp hw).1
  obtain ⟨adK, adV, hk, hkt⟩ := vk_Sof (tm := st_tm) (len := sm_str.map List.length) (byt := sm_str.map (fun l => l.map Int32.ofInt)) (N := 6) (by decide +kernel) (fun i hi => hs _ (st_s1 i hi)) (fun i hi => hs _ (st_s2 i hi)) (fun i hi => hs _ (st_s3 i hi)) (fun i hi => hs _ (st_s4 i hi)) (fun i hi => match i, hi with
    | 0, _ => fun j hj => hs _ (st_s5_0 j hj)
    | 1, _ => fun j hj => hs _ (st_s5_1 j hj)
    | 2, _ => fun j hj => hs _ (st_s5_2 j hj)
    | 3, _ => fun j hj => hs _ (st_s5_3 j hj)
    | 4, _ => fun j hj => hs _ (st_s5_4 j hj)
    | 5, _ => fun j hj => hs _ (st_s5_5 j hj)
    | i + 6, h => absurd h (by omega)) (fun i j hi hj hij => (st_s6 i hi j hj hij).elim (fun h => Or.inl (hs _ h)) (fun h => Or.inr (hs _ h))) hA
  obtain ⟨t1, e1, T1⟩ := va_Tof (f := fun j => .int (Int32.ofInt (st_r1.getD j 0))) (by decide) (hs _ st_a1) (va_eqt (hs _ st_b1)) (fun j hj => va_eqt (hs _ (st_c1 j hj))) hA
  obtain ⟨t2, e2, T2⟩ := va_Tof (f := fun j => .int (Int32.ofInt (st_r2.getD j 0))) (by decide) (hs _ st_a2) (va_eqt (hs _ st_b2)) (fun j hj => va_eqt (hs _ (st_c2 j hj))) hA
  obtain ⟨t3, e3, T3⟩ := va_Tof (f := fun j => .int (Int32.ofInt (st_r3.getD j 0))) (by decide) (hs _ st_a3) (va_eqt (hs _ st_b3)) (fun j hj => va_eqt (hs _ (st_c3 j hj))) hA
  have hq := va_Zqof (A := fun q => s.heap.size ≤ q) (hts _ st_d5) (htb _ (pf_ini 17 (by omega))) (hs _ st_g5) hA
  have hfm : ∃ (fmt : Bool) (t5 : Nat), va_Z "jdk/internal/util/Preconditions" "SIOOBE_FORMATTER" "Ljava/util/function/BiFunction;" (if fmt then .ref t5 else .null) (fun q => s.heap.size ≤ q) s s.heap := by
    rcases hq with h | ⟨t, h⟩
    · exact ⟨false, 0, h⟩
    · exact ⟨true, t, h⟩
  obtain ⟨fmt, t5, hfm⟩ := hfm
  refine ⟨fmt, fun a => if a = 1 then t1 else if a = 2 then t2 else if a = 3 then t3 else if a = 4 then b else if a = 5 then t5 else if a < 16 then adK (a - 8) else adV (a - 16), ?_⟩
  generalize hade : (fun a => if a = 1 then t1 else if a = 2 then t2 else if a = 3 then t3 else if a = 4 then b else if a = 5 then t5 else if a < 16 then adK (a - 8) else adV (a - 16)) = ad
  have a1 : ad 1 = t1 := by rw [← hade]; rfl
  have a2 : ad 2 = t2 := by rw [← hade]; rfl
  have a3 : ad 3 = t3 := by rw [← hade]; rfl
  have a4 : ad 4 = b := by rw [← hade]; rfl
  have a5 : ad 5 = t5 := by rw [← hade]; rfl
  have aK : ∀ i, i < 6 → ad (8 + i) = adK i := fun i hi => by
    rw [← hade]
    simp only
    rw [if_neg (by omega), if_neg (by omega), if_neg (by omega), if_neg (by omega), if_neg (by omega), if_pos (by omega), show 8 + i - 8 = i by omega]
  have aV : ∀ i, i < 6 → ad (16 + i) = adV i := fun i hi => by
    rw [← hade]
    simp only
    rw [if_neg (by omega), if_neg (by omega), if_neg (by omega), if_neg (by omega), if_neg (by omega), if_neg (by omega), show 16 + i - 16 = i by omega]
  have hcs : ∀ (k : Nat) (q : vw_C), ∃ (cC : ClassId) (iS : Nat → Nat), sm_cl[k]? = some q → u_Kn s q.1 q.2.1 q.2.2 cC iS := by
    intro k q
    by_cases h : sm_cl[k]? = some q
    · obtain ⟨c1, c2, c3, c4, c5, c6, c7, c8, c9⟩ := pf_cls k q h
      obtain ⟨cC, iS, hh⟩ := u_known (C := q.1) (T := q.2.1) (N := q.2.2) (n := q.2.2) htb c4 (htb _ c7)
      exact ⟨cC, iS, fun _ => hh⟩
    · exact ⟨0, fun _ => 0, fun h2 => absurd h2 h⟩
  have hcs2 : ∀ k : Nat, ∃ z : ClassId × (Nat → Nat), ∀ q : vw_C, sm_cl[k]? = some q → u_Kn s q.1 q.2.1 q.2.2 z.1 z.2 := by
    intro k
    cases hq : sm_cl[k]? with
    | none => exact ⟨(0, fun _ => 0), fun q h => by cases h⟩
    | some q =>
      obtain ⟨cC, iS, h⟩ := hcs k q
      exact ⟨(cC, iS), fun q' h' => by cases h'; exact h hq⟩
  obtain ⟨Z, hZ⟩ := Classical.axiomOfChoice hcs2
  refine ⟨(fun k => (Z k).1, fun k => (Z k).2), a4, ⟨?_, ?_, ?_, ?_, ?_, ?_, ?_, ?_, ?_, ?_, ?_, ?_⟩, [], [], ⟨fun c q hq => hZ c q hq, fun k q h => by simp at h⟩, fun k q h => by simp at h, ⟨fun i j p q h => by simp at h, fun k q h => by simp at h⟩, rfl, fun i ce h => by simp at h⟩
  · intro a n f ha hSa
    match a, ha, hSa with
    | 0, _, h => cases h
    | 1, _, h => cases h; exact ⟨by omega, fun j => Int32.ofInt (st_r1.getD j 0), by rw [a1]; exact T1, fun j hj => by rw [st_e1 j hj]; rfl⟩
    | 2, _, h => cases h; exact ⟨by omega, fun j => Int32.ofInt (st_r2.getD j 0), by rw [a2]; exact T2, fun j hj => by rw [st_e2 j hj]; rfl⟩
    | 3, _, h => cases h; exact ⟨by omega, fun j => Int32.ofInt (st_r3.getD j 0), by rw [a3]; exact T3, fun j hj => by rw [st_e3 j hj]; rfl⟩
    | 4, _, h => cases h; exact ⟨by omega, xs, by rw [a4]; exact st_X hX (Nat.not_le.mpr hbl), fun j hj => rfl⟩
    | a + 5, h5, _ => exact absurd h5 (by omega)
  · rw [a1]; exact va_Zref (hts _ st_d1) (htb _ (pf_ini 9 (by omega))) e1 hA
  · rw [a2]; exact va_Zref (hts _ st_d2) (htb _ (pf_ini 9 (by omega))) e2 hA
  · rw [a3]; exact va_Zref (hts _ st_d3) (htb _ (pf_ini 0 (by omega))) e3 hA
  · exact va_Zof (hts _ st_d4) (htb _ (pf_ini 15 (by omega))) (va_eqt (hs _ st_g4)) hA
  · cases fmt with
    | false => exact hfm
    | true =>
      show va_Z _ _ _ (va_rf (sm_oa _ ad 5)) _ _ _
      rw [sm_oa, if_neg (by omega), sm_loc, if_pos (by omega), a5]
      exact hfm
  · refine ⟨fun i hi => ?_, fun i j hi hj h => ?_⟩
    · simp only [aK i hi, aV i hi]
      exact hk.1 i hi
    · simp only [aK i hi, aK j hj] at h
      exact hk.2 i j hi hj h
  · intro q hq
    have hix : ∃ i, i < 6 ∧ st_ix.getD i 0 = q.1 ∧ q.2.2 = 8 + i := by
      have : ∀ q ∈ sm_srs, ∃ i, i < 6 ∧ st_ix.getD i 0 = q.1 ∧ q.2.2 = 8 + i := List.forall_mem_cons.mpr ⟨⟨0, by omega, rfl, rfl⟩, List.forall_mem_cons.mpr ⟨⟨1, by omega, rfl, rfl⟩, List.forall_mem_cons.mpr ⟨⟨2, by omega, rfl, rfl⟩, List.forall_mem_cons.mpr ⟨⟨3, by omega, rfl, rfl⟩, List.forall_mem_cons.mpr ⟨⟨4, by omega, rfl, rfl⟩, List.forall_mem_cons.mpr ⟨⟨5, by omega, rfl, rfl⟩, fun w h => absurd h List.not_mem_nil⟩⟩⟩⟩⟩⟩
      exact this q hq
    obtain ⟨i, hi, h1, h2⟩ := hix
    have h3 := hkt i hi
    unfold st_tm at h3
    rw [h1] at h3
    rw [h2, aK i hi]
    exact vk_R.of (hts _ (st_sr q hq)) h3
  · intro q hq
    exact va_Nw.of rfl (hts _ (st_nst q hq))
  · exact va_Nw.of rfl (hts _ st_cst)
  · exact va_AO.of (hts _ st_ovLaw)
  · exact va_AO.of (hts _ st_ovHerd)
