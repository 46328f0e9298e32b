/-! THE SMALL MACHINE IS SOUND, 9: the calls' rows; one instruction; a body; a method -/
section SO9
variable {p : Program} {l : Launch} {e : Env} {R : Room} {s : State} {m : MethodId} {args : Array Value} {below : List Frame} {meth : Method} {c : Code} {Q : State → Prop} {B : Nat} {ad : Nat → Nat} {D : va_G} {nL k0 z0 : Nat}
variable {cc : ByteArray} {pc : Nat} {L : sm_L} {st : List sm_V} {K : sm_K} {H : sm_H} {cfg : sm_S} {S : sm_E} {cno ini d : Nat}
theorem so_initn : ∀ (c : Nat), ∀ q ∈ sm_cpM c, (q.2.1 = 2 ∨ q.2.1 = 3) → (sm_ms[q.2.2.1]?).all (fun r => r.2.2.2.1.isNone) = true := fun c => match c with
  | 0 => by decide +kernel
  | 1 => by decide +kernel
  | 2 => by decide +kernel
  | 3 => by decide +kernel
  | 4 => by decide +kernel
  | 5 => by decide +kernel
  | 6 => by decide +kernel
  | 7 => by decide +kernel
  | 8 => by decide +kernel
  | 9 => by decide +kernel
  | 10 => by decide +kernel
  | 11 => by decide +kernel
  | 12 => by decide +kernel
  | 13 => by decide +kernel
  | 14 => by decide +kernel
  | 15 => by decide +kernel
  | 16 => by decide +kernel
  | 17 => by decide +kernel
  | c + 18 => fun w h => absurd h List.not_mem_nil
/-- what an entry for a method of ours says -/
theorem so_entry {idx kd mid n : Nat} (hlk : List.lookup idx (sm_cpM cno) = some (kd, (mid, n))) (hkd : kd = 0 ∨ kd = 1 ∨ kd = 2 ∨ kd = 3 ∨ kd = 4) : ∃ r : sm_M, sm_ms[mid]? = some r ∧ pf_ok r ∧ (parseMethodDescriptor r.1.desc).map (fun d => d.parameters.length) = some n ∧ r.2.2.1 ≤ 40 ∧
    (kd = 0 → r.2.2.2.2.2.1 = 0) ∧ (kd = 1 → r.2.2.2.2.2.1 = 1 ∧ r.2.2.2.2.1 < 11) ∧ (kd = 4 → r.2.2.2.2.2.1 = 1 ∧ r.1.cls = "java/lang/String") ∧ (kd = 2 ∨ kd = 3 → r.2.2.2.2.2.1 = 2 ∧ r.2.2.2.1 = none) := by
  have h := pf_Mb cno _ (pf_lookup hlk) hkd
  unfold sm_callok at h
  split at h
  · rename_i r hr
    simp only at hr
    simp only [Bool.and_eq_true, beq_iff_eq, Bool.not_eq_true', List.contains_iff_mem] at h
    obtain ⟨⟨h1, h2⟩, h3⟩ := h
    have h2 : mid ∉ pf_no := by simpa using h2
    refine ⟨r, hr, pf_all mid r hr h2, h1, ?_, ?_, ?_, ?_, ?_⟩
    · have := List.all_eq_true.mp pf_mL r (List.mem_of_getElem? hr)
      exact of_decide_eq_true this
    · rintro rfl; simpa using h3
    · rintro rfl; simpa using h3
    · rintro rfl; simpa using h3
    · intro hk
      refine ⟨by rcases hk with rfl | rfl <;> simpa using h3, ?_⟩
      have h8 := so_initn cno _ (pf_lookup hlk) hk
      simp only [hr, Option.all_some, Option.isNone_iff_eq_none] at h8
      exact h8
  · cases h
theorem so_take {α : Type} {l : List α} {n : Nat} {x : α} (h : l[n]? = some x) : (l.take (n + 1)).reverse = x :: (l.take n).reverse ∧ l = l.take n ++ x :: l.drop (n + 1) := by
  have hlt := (List.getElem?_eq_some_iff.mp h).1
  have h1 : l.take (n + 1) = l.take n ++ [x] := by rw [List.take_add_one, h]; rfl
  refine ⟨by rw [h1]; simp, ?_⟩
  have h2 : l = l.take (n + 1) ++ l.drop (n + 1) := (List.take_append_drop (n + 1) l).symm
  rw [h1] at h2
  simpa using h2
theorem so_callS (hx : p.tables.exec = Jvm.exec) (hb : c.code = cc) (hml : c.maxLocals = nL) (hts : ∀ w ∈ sm_tb, w.before args s = true) (hown : s.vm.findClass (sm_cn cno) = some m.cls) (hrd : d + 1 ≤ R.frames ∧ 64 * (d + 1) ≤ R.locals) {idx mid n : Nat} (hlk : List.lookup idx (sm_cpM cno) = some (0, (mid, n))) (hd : decode cc pc = .ok (.invokestatic idx, 3))
    {Hr : Heap} {ls : Array Slot} {rst : List Value} {locs : List Loc} {o : sm_O} (hls : ls.size = nL) (hM : so_Met S d mid (st.take n).reverse K H o) (hst : sm_vals B ad st rst) (hcat : ((rst.drop n).map fun v => v.category).sum ≤ 8) (hn : n ≤ rst.length) (hR : so_R B ad D s K H Hr) (hS : va_S (fun q => B ≤ q) s.heap Hr locs)
    (hP : ∀ U : State, U.heap = Hr → s.WarmedH U.vm → so_Pc B ad D S (st.take n).reverse K H (rst.take n).reverse.toArray U) (hrm : (K.length - k0) + (o.1.length - K.length) ≤ R.cells ∧ (sm_sz K - z0) + (sm_sz o.1 - sm_sz K) ≤ R.slots) :
    ∃ av, va_Run p l e R s m args below meth c Hr locs (K.length - k0) (sm_sz K - z0) (o.1.length - K.length) (sm_sz o.1 - sm_sz K) (F0 m pc ls rst) (rst.drop n) (so_Qc B ad D o.1 o.2.1 o.2.2 av) (fun q => B ≤ q) := by
  obtain ⟨r, hr, ⟨o1, o2, o3, o4, o5, o6, o7, o8⟩, hpar, hmx, hk0', -, -, -⟩ := so_entry hlk (Or.inl rfl)
  have hsta : Cond.static r.1 ∈ sm_tb := by
    unfold sm_kw at o2
    rw [hk0' rfl] at o2
    exact o2
  have hl := so_mw hlk (by omega)
  have hmn : sm_mn mid = r.1 := by unfold sm_mn; rw [hr]; rfl
  have hl : Cond.methodLink (sm_cn cno) idx r.1 ∈ sm_tb := by rw [← hmn]; exact hl
  refine ⟨(rst.take n).reverse.toArray, va_runS (As := (rst.take n).reverse) ⟨hx, hb, hml, hown, hts⟩ (hM r hr l B ad D) ⟨callB_of n hts (so_good o1) rfl rfl rfl (by rw [o4]; exact hts _ (pf_ini _ o5)) (hts _ hl) ⟨o6.1, o6.2, hpar⟩ ⟨hrd.1, by show 8 + (r.2.2.1 + 11) + 64 * d ≤ _; omega⟩, hts _ hsta⟩ ⟨so_blind, hP⟩ rfl (by simp; omega) hls (by show rst = _; simp) (by show 2 * 0 + _ ≤ 8; omega) hd hrm⟩
theorem so_callV (hx : p.tables.exec = Jvm.exec) (hb : c.code = cc) (hml : c.maxLocals = nL) (hts : ∀ w ∈ sm_tb, w.before args s = true) (hown : s.vm.findClass (sm_cn cno) = some m.cls) (hE : so_Ev B ad S s) (hrd : d + 1 ≤ R.frames ∧ 64 * (d + 1) ≤ R.locals) {idx kd mid n : Nat} (hkd : kd = 1 ∧ sm_rcv K (sm_mc mid) st[n]? = true ∨ kd = 4 ∧ sm_rcs st[n]? = true) (hlk : List.lookup idx (sm_cpM cno) = some (kd, (mid, n))) (hd : decode cc pc = .ok (.invokevirtual idx, 3))
    {Hr : Heap} {ls : Array Slot} {rst : List Value} {locs : List Loc} {o : sm_O} (hls : ls.size = nL) (hM : so_Met S d mid (st.take (n + 1)).reverse K H o) (hst : sm_vals B ad st rst) (hcat : ((rst.drop (n + 1)).map fun v => v.category).sum ≤ 8) (hn : n + 1 ≤ rst.length) (hR : so_R B ad D s K H Hr) (hS : va_S (fun q => B ≤ q) s.heap Hr locs)
    (hP : ∀ U : State, U.heap = Hr → s.WarmedH U.vm → so_Pc B ad D S (st.take (n + 1)).reverse K H (rst.take (n + 1)).reverse.toArray U) (hrm : (K.length - k0) + (o.1.length - K.length) ≤ R.cells ∧ (sm_sz K - z0) + (sm_sz o.1 - sm_sz K) ≤ R.slots) :
    ∃ av, va_Run p l e R s m args below meth c Hr locs (K.length - k0) (sm_sz K - z0) (o.1.length - K.length) (sm_sz o.1 - sm_sz K) (F0 m pc ls rst) (rst.drop (n + 1)) (so_Qc B ad D o.1 o.2.1 o.2.2 av) (fun q => B ≤ q) := by
  obtain ⟨r, hr, ⟨o1, o2, o3, o4, o5, o6, o7, o8⟩, hpar, hmx, -, hk1', hk4', -⟩ := so_entry hlk (by omega)
  have hkind : r.2.2.2.2.2.1 = 1 := by
    rcases hkd with ⟨rfl, -⟩ | ⟨rfl, -⟩
    · exact (hk1' rfl).1
    · exact (hk4' rfl).1
  have hins : Cond.instanceMethod r.1 ∈ sm_tb := by
    unfold sm_kw at o2
    rw [hkind] at o2
    exact o2
  have hl := so_mw hlk (by omega)
  have hmn : sm_mn mid = r.1 := by unfold sm_mn; rw [hr]; rfl
  have hl : Cond.methodLink (sm_cn cno) idx r.1 ∈ sm_tb := by
    rw [← hmn]
    rcases hkd with ⟨rfl, -⟩ | ⟨rfl, -⟩ <;> exact hl
  have hrecv : ∃ b : Nat, rst[n]? = some (.ref b) ∧ ∃ cellB : Cell, Hr[b]? = some cellB ∧ cellB.vm.isStatics = false ∧ s.vm.findClass r.1.cls = some cellB.cls := by
    rcases hkd with ⟨rfl, h⟩ | ⟨rfl, h⟩
    · unfold sm_rcv at h
      split at h
      · rename_i a ha
        split at h
        · rename_i kk ce hk
          have hke : kk = sm_mc mid := of_decide_eq_true h
          have hmc : sm_mc mid = r.2.2.2.2.1 := by unfold sm_mc; rw [hr]; rfl
          have h11 : kk < 11 := by rw [hke, hmc]; exact (hk1' rfl).2
          obtain ⟨v, h1, h2⟩ := so_vals_get hst ha
          cases so_valA h2 (so_kd hk).1
          refine ⟨_, h1, ?_⟩
          obtain ⟨ws, tys, qK, qP, qD, ql, qc⟩ := hR
          obtain ⟨e', q1, q2⟩ := so_R.cell qc hk
          obtain ⟨n', fins⟩ := ce
          obtain ⟨fs, rfl, -⟩ := so_cell.obj h11 q2
          obtain ⟨rc, hrc⟩ := so_clx h11
          have := va_recv qK qP hrc q1
          rw [o4, ← hmc, ← hke, ← (pf_cls kk rc hrc).1]
          exact this
        · cases h
      · cases h
    · unfold sm_rcs at h
      split at h
      · rename_i a ha
        have ha8 : 8 ≤ a ∧ a < 14 := of_decide_eq_true h
        obtain ⟨v, h1, h2⟩ := so_vals_get hst ha
        have h2 : v = va_rf (sm_oa B ad a) := h2
        rw [sm_oa, if_neg (by omega), sm_loc, if_pos (by omega)] at h2
        subst h2
        refine ⟨_, h1, ?_⟩
        have := vk_recv hE.2.2.2.2.2.2.1 (i := a - 8) (by omega) hS
        rw [show 8 + (a - 8) = a by omega] at this
        rw [(hk4' rfl).2]
        exact this
      · cases h
  obtain ⟨b, hb1, hb2⟩ := hrecv
  obtain ⟨t1, t2⟩ := so_take hb1
  have hcat' : ((rst.drop (n + 1)).map fun v => v.category).sum ≤ 8 := hcat
  refine ⟨(Value.ref b :: (rst.take n).reverse).toArray, va_runV (As := (rst.take n).reverse) (C := r.1.cls) ⟨hx, hb, hml, hown, hts⟩ (hM r hr l B ad D) ⟨callB_of n hts (so_good o1) rfl rfl rfl (by rw [o4]; exact hts _ (pf_ini _ o5)) (hts _ hl) ⟨o6.1, o6.2, hpar⟩ ⟨hrd.1, by show 8 + (r.2.2.1 + 11) + 64 * d ≤ _; omega⟩, hts _ hins, hts _ (o7 hkind)⟩ ⟨so_blind, hb2, fun U hU hW => by rw [← t1]; exact hP U hU hW⟩ rfl (by simp; omega) hls (by show rst = _; rw [List.reverse_reverse]; exact t2) (by show 2 * 0 + _ ≤ 8; omega) hd hrm⟩
theorem so_callI (hx : p.tables.exec = Jvm.exec) (hb : c.code = cc) (hml : c.maxLocals = nL) (hts : ∀ w ∈ sm_tb, w.before args s = true) (hown : s.vm.findClass (sm_cn cno) = some m.cls) (hE : so_Ev B ad S s) (hrd : d + 1 ≤ R.frames ∧ 64 * (d + 1) ≤ R.locals) {idx kd mid n : Nat} (hkd : kd = 2 ∨ kd = 3) (hrc : sm_rcn st[n]? = true) (hlk : List.lookup idx (sm_cpM cno) = some (kd, (mid, n))) (hd : decode cc pc = .ok (.invokespecial idx, 3))
    {Hr : Heap} {ls : Array Slot} {rst : List Value} {locs : List Loc} {o : sm_O} (hls : ls.size = nL) (hM : so_Met S d mid (st.take (n + 1)).reverse K H o) (hst : sm_vals B ad st rst) (hcat : ((rst.drop (n + 1)).map fun v => v.category).sum ≤ 8) (hn : n + 1 ≤ rst.length) (hR : so_R B ad D s K H Hr) (hS : va_S (fun q => B ≤ q) s.heap Hr locs)
    (hP : ∀ U : State, U.heap = Hr → s.WarmedH U.vm → so_Pc B ad D S (st.take (n + 1)).reverse K H (rst.take (n + 1)).reverse.toArray U) (hrm : (K.length - k0) + (o.1.length - K.length) ≤ R.cells ∧ (sm_sz K - z0) + (sm_sz o.1 - sm_sz K) ≤ R.slots) :
    ∃ av, va_Run p l e R s m args below meth c Hr locs (K.length - k0) (sm_sz K - z0) (o.1.length - K.length) (sm_sz o.1 - sm_sz K) (F0 m pc ls rst) (rst.drop (n + 1)) (so_Qc B ad D o.1 o.2.1 o.2.2 av) (fun q => B ≤ q) := by
  obtain ⟨r, hr, ⟨o1, o2, o3, o4, o5, o6, o7, o8⟩, hpar, hmx, -, -, -, hk2'⟩ := so_entry hlk (by omega)
  obtain ⟨hk2, hnone⟩ := hk2' hkd
  have hins : Cond.instanceMethod r.1 ∈ sm_tb := by
    unfold sm_kw at o2
    rw [hk2] at o2
    exact o2
  have hname : r.1.name = "<init>" := o8.mp hk2
  have hmn : sm_mn mid = r.1 := by unfold sm_mn; rw [hr]; rfl
  have hrecv : ∃ b : Nat, rst[n]? = some (.ref b) := by
    unfold sm_rcn at hrc
    split at hrc
    · rename_i a ha
      have ha0 : a ≠ 0 := of_decide_eq_true hrc
      obtain ⟨v, h1, h2⟩ := so_vals_get hst ha
      have h2 : v = va_rf (sm_oa B ad a) := h2
      rw [sm_oa, if_neg ha0] at h2
      subst h2
      exact ⟨_, h1⟩
    · cases hrc
  obtain ⟨b, hb1⟩ := hrecv
  obtain ⟨t1, t2⟩ := so_take hb1
  have hMt := hM r hr l B ad D
  have hcw : sm_cw r = Cond.code r.1 r.2.1 r.2.2.1 none := by unfold sm_cw; rw [hnone]
  have hG := so_good o1
  rw [hcw] at hMt hG
  have hRR : (so_rm d K o.1).frames + 1 ≤ R.frames ∧ 8 + (r.2.2.1 + 11) + (so_rm d K o.1).locals ≤ R.locals := ⟨hrd.1, by show 8 + (r.2.2.1 + 11) + 64 * d ≤ _; omega⟩
  have hini : (Cond.initialized r.1.cls).before args s = true := by rw [o4]; exact hts _ (pf_ini _ o5)
  have hPS : PreS s Hr (so_Pc B ad D S (st.take (n + 1)).reverse K H) (.ref b :: (rst.take n).reverse) := ⟨so_blind, fun U hU hW => by rw [← t1]; exact hP U hU hW⟩
  rcases hkd with rfl | rfl
  · have hl := so_mw hlk (by omega)
    have hl : Cond.methodLink (sm_cn cno) idx r.1 ∈ sm_tb := by rw [← hmn]; exact hl
    exact ⟨(Value.ref b :: (rst.take n).reverse).toArray, va_runI (As := (rst.take n).reverse) ⟨hx, hb, hml, hown, hts⟩ hMt ⟨callB_of n hts hG rfl rfl rfl hini (hts _ hl) ⟨o6.1, o6.2, hpar⟩ hRR, hname, hts _ hins⟩ hPS rfl (by simp; omega) hls (by show rst = _; rw [List.reverse_reverse]; exact t2) (by show 2 * 0 + _ ≤ 8; omega) hd hrm⟩
  · have h9 : cno = 9 := by
      have hm := pf_lookup hlk
      have h : ∀ (c : Nat), ∀ q ∈ sm_cpM c, q.2.1 = 3 → c = 9 := fun c => match c with
        | 0 => by decide +kernel
        | 1 => by decide +kernel
        | 2 => by decide +kernel
        | 3 => by decide +kernel
        | 4 => by decide +kernel
        | 5 => by decide +kernel
        | 6 => by decide +kernel
        | 7 => by decide +kernel
        | 8 => by decide +kernel
        | 9 => fun _ _ _ => rfl
        | 10 => by decide +kernel
        | 11 => by decide +kernel
        | 12 => by decide +kernel
        | 13 => by decide +kernel
        | 14 => by decide +kernel
        | 15 => by decide +kernel
        | 16 => by decide +kernel
        | 17 => by decide +kernel
        | c + 18 => fun w h => absurd h List.not_mem_nil
      exact h cno _ hm rfl
    subst h9
    have hnl : va_Nw (.methodLinkNest "BellHerd" idx r.1 "BellHerd") s := by
      have h := hE.2.2.2.2.2.2.2.2.1 (idx, mid) (List.mem_map.mpr ⟨_, List.mem_filter.mpr ⟨pf_lookup hlk, by simp⟩, rfl⟩)
      simp only [hmn] at h
      exact h
    exact ⟨(Value.ref b :: (rst.take n).reverse).toArray, va_runIN (As := (rst.take n).reverse) (host := "BellHerd") ⟨hx, hb, hml, hown, hts⟩ hMt ⟨va_cnB n hts hG rfl rfl rfl hnl hini ⟨o6.1, o6.2, hpar⟩ hRR, hname, hts _ hins⟩ hPS rfl (by simp; omega) hls (by show rst = _; rw [List.reverse_reverse]; exact t2) (by show 2 * 0 + _ ≤ 8; omega) hd hrm⟩
end SO9
