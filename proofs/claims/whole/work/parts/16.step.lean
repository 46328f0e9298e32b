/-! THE SMALL MACHINE IS SOUND, 11: one instruction -/
section SO10
variable {p : Program} {l : Launch} {e : Env} {R : Room} {s : State} {m : MethodId} {args : Array Value} {below : List Frame} {meth : Method} {c : Code} {Q : State → Prop} {B : Nat} {ad : Nat → Nat} {D : va_G} {nL k0 z0 : Nat}
variable {cc : ByteArray} {pc : Nat} {L : sm_L} {st : List sm_V} {K : sm_K} {H : sm_H} {cfg : sm_S} {S : sm_E} {cno ini d : Nat} {rt : Option FieldType} {call : Nat → List sm_V → sm_K → sm_H → Option sm_O}
theorem so_notno {idx kd mid n : Nat} (hlk : List.lookup idx (sm_cpM cno) = some (kd, (mid, n))) (hkd : kd = 0 ∨ kd = 1 ∨ kd = 2 ∨ kd = 3 ∨ kd = 4) : mid ∉ pf_no := by
  have h := pf_Mb cno _ (pf_lookup hlk) hkd
  unfold sm_callok at h
  split at h
  · simp only [Bool.and_eq_true, beq_iff_eq, Bool.not_eq_true', List.contains_iff_mem] at h
    simpa using h.1.2
  · cases h
theorem so_invS (hx : p.tables.exec = Jvm.exec) (hb : c.code = cc) (hml : c.maxLocals = nL) (hE : so_Ev B ad S s) (hts : ∀ w ∈ sm_tb, w.before args s = true) (hown : s.vm.findClass (sm_cn cno) = some m.cls) (hsz : s.heap.size = B + k0) (hk0 : k0 ≤ K.length) (hz0 : z0 ≤ sm_sz K) (hrd : d + 1 ≤ R.frames ∧ 64 * (d + 1) ≤ R.locals) (hcall : ∀ mid, mid ∉ pf_no → ∀ vs K H o, call mid vs K H = some o → (K.length ≤ o.1.length ∧ sm_sz K ≤ sm_sz o.1) ∧ so_Met S d mid vs K H o)
    (hrk : K.length - k0 ≤ R.cells ∧ sm_sz K - z0 ≤ R.slots) {idx : Nat} (hd : decode cc pc = .ok (.invokestatic idx, 3)) (hs : sm_invS call cno idx pc L st K H = some (.inl cfg)) (hrm : cfg.2.2.2.1.length - k0 ≤ R.cells ∧ sm_sz cfg.2.2.2.1 - z0 ≤ R.slots) (k : so_G p l e R s m args below meth c Q B ad D nL k0 z0 cfg) : so_G p l e R s m args below meth c Q B ad D nL k0 z0 (pc, (L, (st, (K, H)))) := by
  have hrf : 1 ≤ R.frames ∧ 64 ≤ R.locals := by omega
  unfold sm_invS at hs
  split at hs
  · rename_i mid n hlk
    exact so_call (fun vs K H o h => hcall mid (so_notno hlk (by omega)) vs K H o h) hE hsz hk0 hz0 (fun h1 h2 h3 h4 h5 h6 h7 h8 h9 => so_callS hx hb hml hts hown hrd hlk hd h1 h2 h3 h4 h5 h6 h7 h8 h9) hs hrm k
  · rename_i x hlk
    exact so_acopy hx hb hml hts hown hrf (so_mw (kd := 7) (mid := x.1) (n := x.2) hlk (by omega)) hd hs k
  · rename_i x hlk
    exact so_maths hx hb hml hts hown hrf hrk (mid := x.1) (n := x.2) hlk hd (Or.inl ⟨rfl, hs⟩) k
  · rename_i x hlk
    exact so_maths hx hb hml hts hown hrf hrk (mid := x.1) (n := x.2) hlk hd (Or.inr (Or.inl ⟨rfl, hs⟩)) k
  · rename_i x hlk
    exact so_maths hx hb hml hts hown hrf hrk (mid := x.1) (n := x.2) hlk hd (Or.inr (Or.inr (Or.inl ⟨rfl, hs⟩))) k
  · rename_i x hlk
    exact so_maths hx hb hml hts hown hrf hrk (mid := x.1) (n := x.2) hlk hd (Or.inr (Or.inr (Or.inr (Or.inl ⟨rfl, hs⟩)))) k
  · rename_i x hlk
    exact so_maths hx hb hml hts hown hrf hrk (mid := x.1) (n := x.2) hlk hd (Or.inr (Or.inr (Or.inr (Or.inr ⟨rfl, hs⟩)))) k
  · cases hs
theorem so_invV (hx : p.tables.exec = Jvm.exec) (hb : c.code = cc) (hml : c.maxLocals = nL) (hE : so_Ev B ad S s) (hts : ∀ w ∈ sm_tb, w.before args s = true) (hown : s.vm.findClass (sm_cn cno) = some m.cls) (hsz : s.heap.size = B + k0) (hk0 : k0 ≤ K.length) (hz0 : z0 ≤ sm_sz K) (hrd : d + 1 ≤ R.frames ∧ 64 * (d + 1) ≤ R.locals) (hcall : ∀ mid, mid ∉ pf_no → ∀ vs K H o, call mid vs K H = some o → (K.length ≤ o.1.length ∧ sm_sz K ≤ sm_sz o.1) ∧ so_Met S d mid vs K H o)
    {idx : Nat} (hd : decode cc pc = .ok (.invokevirtual idx, 3)) (hs : sm_invV call cno idx pc L st K H = some (.inl cfg)) (hrm : cfg.2.2.2.1.length - k0 ≤ R.cells ∧ sm_sz cfg.2.2.2.1 - z0 ≤ R.slots) (k : so_G p l e R s m args below meth c Q B ad D nL k0 z0 cfg) : so_G p l e R s m args below meth c Q B ad D nL k0 z0 (pc, (L, (st, (K, H)))) := by
  have hrf : 1 ≤ R.frames ∧ 64 ≤ R.locals := by omega
  unfold sm_invV at hs
  split at hs
  · rename_i mid n hlk
    split at hs
    · rename_i hrc
      exact so_call (fun vs K H o h => hcall mid (so_notno hlk (by omega)) vs K H o h) hE hsz hk0 hz0 (fun h1 h2 h3 h4 h5 h6 h7 h8 h9 => so_callV hx hb hml hts hown hE hrd (Or.inl ⟨rfl, hrc⟩) hlk hd h1 h2 h3 h4 h5 h6 h7 h8 h9) hs hrm k
    · cases hs
  · rename_i mid n hlk
    split at hs
    · rename_i hrc
      exact so_call (fun vs K H o h => hcall mid (so_notno hlk (by omega)) vs K H o h) hE hsz hk0 hz0 (fun h1 h2 h3 h4 h5 h6 h7 h8 h9 => so_callV hx hb hml hts hown hE hrd (Or.inr ⟨rfl, hrc⟩) hlk hd h1 h2 h3 h4 h5 h6 h7 h8 h9) hs hrm k
    · cases hs
  · rename_i x hlk
    exact so_clone hx hb hml hE hts hown hsz hk0 hz0 hrf (so_mw (kd := 8) (mid := x.1) (n := x.2) hlk (by omega)) hd hs hrm k
  · cases hs
theorem so_invI (hx : p.tables.exec = Jvm.exec) (hb : c.code = cc) (hml : c.maxLocals = nL) (hE : so_Ev B ad S s) (hts : ∀ w ∈ sm_tb, w.before args s = true) (hown : s.vm.findClass (sm_cn cno) = some m.cls) (hsz : s.heap.size = B + k0) (hk0 : k0 ≤ K.length) (hz0 : z0 ≤ sm_sz K) (hrd : d + 1 ≤ R.frames ∧ 64 * (d + 1) ≤ R.locals) (hcall : ∀ mid, mid ∉ pf_no → ∀ vs K H o, call mid vs K H = some o → (K.length ≤ o.1.length ∧ sm_sz K ≤ sm_sz o.1) ∧ so_Met S d mid vs K H o)
    {idx : Nat} (hd : decode cc pc = .ok (.invokespecial idx, 3)) (hs : sm_invI call cno idx pc L st K H = some (.inl cfg)) (hrm : cfg.2.2.2.1.length - k0 ≤ R.cells ∧ sm_sz cfg.2.2.2.1 - z0 ≤ R.slots) (k : so_G p l e R s m args below meth c Q B ad D nL k0 z0 cfg) : so_G p l e R s m args below meth c Q B ad D nL k0 z0 (pc, (L, (st, (K, H)))) := by
  have hrf : 1 ≤ R.frames ∧ 64 ≤ R.locals := by omega
  unfold sm_invI at hs
  split at hs
  · rename_i mid n hlk
    split at hs
    · rename_i hrc
      exact so_call (fun vs K H o h => hcall mid (so_notno hlk (by omega)) vs K H o h) hE hsz hk0 hz0 (fun h1 h2 h3 h4 h5 h6 h7 h8 h9 => so_callI hx hb hml hts hown hE hrd (Or.inl rfl) hrc hlk hd h1 h2 h3 h4 h5 h6 h7 h8 h9) hs hrm k
    · cases hs
  · rename_i mid n hlk
    split at hs
    · rename_i hrc
      exact so_call (fun vs K H o h => hcall mid (so_notno hlk (by omega)) vs K H o h) hE hsz hk0 hz0 (fun h1 h2 h3 h4 h5 h6 h7 h8 h9 => so_callI hx hb hml hts hown hE hrd (Or.inr rfl) hrc hlk hd h1 h2 h3 h4 h5 h6 h7 h8 h9) hs hrm k
    · cases hs
  · rename_i x hlk
    split at hs
    · rename_i a r
      split at hs
      · rename_i hc
        cases so_nx hs
        intro Hr ls rst locs hl hst0 hR hS
        obtain ⟨v1, r1, e1, h1, hst⟩ := so_cons hst0
        subst e1
        have h1 : v1 = va_rf (sm_oa B ad a) := h1
        rw [sm_oa, if_neg hc.1] at h1
        subst h1
        refine W.objInit hx hb hown (hts _ (so_mw (kd := 9) (mid := x.1) (n := x.2) hlk (by omega))) (hts _ pf_obI) (hts _ pf_obC) rfl (by show ls.size = _; rw [hl.2.1, hml]) rfl hd (by omega) ?_ (k Hr ls r1 locs hl hst hR hS)
        show 2 * 0 + _ + 12 ≤ _
        rw [so_cats hst]
        omega
      · cases hs
    · cases hs
  · cases hs
theorem so_dup (hx : p.tables.exec = Jvm.exec) (hb : c.code = cc) (hd : decode cc pc = .ok (.dup, 1)) (hs : (match st with
    | v :: r => if sm_cat v = 1 then sm_nx (pc + 1) L (v :: v :: r) K H else none
    | _ => none) = some (.inl cfg)) (k : so_G p l e R s m args below meth c Q B ad D nL k0 z0 cfg) : so_G p l e R s m args below meth c Q B ad D nL k0 z0 (pc, (L, (st, (K, H)))) := by
  split at hs
  · split at hs
    · rename_i hc
      cases so_nx hs
      intro Hr ls rst locs hl hst0 hR hS
      obtain ⟨v1, r1, e1, h1, hst⟩ := so_cons hst0
      subst e1
      exact lv_dup hx hb hd ((so_cat h1).trans hc) (k Hr ls _ locs hl ⟨h1, h1, hst⟩ hR hS)
    · cases hs
  · cases hs
theorem so_pop (hx : p.tables.exec = Jvm.exec) (hb : c.code = cc) (hd : decode cc pc = .ok (.pop, 1)) (hs : (match st with
    | v :: r => if sm_cat v = 1 then sm_nx (pc + 1) L r K H else none
    | _ => none) = some (.inl cfg)) (k : so_G p l e R s m args below meth c Q B ad D nL k0 z0 cfg) : so_G p l e R s m args below meth c Q B ad D nL k0 z0 (pc, (L, (st, (K, H)))) := by
  split at hs
  · split at hs
    · rename_i hc
      cases so_nx hs
      intro Hr ls rst locs hl hst0 hR hS
      obtain ⟨v1, r1, e1, h1, hst⟩ := so_cons hst0
      subst e1
      exact lv_pop hx hb hd ((so_cat h1).trans hc) (k Hr ls _ locs hl hst hR hS)
    · cases hs
  · cases hs
theorem so_dup2 (hx : p.tables.exec = Jvm.exec) (hb : c.code = cc) (hd : decode cc pc = .ok (.dup2, 1)) (hs : (match st with
    | v :: w :: r => if sm_cat v = 1 ∧ sm_cat w = 1 then sm_nx (pc + 1) L (v :: w :: v :: w :: r) K H else none
    | _ => none) = some (.inl cfg)) (k : so_G p l e R s m args below meth c Q B ad D nL k0 z0 cfg) : so_G p l e R s m args below meth c Q B ad D nL k0 z0 (pc, (L, (st, (K, H)))) := by
  split at hs
  · split at hs
    · rename_i hc
      cases so_nx hs
      intro Hr ls rst locs hl hst0 hR hS
      obtain ⟨v1, r1, e1, h1, hst1⟩ := so_cons hst0
      obtain ⟨v2, r2, e2, h2, hst⟩ := so_cons hst1
      subst e1; subst e2
      exact lv_dup2_11 hx hb hd ((so_cat h1).trans hc.1) ((so_cat h2).trans hc.2) (k Hr ls _ locs hl ⟨h1, h2, h1, h2, hst⟩ hR hS)
    · cases hs
  · cases hs
theorem so_inw {x : Int} (h : -2147483648 ≤ x ∧ x < 2147483648) : sm_w x = x := by
  unfold sm_w
  exact Int.bmod_eq_of_le (by omega) (by omega)
theorem so_inq {x : Int} (h : -9223372036854775808 ≤ x ∧ x < 9223372036854775808) : sm_q x = x := by
  unfold sm_q
  exact Int.bmod_eq_of_le (by omega) (by omega)
theorem so_rem' (a b : Int32) : (a - a / b * b).toInt = a.toInt.tmod b.toInt := by
  rw [so_sub, so_mul, so_div]
  have h : sm_w (a.toInt - sm_w (sm_w (a.toInt.tdiv b.toInt) * b.toInt)) = sm_w (a.toInt - a.toInt.tdiv b.toInt * b.toInt) := by
    unfold sm_w
    rw [Int.bmod_mul_bmod, Int.sub_bmod_bmod]
  rw [h, Int.mul_comm, ← Int.tmod_def, ← so_rem]
  exact so_inw so_inI
theorem so_remJ' (a b : Int64) : (a - a / b * b).toInt = a.toInt.tmod b.toInt := by
  rw [so_subJ, so_mulJ, so_divJ]
  have h : sm_q (a.toInt - sm_q (sm_q (a.toInt.tdiv b.toInt) * b.toInt)) = sm_q (a.toInt - a.toInt.tdiv b.toInt * b.toInt) := by
    unfold sm_q
    rw [Int.bmod_mul_bmod, Int.sub_bmod_bmod]
  rw [h, Int.mul_comm, ← Int.tmod_def, ← so_remJ]
  exact so_inq so_inJ
theorem so_divs (hx : p.tables.exec = Jvm.exec) (hb : c.code = cc) {rem : Bool} (hd : decode cc pc = .ok (if rem then .irem else .idiv, 1)) (hs : (match st with
    | .inl y :: .inl x :: r => if y = 0 then none else sm_nx (pc + 1) L (.inl (if rem then x.tmod y else sm_w (x.tdiv y)) :: r) K H
    | _ => none) = some (.inl cfg)) (k : so_G p l e R s m args below meth c Q B ad D nL k0 z0 cfg) : so_G p l e R s m args below meth c Q B ad D nL k0 z0 (pc, (L, (st, (K, H)))) := by
  split at hs
  · split at hs
    · cases hs
    · rename_i hz
      cases so_nx hs
      intro Hr ls rst locs hl hst0 hR hS
      obtain ⟨v1, r1, e1, ⟨a1, rfl, h1⟩, hst1⟩ := so_cons hst0
      obtain ⟨v2, r2, e2, ⟨a2, rfl, h2⟩, hst⟩ := so_cons hst1
      subst e1; subst e2; subst h1; subst h2
      have hne : ¬ a1 = 0 := fun q => hz (so_zero.mp q)
      cases rem with
      | false => exact lv_idiv hx hb hd hne (k Hr ls _ locs hl ⟨⟨_, rfl, so_div a2 a1⟩, hst⟩ hR hS)
      | true => exact lv_irem hx hb hd hne (k Hr ls _ locs hl ⟨⟨_, rfl, so_rem' a2 a1⟩, hst⟩ hR hS)
  · cases hs
theorem so_divsJ (hx : p.tables.exec = Jvm.exec) (hb : c.code = cc) {rem : Bool} (hd : decode cc pc = .ok (if rem then .lrem else .ldiv, 1)) (hs : (match st with
    | .inr (.inl y) :: .inr (.inl x) :: r => if y = 0 then none else sm_nx (pc + 1) L (.inr (.inl (if rem then x.tmod y else sm_q (x.tdiv y))) :: r) K H
    | _ => none) = some (.inl cfg)) (k : so_G p l e R s m args below meth c Q B ad D nL k0 z0 cfg) : so_G p l e R s m args below meth c Q B ad D nL k0 z0 (pc, (L, (st, (K, H)))) := by
  split at hs
  · split at hs
    · cases hs
    · rename_i hz
      cases so_nx hs
      intro Hr ls rst locs hl hst0 hR hS
      obtain ⟨v1, r1, e1, ⟨a1, rfl, h1⟩, hst1⟩ := so_cons hst0
      obtain ⟨v2, r2, e2, ⟨a2, rfl, h2⟩, hst⟩ := so_cons hst1
      subst e1; subst e2; subst h1; subst h2
      have hne : ¬ a1 = 0 := fun q => hz (so_zeroJ.mp q)
      cases rem with
      | false => exact lv_ldiv hx hb hd hne (k Hr ls _ locs hl ⟨⟨_, rfl, so_divJ a2 a1⟩, hst⟩ hR hS)
      | true => exact lv_lrem hx hb hd hne (k Hr ls _ locs hl ⟨⟨_, rfl, so_remJ' a2 a1⟩, hst⟩ hR hS)
  · cases hs
theorem so_lneg (hx : p.tables.exec = Jvm.exec) (hb : c.code = cc) (hd : decode cc pc = .ok (.lneg, 1)) (hs : (match st with
    | .inr (.inl x) :: r => sm_nx (pc + 1) L (.inr (.inl (sm_q (-x))) :: r) K H
    | _ => none) = some (.inl cfg)) (k : so_G p l e R s m args below meth c Q B ad D nL k0 z0 cfg) : so_G p l e R s m args below meth c Q B ad D nL k0 z0 (pc, (L, (st, (K, H)))) := by
  split at hs
  · cases so_nx hs
    intro Hr ls rst locs hl hst0 hR hS
    obtain ⟨v1, r1, e1, ⟨a1, rfl, h1⟩, hst⟩ := so_cons hst0
    subst e1; subst h1
    exact lv_lneg hx hb hd (k Hr ls _ locs hl ⟨⟨_, rfl, so_negJ a1⟩, hst⟩ hR hS)
  · cases hs
theorem so_lcmpG (hx : p.tables.exec = Jvm.exec) (hb : c.code = cc) (hd : decode cc pc = .ok (.lcmp, 1)) (hs : (match st with
    | .inr (.inl y) :: .inr (.inl x) :: r => sm_nx (pc + 1) L (.inl (sm_cmp x y) :: r) K H
    | _ => none) = some (.inl cfg)) (k : so_G p l e R s m args below meth c Q B ad D nL k0 z0 cfg) : so_G p l e R s m args below meth c Q B ad D nL k0 z0 (pc, (L, (st, (K, H)))) := by
  split at hs
  · cases so_nx hs
    intro Hr ls rst locs hl hst0 hR hS
    obtain ⟨v1, r1, e1, ⟨a1, rfl, h1⟩, hst1⟩ := so_cons hst0
    obtain ⟨v2, r2, e2, ⟨a2, rfl, h2⟩, hst⟩ := so_cons hst1
    subst e1; subst e2; subst h1; subst h2
    exact W.lcmp hx hb hd (k Hr ls _ locs hl ⟨⟨_, rfl, so_lcmp a2 a1⟩, hst⟩ hR hS)
  · cases hs
theorem so_i2lG (hx : p.tables.exec = Jvm.exec) (hb : c.code = cc) (hd : decode cc pc = .ok (.i2l, 1)) (hs : (match st with
    | .inl x :: r => sm_nx (pc + 1) L (.inr (.inl x) :: r) K H
    | _ => none) = some (.inl cfg)) (k : so_G p l e R s m args below meth c Q B ad D nL k0 z0 cfg) : so_G p l e R s m args below meth c Q B ad D nL k0 z0 (pc, (L, (st, (K, H)))) := by
  split at hs
  · cases so_nx hs
    intro Hr ls rst locs hl hst0 hR hS
    obtain ⟨v1, r1, e1, ⟨a1, rfl, h1⟩, hst⟩ := so_cons hst0
    subst e1; subst h1
    exact lv_i2l hx hb hd rfl (k Hr ls _ locs hl ⟨⟨_, rfl, so_i2l a1⟩, hst⟩ hR hS)
  · cases hs
theorem so_l2iG (hx : p.tables.exec = Jvm.exec) (hb : c.code = cc) (hd : decode cc pc = .ok (.l2i, 1)) (hs : (match st with
    | .inr (.inl x) :: r => sm_nx (pc + 1) L (.inl (sm_w x) :: r) K H
    | _ => none) = some (.inl cfg)) (k : so_G p l e R s m args below meth c Q B ad D nL k0 z0 cfg) : so_G p l e R s m args below meth c Q B ad D nL k0 z0 (pc, (L, (st, (K, H)))) := by
  split at hs
  · cases so_nx hs
    intro Hr ls rst locs hl hst0 hR hS
    obtain ⟨v1, r1, e1, ⟨a1, rfl, h1⟩, hst⟩ := so_cons hst0
    subst e1; subst h1
    exact lv_l2i hx hb hd rfl (k Hr ls _ locs hl ⟨⟨_, rfl, so_l2i a1⟩, hst⟩ hR hS)
  · cases hs
set_option maxHeartbeats 4000000 in
theorem so_step (hx : p.tables.exec = Jvm.exec) (hb : c.code = cc) (hml : c.maxLocals = nL) (hE : so_Ev B ad S s) (hts : ∀ w ∈ sm_tb, w.before args s = true) (hown : s.vm.findClass (sm_cn cno) = some m.cls) (hini : ini = 2 → meth.name = "<init>") (hsz : s.heap.size = B + k0) (hk0 : k0 ≤ K.length) (hz0 : z0 ≤ sm_sz K) (hrd : d + 1 ≤ R.frames ∧ 64 * (d + 1) ≤ R.locals) (hcall : ∀ mid, mid ∉ pf_no → ∀ vs K H o, call mid vs K H = some o → (K.length ≤ o.1.length ∧ sm_sz K ≤ sm_sz o.1) ∧ so_Met S d mid vs K H o)
    (hrk : K.length - k0 ≤ R.cells ∧ sm_sz K - z0 ≤ R.slots) {i : Instr} {len : Nat} (hd0 : decode cc pc = .ok (i, len)) (hlen : sm_isw i = true ∨ sm_lof i = len) (hnum : sm_num i = true)
    (hs : sm_step S call rt cno ini i pc L st K H = some (.inl cfg)) (hrm : cfg.2.2.2.1.length - k0 ≤ R.cells ∧ sm_sz cfg.2.2.2.1 - z0 ≤ R.slots) (k : so_G p l e R s m args below meth c Q B ad D nL k0 z0 cfg) : so_G p l e R s m args below meth c Q B ad D nL k0 z0 (pc, (L, (st, (K, H)))) := by
  have hd : sm_isw i = false → decode cc pc = .ok (i, sm_lof i) := fun h => by
    rcases hlen with h1 | h1
    · rw [h] at h1; cases h1
    · rw [h1]; exact hd0
  cases i with
  | aaload => exact so_aald hx hb (hd rfl) hs k
  | aastore => exact so_aast hx hb (hd rfl) hs k
  | aconst_null => exact so_push (x := .inr (.inr 0)) (v := .null) rfl (fun kk => lv_null hx hb (hd rfl) kk) hs k
  | aload i => exact so_lA (fun h kk => lv_aload hx hb (hd rfl) h kk) (fun h kk => lv_aloadN hx hb (hd rfl) h kk) hs k
  | aload_n i => exact so_lA (fun h kk => lv_aload_n hx hb (hd rfl) rfl h kk) (fun h kk => lv_aload_nN hx hb (hd rfl) rfl h kk) hs k
  | anewarray i => exact so_anew hx hb hE hts hown hsz hk0 hz0 (hd rfl) hs hrm k
  | arraylength => exact so_len hx hb hE (hd rfl) hs k
  | astore i => exact so_sA (fun h1 h2 kk => lv_astore hx hb (hd rfl) h1 h2 rfl kk) (fun h1 h2 kk => lv_astoreN hx hb (hd rfl) h1 h2 rfl kk) hs k
  | astore_n i => exact so_sA (fun h1 h2 kk => lv_astore_n hx hb (hd rfl) rfl h1 h2 rfl kk) (fun h1 h2 kk => lv_astore_nN hx hb (hd rfl) rfl h1 h2 rfl kk) hs k
  | baload => exact so_bald hx hb hE (hd rfl) hs k
  | bastore => exact so_bast hx hb (hd rfl) hs k
  | bipush n => exact so_push (x := .inl n) (v := .int (Int8.ofInt n).toInt32) ⟨_, rfl, by simpa [sm_num] using hnum⟩ (fun kk => lv_bipush hx hb (hd rfl) rfl kk) hs k
  | checkcast i => exact so_cast hx hb hts hown (hd rfl) hs k
  | dup => exact so_dup hx hb (hd rfl) hs k
  | dup2 => exact so_dup2 hx hb (hd rfl) hs k
  | getfield i => exact so_getf hx hb hE hts hown (hd rfl) hs k
  | getstatic i => exact so_gets hx hb hE hts hown (hd rfl) hs k
  | goto off => exact so_goto hx hb (hd rfl) hs k
  | i2c => exact so_una (g := fun x => (x.toUInt32 % 65536).toInt32) so_i2c (fun kk => lv_i2c hx hb (hd rfl) rfl kk) hs k
  | i2l => exact so_i2lG hx hb (hd rfl) hs k
  | iadd => exact so_bin (g := fun x y => x + y) so_add (fun kk => lv_iadd hx hb (hd rfl) kk) hs k
  | iaload => exact so_ald5 hx hb hE (hd rfl) hs k
  | iand => exact so_bin (g := fun x y => x &&& y) so_and (fun kk => lv_iand hx hb (hd rfl) kk) hs k
  | iastore => exact so_iast hx hb (hd rfl) hs k
  | iconst n => exact so_push (x := .inl n) (v := .int (Int32.ofInt n)) ⟨_, rfl, by simpa [sm_num] using hnum⟩ (fun kk => lv_iconst hx hb (hd rfl) rfl kk) hs k
  | idiv => exact so_divs (rem := false) hx hb (hd rfl) hs k
  | if_icmp op off => exact so_if2 op hx hb (hd rfl) hs k
  | ifCond op off => exact so_if op hx hb (hd rfl) hs k
  | ifnonnull off => exact so_ifnonnull hx hb (hd rfl) hs k
  | ifnull off => exact so_ifnull hx hb (hd rfl) hs k
  | iinc i n => exact so_iinc hx hb (hd rfl) hs (by simpa [sm_num] using hnum) k
  | iload i => exact so_lI (fun h kk => lv_iload hx hb (hd rfl) h kk) hs k
  | iload_n i => exact so_lI (fun h kk => lv_iload_n hx hb (hd rfl) rfl h kk) hs k
  | imul => exact so_bin (g := fun x y => x * y) so_mul (fun kk => lv_imul hx hb (hd rfl) kk) hs k
  | ineg => exact so_una (g := fun x => -x) so_neg (fun kk => lv_ineg hx hb (hd rfl) kk) hs k
  | invokespecial i => exact so_invI hx hb hml hE hts hown hsz hk0 hz0 hrd hcall (hd rfl) hs hrm k
  | invokestatic i => exact so_invS hx hb hml hE hts hown hsz hk0 hz0 hrd hcall hrk (hd rfl) hs hrm k
  | invokevirtual i => exact so_invV hx hb hml hE hts hown hsz hk0 hz0 hrd hcall (hd rfl) hs hrm k
  | ior => exact so_bin (g := fun x y => x ||| y) so_or (fun kk => lv_ior hx hb (hd rfl) kk) hs k
  | irem => exact so_divs (rem := true) hx hb (hd rfl) hs k
  | ishl => exact so_bin (g := fun x y => x <<< (y &&& 31)) so_shl (fun kk => lv_ishl hx hb (hd rfl) kk) hs k
  | ishr => exact so_bin (g := fun x y => x >>> (y &&& 31)) so_shr (fun kk => lv_ishr hx hb (hd rfl) kk) hs k
  | istore i => exact so_sI (fun h1 h2 kk => lv_istore hx hb (hd rfl) h1 h2 rfl kk) hs k
  | istore_n i => exact so_sI (fun h1 h2 kk => lv_istore_n hx hb (hd rfl) rfl h1 h2 rfl kk) hs k
  | isub => exact so_bin (g := fun x y => x - y) so_sub (fun kk => lv_isub hx hb (hd rfl) kk) hs k
  | iushr => exact so_bin (g := fun x y => (x.toUInt32 >>> (y.toUInt32 &&& Int32.toUInt32 31)).toInt32) so_ushr (fun kk => lv_iushr hx hb (hd rfl) rfl kk) hs k
  | ixor => exact so_bin (g := fun x y => x ^^^ y) so_xor (fun kk => lv_ixor hx hb (hd rfl) kk) hs k
  | l2i => exact so_l2iG hx hb (hd rfl) hs k
  | ladd => exact so_binJ (g := fun x y => x + y) so_addJ (fun kk => lv_ladd hx hb (hd rfl) kk) hs k
  | laload => exact so_lald hx hb (hd rfl) hs k
  | lastore => exact so_last hx hb (hd rfl) hs k
  | lcmp => exact so_lcmpG hx hb (hd rfl) hs k
  | lconst n => exact so_push (x := .inr (.inl (n.val : Int))) (v := .long (Int64.ofNat n.val)) ⟨_, rfl, by match n with | 0 => rfl | 1 => rfl⟩ (fun kk => lv_lconst hx hb (hd rfl) rfl kk) hs k
  | ldc i => exact so_ldc hx hb hE hts hown (hd rfl) hs k
  | ldc_w i => exact so_ldcw hx hb hts hown (hd rfl) hs k
  | ldc2_w i => exact so_ldc2 hx hb hts hown (hd rfl) hs k
  | ldiv => exact so_divsJ (rem := false) hx hb (hd rfl) hs k
  | lload i => exact so_lJ (fun h kk => lv_lload hx hb (hd rfl) h kk) hs k
  | lload_n i => exact so_lJ (fun h kk => lv_lload_n hx hb (hd rfl) rfl h kk) hs k
  | lmul => exact so_binJ (g := fun x y => x * y) so_mulJ (fun kk => lv_lmul hx hb (hd rfl) kk) hs k
  | lneg => exact so_lneg hx hb (hd rfl) hs k
  | lrem => exact so_divsJ (rem := true) hx hb (hd rfl) hs k
  | lstore i => exact so_sJ (fun h1 h2 kk => lv_lstore hx hb (hd rfl) h1 h2 rfl kk) hs k
  | lstore_n i => exact so_sJ (fun h1 h2 kk => lv_lstore_n hx hb (hd rfl) rfl h1 h2 rfl kk) hs k
  | lsub => exact so_binJ (g := fun x y => x - y) so_subJ (fun kk => lv_lsub hx hb (hd rfl) kk) hs k
  | new i => exact so_new hx hb hts hown hsz hk0 hz0 (hd rfl) hs hrm k
  | newarray at0 =>
    cases at0 with
    | int => exact so_newI (at0 := .int) (a0 := fun N => (N, .inl (fun _ => 0))) hx hb hts hsz hk0 hz0 pf_a_int (fun N cA => rfl) (by decide) (fun N cA tys t0 f hf ht => Or.inl ⟨rfl, cA, t0, _, rfl, ht, fun j hj => by rw [hf]; rfl⟩) (hd rfl) hs hrm k
    | long => exact so_newI (at0 := .long) (a0 := fun N => (N, .inr (.inl (fun _ => 0)))) hx hb hts hsz hk0 hz0 pf_a_long (fun N cA => rfl) (by decide) (fun N cA tys t0 f hf ht => Or.inr (Or.inl ⟨rfl, cA, t0, _, rfl, ht, fun j hj => by rw [hf]; rfl⟩)) (hd rfl) hs hrm k
    | boolean => exact so_newI (at0 := .boolean) (a0 := fun N => (N, .inl (fun _ => 0))) hx hb hts hsz hk0 hz0 pf_a_boolean (fun N cA => rfl) (by decide) (fun N cA tys t0 f hf ht => Or.inr (Or.inr (Or.inl ⟨rfl, cA, t0, _, rfl, ht, fun j hj => by rw [hf]; rfl⟩))) (hd rfl) hs hrm k
    | _ => exact absurd (show (none : Option (sm_S ⊕ sm_O)) = some (.inl cfg) from hs) (by intro h; cases h)
  | pop => exact so_pop hx hb (hd rfl) hs k
  | putfield i => exact so_putf hx hb hts hown hini (hd rfl) hs k
  | sipush n => exact so_push (x := .inl n) (v := .int (Int16.ofInt n).toInt32) ⟨_, rfl, by simpa [sm_num] using hnum⟩ (fun kk => lv_sipush hx hb (hd rfl) rfl kk) hs k
  | tableswitch dd lo hi offs => exact so_sw hx hb hd0 hs k
  | ireturn =>
    exfalso
    have hm := (mo_ret (rt := rt) (st := st) (K := K) (H := H))
    have hs : sm_ret rt st K H = some (.inl cfg) := hs
    unfold sm_ret at hs
    repeat' (first | cases hs | split at hs)
  | lreturn =>
    exfalso
    unfold sm_step at hs
    simp only at hs
    split at hs <;> cases hs
  | areturn =>
    exfalso
    unfold sm_step at hs
    simp only at hs
    split at hs <;> cases hs
  | return_ =>
    exfalso
    unfold sm_step at hs
    simp only at hs
    split at hs <;> cases hs
  | _ => exact absurd (show (none : Option (sm_S ⊕ sm_O)) = some (.inl cfg) from hs) (by intro h; cases h)
end SO10
