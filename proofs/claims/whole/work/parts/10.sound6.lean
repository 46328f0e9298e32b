/-! THE SMALL MACHINE IS SOUND, 6: constants, statics, what is made, natives -/
section SO6
variable {p : Program} {l : Launch} {e : Env} {R : Room} {s : State} {m : MethodId} {args : Array Value} {below : List Frame} {meth : Method} {c : Code} {Q : State → Prop} {B : Nat} {ad : Nat → Nat} {D : va_G} {nL k0 z0 : Nat}
variable {cc : ByteArray} {pc : Nat} {L : sm_L} {st : List sm_V} {K : sm_K} {H : sm_H} {cfg : sm_S} {S : sm_E} {cno ini : Nat}
theorem so_ldc (hx : p.tables.exec = Jvm.exec) (hb : c.code = cc) (hE : so_Ev B ad S s) (hts : ∀ w ∈ sm_tb, w.before args s = true) (hown : s.vm.findClass (sm_cn cno) = some m.cls) {idx : Nat} (hd : decode cc pc = .ok (.ldc idx, 2))
    (hs : (match List.lookup idx (sm_cpI cno) with
    | some v => sm_nx (pc + 2) L (.inl v :: st) K H
    | none => match sm_cpS cno idx with
      | some a => sm_nx (pc + 2) L (.inr (.inr a) :: st) K H
      | none => none) = some (.inl cfg)) (k : so_G p l e R s m args below meth c Q B ad D nL k0 z0 cfg) : so_G p l e R s m args below meth c Q B ad D nL k0 z0 (pc, (L, (st, (K, H)))) := by
  split at hs
  · rename_i v hv
    have hm := pf_lookup hv
    exact so_push (x := .inl v) (v := .int (Int32.ofInt v)) ⟨Int32.ofInt v, rfl, pf_Iv cno _ hm⟩ (fun kk => lv_ldc hx hb hown (hts _ (pf_I cno _ (List.mem_map_of_mem hm))) hd kk) hs k
  · split at hs
    · rename_i a ha
      unfold sm_cpS at ha
      split at ha
      · rename_i hc8
        have hm := pf_lookup ha
        have hown8 : s.vm.findClass "BellHerd$Reader" = some m.cls := by rw [hc8] at hown; exact hown
        have hq : ∃ tx : String, (idx, (tx, a)) ∈ sm_srs ∧ a < 32 ∧ a ≠ 0 := by
          simp only [List.mem_cons, List.not_mem_nil, or_false, Prod.mk.injEq] at hm
          rcases hm with ⟨rfl, rfl⟩ | ⟨rfl, rfl⟩ | ⟨rfl, rfl⟩ | ⟨rfl, rfl⟩ | ⟨rfl, rfl⟩ | ⟨rfl, rfl⟩
          · exact ⟨_, List.mem_of_getElem? (i := 0) rfl, by omega, by omega⟩
          · exact ⟨_, List.mem_of_getElem? (i := 1) rfl, by omega, by omega⟩
          · exact ⟨_, List.mem_of_getElem? (i := 2) rfl, by omega, by omega⟩
          · exact ⟨_, List.mem_of_getElem? (i := 3) rfl, by omega, by omega⟩
          · exact ⟨_, List.mem_of_getElem? (i := 4) rfl, by omega, by omega⟩
          · exact ⟨_, List.mem_of_getElem? (i := 5) rfl, by omega, by omega⟩
        obtain ⟨tx, h1, h2, h3⟩ := hq
        have hr := hE.2.2.2.2.2.2.2.1 _ h1
        refine so_push (v := .ref (ad a)) ?_ (fun kk => va_ldcS hx hb hown8 hr hd kk) hs k
        show Value.ref _ = va_rf _
        rw [sm_oa, if_neg h3, sm_loc, if_pos h2]
        rfl
      · cases ha
    · cases hs
theorem so_ldcw (hx : p.tables.exec = Jvm.exec) (hb : c.code = cc) (hts : ∀ w ∈ sm_tb, w.before args s = true) (hown : s.vm.findClass (sm_cn cno) = some m.cls) {idx : Nat} (hd : decode cc pc = .ok (.ldc_w idx, 3))
    (hs : (match List.lookup idx (sm_cpI cno) with
    | some v => sm_nx (pc + 3) L (.inl v :: st) K H
    | none => none) = some (.inl cfg)) (k : so_G p l e R s m args below meth c Q B ad D nL k0 z0 cfg) : so_G p l e R s m args below meth c Q B ad D nL k0 z0 (pc, (L, (st, (K, H)))) := by
  split at hs
  · rename_i v hv
    have hm := pf_lookup hv
    exact so_push (x := .inl v) (v := .int (Int32.ofInt v)) ⟨Int32.ofInt v, rfl, pf_Iv cno _ hm⟩ (fun kk => lv_ldcw hx hb hown (hts _ (pf_I cno _ (List.mem_map_of_mem hm))) hd kk) hs k
  · cases hs
theorem so_ldc2 (hx : p.tables.exec = Jvm.exec) (hb : c.code = cc) (hts : ∀ w ∈ sm_tb, w.before args s = true) (hown : s.vm.findClass (sm_cn cno) = some m.cls) {idx : Nat} (hd : decode cc pc = .ok (.ldc2_w idx, 3))
    (hs : (match List.lookup idx (sm_cpJ cno) with
    | some v => sm_nx (pc + 3) L (.inr (.inl v) :: st) K H
    | none => none) = some (.inl cfg)) (k : so_G p l e R s m args below meth c Q B ad D nL k0 z0 cfg) : so_G p l e R s m args below meth c Q B ad D nL k0 z0 (pc, (L, (st, (K, H)))) := by
  split at hs
  · rename_i v hv
    have hm := pf_lookup hv
    exact so_push (x := .inr (.inl v)) (v := .long (Int64.ofInt v)) ⟨Int64.ofInt v, rfl, pf_Jv cno _ hm⟩ (fun kk => lv_ldc2 hx hb hown (hts _ (pf_J cno _ (List.mem_map_of_mem hm))) hd kk) hs k
  · cases hs
/-- a static is pushed -/
theorem so_pushS {d : Nat} {x : sm_V} {v : Value} (hv : sm_val B ad x v)
    (row : ∀ {Hr : Heap} {ls : Array Slot} {rest : List Value} {locs : List Loc} {cells slots : Nat}, va_S (fun q => B ≤ q) s.heap Hr locs → W p l e R s m args below meth c Hr locs cells slots Q (F0 m (pc + d) ls (v :: rest)) → W p l e R s m args below meth c Hr locs cells slots Q (F0 m pc ls rest))
    (hs : sm_nx (pc + d) L (x :: st) K H = some (.inl cfg)) (k : so_G p l e R s m args below meth c Q B ad D nL k0 z0 cfg) : so_G p l e R s m args below meth c Q B ad D nL k0 z0 (pc, (L, (st, (K, H)))) := by
  cases so_nx hs
  intro Hr ls rst locs hl hst hR hS
  exact row hS (k Hr ls (v :: rst) locs hl ⟨hv, hst⟩ hR hS)
theorem so_gets (hx : p.tables.exec = Jvm.exec) (hb : c.code = cc) (hE : so_Ev B ad S s) (hts : ∀ w ∈ sm_tb, w.before args s = true) (hown : s.vm.findClass (sm_cn cno) = some m.cls) {idx : Nat} (hd : decode cc pc = .ok (.getstatic idx, 3))
    (hs : sm_gets S cno idx pc L st K H = some (.inl cfg)) (k : so_G p l e R s m args below meth c Q B ad D nL k0 z0 cfg) : so_G p l e R s m args below meth c Q B ad D nL k0 z0 (pc, (L, (st, (K, H)))) := by
  have hr : ∀ a : Nat, a ≠ 0 → a < 32 → sm_val B ad (.inr (.inr a)) (.ref (ad a)) := fun a h1 h2 => by
    show Value.ref _ = va_rf _
    rw [sm_oa, if_neg h1, sm_loc, if_pos h2]
    rfl
  unfold sm_gets at hs
  split at hs
  · rename_i h; obtain ⟨rfl, rfl⟩ := h
    exact so_pushS (hr 1 (by omega) (by omega)) (fun hS kk => va_gets hx hb hE.2.1 hS hown (hts _ pf_s1) (fun x h => h) hd kk) hs k
  · split at hs
    · rename_i h; obtain ⟨rfl, rfl⟩ := h
      exact so_pushS (hr 2 (by omega) (by omega)) (fun hS kk => va_gets hx hb hE.2.2.1 hS hown (hts _ pf_s2) (fun x h => h) hd kk) hs k
    · split at hs
      · rename_i h; obtain ⟨rfl, rfl⟩ := h
        exact so_pushS (hr 3 (by omega) (by omega)) (fun hS kk => va_gets hx hb hE.2.2.2.1 hS hown (hts _ pf_s3) (fun x h => h) hd kk) hs k
      · split at hs
        · rename_i h; obtain ⟨rfl, rfl⟩ := h
          exact so_pushS (x := .inl 1) (v := .int 1) ⟨1, rfl, rfl⟩ (fun hS kk => va_gets hx hb hE.2.2.2.2.1 hS hown (hts _ pf_s4) (fun x h => h) hd kk) hs k
        · split at hs
          · rename_i h; obtain ⟨rfl, rfl⟩ := h
            exact so_pushS (x := .inr (.inr (if (S 5).isSome then 5 else 0))) (v := va_rf (sm_oa B ad (if (S 5).isSome then 5 else 0))) rfl (fun hS kk => va_gets hx hb hE.2.2.2.2.2.1 hS hown (hts _ pf_s5) (fun x h => h) hd kk) hs k
          · cases hs
theorem so_szapp {K : sm_K} {ce : sm_C} : sm_sz (K ++ [ce]) = sm_sz K + ce.2.1 := by simp [sm_sz]
theorem so_def {t : Nat} {ty : FieldType} {f : Int → Int} {ci k : Nat} {fins : List Nat} (ht : sm_ft ci k = t) (hty : sm_tyok t ty = true) (hf : f k = 0) (hfin : fins.getD k 0 = 0) : ∃ x : sm_V, sm_rd ci k fins f = some x ∧ sm_val B ad x (defaultValue ty) := by
  rcases so_tyt hty with rfl | rfl | rfl | rfl | rfl
  · rw [so_ty0 hty]; exact ⟨.inl 0, by simp [sm_rd, ht, hf], 0, rfl, rfl⟩
  · rw [so_ty4 hty]; exact ⟨.inl 0, by simp [sm_rd, ht, hf], 0, rfl, rfl⟩
  · rw [so_ty1 hty]; exact ⟨.inr (.inl 0), by simp [sm_rd, ht, hf], 0, rfl, rfl⟩
  · refine ⟨.inr (.inr 0), by simp [sm_rd, ht, hf], ?_⟩
    rcases so_tyr hty (Or.inl rfl) with ⟨C, rfl⟩ | ⟨t, rfl⟩ <;> rfl
  · refine ⟨.inr (.inr 0), by unfold sm_rd; rw [ht]; show some _ = _; rw [hfin], ?_⟩
    rcases so_tyr hty (Or.inr rfl) with ⟨C, rfl⟩ | ⟨t, rfl⟩ <;> rfl
theorem so_z_self {a : Nat} {i : Int} : sm_z H a a i = 0 := by simp [sm_z]
theorem so_z_other {a a' : Nat} (h : a' ≠ a) : sm_z H a a' = H a' := by funext i; simp [sm_z, h]
theorem so_new (hx : p.tables.exec = Jvm.exec) (hb : c.code = cc) (hts : ∀ w ∈ sm_tb, w.before args s = true) (hown : s.vm.findClass (sm_cn cno) = some m.cls) (hsz : s.heap.size = B + k0) (hk0 : k0 ≤ K.length) (hz0 : z0 ≤ sm_sz K) {idx : Nat} (hd : decode cc pc = .ok (.new idx, 3))
    (hs : sm_new cno idx pc L st K H = some (.inl cfg)) (hrm : cfg.2.2.2.1.length - k0 ≤ R.cells ∧ sm_sz cfg.2.2.2.1 - z0 ≤ R.slots) (k : so_G p l e R s m args below meth c Q B ad D nL k0 z0 cfg) : so_G p l e R s m args below meth c Q B ad D nL k0 z0 (pc, (L, (st, (K, H)))) := by
  unfold sm_new at hs
  split at hs
  · rename_i ci hlk
    cases so_nx hs
    intro Hr ls rst locs hl hst hR hS
    have hm := pf_lookup hlk
    have h11 : ci < 11 := pf_Cb cno _ hm
    obtain ⟨rc, hrc⟩ := so_clx h11
    obtain ⟨c1, c2, c3, c4, c5, c6, c7, c8, c9⟩ := pf_cls ci rc hrc
    have hw : Cond.classLink (sm_cn cno) idx (sm_cn ci) ∈ sm_tb := pf_C cno _ (List.mem_map_of_mem (f := fun q : Nat × Nat => Cond.classLink (sm_cn cno) q.1 (sm_cn q.2)) hm)
    obtain ⟨ws, tys, qK, qP, qD, ql, qc⟩ := hR
    simp only [List.length_append, List.length_cons, List.length_nil, so_szapp] at hrm
    have hA : ∀ q, s.heap.size ≤ q → (fun q => B ≤ q) q := fun q h => by show B ≤ q; omega
    show W p l e R s m args below meth c Hr locs (K.length - k0) (sm_sz K - z0) Q (F0 m pc ls rst)
    refine va_new (C := rc.1) (T := rc.2.1) (N := rc.2.2) (ci := ci) (fs := (List.range (sm_fn ci)).map (fun j => defaultValue (sm_ty ci j))) hx hb hts c4 (sm_ty ci) c5 hown (by rw [c1]; exact hts _ hw) (hts _ c7) (by rw [c1]; exact hts _ (pf_ini ci (by omega))) qK qP qD hS hA hrc (fun j hj => ?_) (by omega) (by rw [c2]; omega) hd (fun q H1 hP1 hD1 hS1 => ?_)
    · unfold vp_V
      rw [List.getD_eq_getElem?_getD, List.getElem?_map, List.getElem?_range (by rw [← c2]; exact hj)]
      rfl
    · refine W.cs (cells' := (K ++ [(ci, (sm_fn ci, List.replicate (sm_fn ci) 0))]).length - k0) (slots' := sm_sz (K ++ [(ci, (sm_fn ci, List.replicate (sm_fn ci) 0))]) - z0) (by simp; omega) (by rw [so_szapp, c2]; simp; omega) ?_
      refine so_sz hsz fun hle => ?_
      have hq : q = B + K.length := so_q (fun i ce h => by obtain ⟨e2, h1, -⟩ := qc i ce h; exact ⟨e2, h1⟩) ql hP1 hD1 (by simp at hle; omega)
      subst hq
      refine k H1 ls _ locs hl ⟨?_, hst⟩ (so_R.push (t2 := []) (by rw [List.append_nil]; exact qK) ql qc hP1 hD1 (fun a' h => so_z_other h) (Or.inr (Or.inr (Or.inr (Or.inr ⟨h11, _, rfl, by simp, rfl, by simp, fun j hj => ?_⟩))))) hS1
      · show Value.ref _ = va_rf _
        rw [so_oaN (by omega)]
        simp
      · obtain ⟨x, g1, g2⟩ := so_def (B := B) (ad := ad) (f := sm_z H (K.length + 32) (K.length + 32)) (fins := List.replicate (sm_fn ci) 0) rfl (pf_ty ci h11 j hj) so_z_self (by rw [List.getD_eq_getElem?_getD, List.getElem?_replicate]; split <;> rfl)
        exact ⟨_, x, by rw [List.getElem?_map, List.getElem?_range hj]; rfl, g1, g2⟩
  · cases hs
theorem so_nneg {n : Int32} (h : 0 ≤ n.toInt) : ¬ n < 0 := fun q => by
  have h2 : n.toInt < 0 := so_ltI.mp q
  omega
theorem so_newI (hx : p.tables.exec = Jvm.exec) (hb : c.code = cc) (hts : ∀ w ∈ sm_tb, w.before args s = true) (hsz : s.heap.size = B + k0) (hk0 : k0 ≤ K.length) (hz0 : z0 ≤ sm_sz K) {kd : Nat} {at0 : ArrayType} {a0 : Nat → vp_A}
    (hty : (Cond.arrayClass (newarray.typeOf at0)) ∈ sm_tb) (hcell : ∀ (N : Nat) (cA : ClassId), vp_cell cA (a0 N) = arrV cA N (fun _ => defaultValue (newarray.typeOf at0))) (hcb : componentBytes (newarray.typeOf at0) ≤ 8)
    (hce : ∀ (N : Nat) (cA : ClassId) (tys : List (ClassId × FieldType)) (t0 : Nat) (f : Int → Int), (∀ i, f i = 0) → tys[t0]? = some (cA, newarray.typeOf at0) → so_cell B ad tys (kd, (N, [])) f (.inl (cA, a0 N))) (hd : decode cc pc = .ok (.newarray at0, 2))
    (hs : sm_newa kd 2 pc L st K H = some (.inl cfg)) (hrm : cfg.2.2.2.1.length - k0 ≤ R.cells ∧ sm_sz cfg.2.2.2.1 - z0 ≤ R.slots) (k : so_G p l e R s m args below meth c Q B ad D nL k0 z0 cfg) : so_G p l e R s m args below meth c Q B ad D nL k0 z0 (pc, (L, (st, (K, H)))) := by
  unfold sm_newa at hs
  split at hs
  · rename_i n r
    split at hs
    · rename_i hn
      cases so_nx hs
      intro Hr ls rst locs hl hst0 hR hS
      obtain ⟨v1, r1, e1, ⟨a1, rfl, h1⟩, hst⟩ := so_cons hst0
      subst e1; subst h1
      obtain ⟨ws, tys, qK, qP, qD, ql, qc⟩ := hR
      simp only [List.length_append, List.length_cons, List.length_nil, so_szapp] at hrm
      have hA : ∀ q, s.heap.size ≤ q → (fun q => B ≤ q) q := fun q h => by show B ≤ q; omega
      have hnn : a1.toNatClampNeg = a1.toInt.toNat := rfl
      have hbytes : a1.toInt.toNat * componentBytes (newarray.typeOf at0) ≤ 536870912 := by
        have h1 : a1.toInt.toNat ≤ 10000000 := by omega
        have h2 := Nat.mul_le_mul h1 hcb
        omega
      show W p l e R s m args below meth c Hr locs (K.length - k0) (sm_sz K - z0) Q (F0 m pc ls (.int a1 :: r1))
      refine va_newa (a0 := a0 a1.toInt.toNat) hx hb (hts _ hty) rfl qK qP qD hS hA (hcell _) (so_nneg hn.1) hnn hbytes (by omega) (by omega) hd (fun q cA H1 hK1 hP1 hD1 hS1 => ?_)
      refine W.cs (cells' := (K ++ [(kd, (a1.toInt.toNat, []))]).length - k0) (slots' := sm_sz (K ++ [(kd, (a1.toInt.toNat, []))]) - z0) (by simp; omega) (by rw [so_szapp]; simp; omega) ?_
      refine so_sz hsz fun hle => ?_
      have hq : q = B + K.length := so_q (fun i ce h => by obtain ⟨e2, h1, -⟩ := qc i ce h; exact ⟨e2, h1⟩) ql hP1 hD1 (by simp at hle; omega)
      subst hq
      refine k H1 ls _ locs hl ⟨?_, hst⟩ (so_R.push hK1 ql qc hP1 hD1 (fun a' h => so_z_other h) (hce _ _ _ tys.length _ (fun i => so_z_self) (by rw [List.getElem?_append_right (Nat.le_refl _), Nat.sub_self]; rfl))) hS1
      show Value.ref _ = va_rf _
      rw [so_oaN (by omega)]
      simp
    · cases hs
  · cases hs
theorem so_anew (hx : p.tables.exec = Jvm.exec) (hb : c.code = cc) (hE : so_Ev B ad S s) (hts : ∀ w ∈ sm_tb, w.before args s = true) (hown : s.vm.findClass (sm_cn cno) = some m.cls) (hsz : s.heap.size = B + k0) (hk0 : k0 ≤ K.length) (hz0 : z0 ≤ sm_sz K) {idx : Nat} (hd : decode cc pc = .ok (.anewarray idx, 3))
    (hs : sm_anew cno idx pc L st K H = some (.inl cfg)) (hrm : cfg.2.2.2.1.length - k0 ≤ R.cells ∧ sm_sz cfg.2.2.2.1 - z0 ≤ R.slots) (k : so_G p l e R s m args below meth c Q B ad D nL k0 z0 cfg) : so_G p l e R s m args below meth c Q B ad D nL k0 z0 (pc, (L, (st, (K, H)))) := by
  unfold sm_anew at hs
  split at hs
  · rename_i ci hlk
    split at hs
    · rename_i hci
      unfold sm_newa at hs
      split at hs
      · rename_i n r
        split at hs
        · rename_i hn
          cases so_nx hs
          intro Hr ls rst locs hl hst0 hR hS
          obtain ⟨v1, r1, e1, ⟨a1, rfl, h1⟩, hst⟩ := so_cons hst0
          subst e1; subst h1
          have hm := pf_lookup hlk
          have hw : Cond.classLink (sm_cn cno) idx (sm_cn ci) ∈ sm_tb := pf_C cno _ (List.mem_map_of_mem (f := fun q : Nat × Nat => Cond.classLink (sm_cn cno) q.1 (sm_cn q.2)) hm)
          have hao : va_AO (sm_cn ci) s := by
            rcases hci with rfl | rfl
            · exact hE.2.2.2.2.2.2.2.2.2.2.1
            · exact hE.2.2.2.2.2.2.2.2.2.2.2
          obtain ⟨ws, tys, qK, qP, qD, ql, qc⟩ := hR
          simp only [List.length_append, List.length_cons, List.length_nil, so_szapp] at hrm
          have hA : ∀ q, s.heap.size ≤ q → (fun q => B ≤ q) q := fun q h => by show B ≤ q; omega
          have hnn : a1.toNatClampNeg = a1.toInt.toNat := rfl
          show W p l e R s m args below meth c Hr locs (K.length - k0) (sm_sz K - z0) Q (F0 m pc ls (.int a1 :: r1))
          refine va_newq hx hb hown (hts _ hw) hao qK qP qD hS hA (so_nneg hn.1) hnn (by omega) (by omega) (by omega) hd (fun q cA H1 hK1 hP1 hD1 hS1 => ?_)
          refine W.cs (cells' := (K ++ [(ci + 30, (a1.toInt.toNat, []))]).length - k0) (slots' := sm_sz (K ++ [(ci + 30, (a1.toInt.toNat, []))]) - z0) (by simp; omega) (by rw [so_szapp]; simp; omega) ?_
          refine so_sz hsz fun hle => ?_
          have hq : q = B + K.length := so_q (fun i ce h => by obtain ⟨e2, h1, -⟩ := qc i ce h; exact ⟨e2, h1⟩) ql hP1 hD1 (by simp at hle; omega)
          subst hq
          refine k H1 ls _ locs hl ⟨?_, hst⟩ (so_R.push hK1 ql qc hP1 hD1 (fun a' h => so_z_other h) (Or.inr (Or.inr (Or.inr (Or.inl ⟨by simp only; omega, cA, tys.length, _, rfl, by rw [List.getElem?_append_right (Nat.le_refl _), Nat.sub_self]; simp, fun j hj => ?_⟩))))) hS1
          · show Value.ref _ = va_rf _
            rw [so_oaN (by omega)]
            simp
          · show none = sm_oa B ad (sm_z H (K.length + 32) (K.length + 32) (j : Int)).toNat
            rw [so_z_self]
            rfl
        · cases hs
      · cases hs
    · cases hs
  · cases hs
theorem so_cpy {α : Type} {mk : α → Int} {f g : Nat → α} {a b : Nat} {i j n : Int32} {na nb : Nat} (hi : 0 ≤ i.toInt) (hj : 0 ≤ j.toInt) (hn : 0 ≤ n.toInt) (hin : i.toInt + n.toInt ≤ na) (hf : ∀ t : Nat, t < na → mk (f t) = H a t) (hg : ∀ t : Nat, t < nb → mk (g t) = H b t) :
    ∀ t : Nat, t < nb → mk (va_cpy f g i.toNatClampNeg j.toNatClampNeg n.toNatClampNeg t) = sm_cp H a i.toInt b j.toInt n.toInt b t := by
  intro t ht
  have h1 := so_nat hi
  have h2 := so_nat hj
  have h3 := so_nat hn
  unfold va_cpy sm_cp
  by_cases hc : j.toNatClampNeg ≤ t ∧ t < j.toNatClampNeg + n.toNatClampNeg
  · rw [if_pos hc, if_pos ⟨rfl, by omega, by omega⟩, hf _ (by omega)]
    congr 1
    omega
  · rw [if_neg hc, if_neg (fun q => hc ⟨by omega, by omega⟩), hg t ht]
theorem so_cp_other {a b a' : Nat} {i j n : Int} (h : a' ≠ b) : sm_cp H a i b j n a' = H a' := by funext t; simp [sm_cp, h]
theorem so_acopy (hx : p.tables.exec = Jvm.exec) (hb : c.code = cc) (hml : c.maxLocals = nL) (hts : ∀ w ∈ sm_tb, w.before args s = true) (hown : s.vm.findClass (sm_cn cno) = some m.cls) (hrf : 1 ≤ R.frames ∧ 64 ≤ R.locals) {idx : Nat} (hlink : Cond.methodLink (sm_cn cno) idx arraycopyName ∈ sm_tb) (hd : decode cc pc = .ok (.invokestatic idx, 3))
    (hs : sm_acopy pc L st K H = some (.inl cfg)) (k : so_G p l e R s m args below meth c Q B ad D nL k0 z0 cfg) : so_G p l e R s m args below meth c Q B ad D nL k0 z0 (pc, (L, (st, (K, H)))) := by
  unfold sm_acopy at hs
  split at hs
  · rename_i n j b i a r
    split at hs
    · rename_i kk na fa kb nb fb hka hkb
      split at hs
      · rename_i hc
        obtain ⟨rfl, hkind, hi, hj, hn, hin, hjn, hcat, hlaw⟩ := hc
        cases so_nx hs
        intro Hr ls rst locs hl hst0 hR hS
        obtain ⟨v1, r1, e1, ⟨a1, rfl, h1⟩, hst1⟩ := so_cons hst0
        obtain ⟨v2, r2, e2, ⟨a2, rfl, h2⟩, hst2⟩ := so_cons hst1
        obtain ⟨v3, r3, e3, h3, hst3⟩ := so_cons hst2
        obtain ⟨v4, r4, e4, ⟨a4, rfl, h4⟩, hst4⟩ := so_cons hst3
        obtain ⟨v5, r5, e5, h5, hst⟩ := so_cons hst4
        subst e1; subst e2; subst e3; subst e4; subst e5; subst h1; subst h2; subst h4
        cases so_valA h3 (so_kd hkb).1
        cases so_valA h5 (so_kd hka).1
        obtain ⟨ws, tys, qK, qP, qD, ql, qc⟩ := hR
        obtain ⟨ea, p1, p2⟩ := so_R.cell qc hka
        obtain ⟨eb, q1, q2⟩ := so_R.cell qc hkb
        have g1 := so_nat hi
        have g2 := so_nat hj
        have g3 := so_nat hn
        have hlo : (r5.map fun v => v.category).sum + (nativeFrameWords "java/lang/System" "arraycopy" 5 + 11) ≤ R.locals := by
          rw [so_cats hst]
          have : nativeFrameWords "java/lang/System" "arraycopy" 5 = 7 := by decide +kernel
          omega
        have hmls : c.maxLocals = ls.size := by rw [hml, hl.2.1]
        rcases hkind with rfl | rfl | rfl
        · obtain ⟨cA, t0, f, rfl, p3, p4⟩ := p2.ints
          obtain ⟨cB, t1, g, rfl, q3, q4⟩ := q2.ints
          refine va_copyi hx hb hmls hown (hts _ hlink) (hts _ pf_acN) (hts _ pf_acS) (hts _ pf_acI) qK qP qD hS (a - 32) (b - 32) t0 t1 p1 q1 p3 q3 rfl (so_nneg hi) (so_nneg hj) (so_nneg hn) (by omega) (by omega) (fun _ _ => rfl) hrf.1 hlo hd fun H1 locs1 hP1 hD1 hS1 => ?_
          exact k H1 ls _ locs1 hl hst (so_R.set0 qK ql qc hkb hP1 hD1 (fun a' h => so_cp_other h) (Or.inl ⟨rfl, cB, t1, _, rfl, q3, so_cpy (mk := Int32.toInt) hi hj hn hin p4 q4⟩)) hS1
        · obtain ⟨cA, t0, f, rfl, p3, p4⟩ := p2.longs
          obtain ⟨cB, t1, g, rfl, q3, q4⟩ := q2.longs
          refine va_copyl hx hb hmls hown (hts _ hlink) (hts _ pf_acN) (hts _ pf_acS) (hts _ pf_acI) qK qP qD hS (a - 32) (b - 32) t0 t1 p1 q1 p3 q3 rfl (so_nneg hi) (so_nneg hj) (so_nneg hn) (by omega) (by omega) (fun _ _ => rfl) hrf.1 hlo hd fun H1 locs1 hP1 hD1 hS1 => ?_
          exact k H1 ls _ locs1 hl hst (so_R.set0 qK ql qc hkb hP1 hD1 (fun a' h => so_cp_other h) (Or.inr (Or.inl ⟨rfl, cB, t1, _, rfl, q3, so_cpy (mk := Int64.toInt) hi hj hn hin p4 q4⟩))) hS1
        · obtain ⟨cA, t0, f, rfl, p3, p4⟩ := so_cell.refs (Or.inl rfl) p2
          obtain ⟨cB, t1, g, rfl, q3, q4⟩ := so_cell.refs (Or.inl rfl) q2
          have hl4 : ∀ t : Nat, t < a1.toNatClampNeg → ∀ y : Nat, f (a4.toNatClampNeg + t) = some y → ∃ cellV : Cell, Hr[y]? = some cellV ∧ cellV.vm.isStatics = false ∧ s.vm.findClass (sm_cn 4) = some cellV.cls := by
            intro t ht y hy
            rw [p4 _ (by omega)] at hy
            have h9 := List.all_eq_true.mp (hlaw rfl) t (List.mem_range.mpr (by omega))
            have e9 : ((a4.toNatClampNeg + t : Nat) : Int) = a4.toInt + (t : Int) := by omega
            rw [e9] at hy
            unfold sm_oa at hy
            split at hy
            · cases hy
            · rename_i hnz
              unfold sm_lawq at h9
              rw [if_neg hnz] at h9
              split at h9
              · rename_i k4 c4 hk4
                have hk44 : k4 = 4 := of_decide_eq_true h9
                subst hk44
                obtain ⟨n4, f4⟩ := c4
                obtain ⟨e4, y1, y2⟩ := so_R.cell qc hk4
                obtain ⟨fs4, rfl, -⟩ := so_cell.obj (by omega) y2
                rw [so_locN (so_kd hk4).1] at hy
                cases hy
                exact va_recv (q := (RX4, TX4, 3)) qK qP rfl y1
              · cases h9
          refine va_copyq (C := sm_cn 4) hx hb hmls hown (hts _ hlink) (hts _ pf_acN) (hts _ pf_acS) (hts _ pf_acI) qK qP qD hS (a - 32) (b - 32) t0 t1 p1 q1 p3 q3 (so_nneg hi) (so_nneg hj) (so_nneg hn) (by omega) (by omega) hl4 (fun comp c0 u1 u2 => by cases u1.symm.trans u2; exact va_asg _ _) hrf.1 hlo hd fun H1 locs1 hP1 hD1 hS1 => ?_
          refine k H1 ls _ locs1 hl hst (so_R.set0 qK ql qc hkb hP1 hD1 (fun a' h => so_cp_other h) (Or.inr (Or.inr (Or.inr (Or.inl ⟨Or.inl rfl, cB, t1, _, rfl, q3, fun t ht => ?_⟩))))) hS1
          show _ = sm_oa B ad (sm_cp H a a4.toInt b a2.toInt a1.toInt b (t : Int)).toNat
          unfold va_cpy sm_cp
          by_cases hc : a2.toNatClampNeg ≤ t ∧ t < a2.toNatClampNeg + a1.toNatClampNeg
          · rw [if_pos hc, if_pos ⟨rfl, by omega, by omega⟩, p4 _ (by omega)]
            show sm_oa B ad (H a _).toNat = sm_oa B ad (H a _).toNat
            rw [show ((a4.toNatClampNeg + (t - a2.toNatClampNeg) : Nat) : Int) = a4.toInt + ((t : Int) - a2.toInt) by omega]
          · rw [if_neg hc, if_neg (fun q => hc ⟨by omega, by omega⟩), q4 t ht]
      · cases hs
    · cases hs
  · cases hs
end SO6
