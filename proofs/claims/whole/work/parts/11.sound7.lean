/-! THE SMALL MACHINE IS SOUND, 7: clone, casts, Math, one instruction -/
section SO7
variable {p : Program} {l : Launch} {e : Env} {R : Room} {s : State} {m : MethodId} {args : Array Value} {below : List Frame} {meth : Method} {c : Code} {Q : State → Prop} {B : Nat} {ad : Nat → Nat} {D : va_G} {nL k0 z0 : Nat}
variable {cc : ByteArray} {pc : Nat} {L : sm_L} {st : List sm_V} {K : sm_K} {H : sm_H} {cfg : sm_S} {S : sm_E} {cno ini : Nat}
theorem so_nmI {cA : ClassId} (h : va_RA s cA .int) : s.vm.findClass "[I" = some cA := h
theorem so_clone (hx : p.tables.exec = Jvm.exec) (hb : c.code = cc) (hml : c.maxLocals = nL) (hE : so_Ev B ad S s) (hts : ∀ w ∈ sm_tb, w.before args s = true) (hown : s.vm.findClass (sm_cn cno) = some m.cls) (hsz : s.heap.size = B + k0) (hk0 : k0 ≤ K.length) (hz0 : z0 ≤ sm_sz K) (hrf : 1 ≤ R.frames ∧ 64 ≤ R.locals) {idx : Nat} (hlink : Cond.methodLink (sm_cn cno) idx ⟨"[I", "clone", "()Ljava/lang/Object;"⟩ ∈ sm_tb) (hd : decode cc pc = .ok (.invokevirtual idx, 3))
    (hs : sm_clone pc L st K H = some (.inl cfg)) (hrm : cfg.2.2.2.1.length - k0 ≤ R.cells ∧ sm_sz cfg.2.2.2.1 - z0 ≤ R.slots) (k : so_G p l e R s m args below meth c Q B ad D nL k0 z0 cfg) : so_G p l e R s m args below meth c Q B ad D nL k0 z0 (pc, (L, (st, (K, H)))) := by
  unfold sm_clone at hs
  split at hs
  · rename_i a r
    split at hs
    · rename_i kd n fins hk
      split at hs
      · rename_i hc
        obtain ⟨rfl, hcat⟩ := hc
        cases so_nx hs
        intro Hr ls rst locs hl hst0 hR hS
        obtain ⟨v1, r1, e1, h1, hst⟩ := so_cons hst0
        subst e1
        cases so_valA h1 (so_kd hk).1
        obtain ⟨ws, tys, qK, qP, qD, ql, qc⟩ := hR
        obtain ⟨e', q1, q2⟩ := so_R.cell qc hk
        obtain ⟨cA, t0, g, rfl, q3, q4⟩ := q2.ints
        simp only [List.length_append, List.length_cons, List.length_nil, so_szapp] at hrm
        have hA : ∀ q, s.heap.size ≤ q → (fun q => B ≤ q) q := fun q h => by show B ≤ q; omega
        show W p l e R s m args below meth c Hr locs (K.length - k0) (sm_sz K - z0) Q (F0 m pc ls (.ref (B + (a - 32)) :: r1))
        refine va_clone (ad := "[I") hx hb (by rw [hml, hl.2.1]) hown (hts _ hlink) (hts _ pf_cnM) (hts _ pf_cnN) (hts _ pf_cnI) (hts _ pf_cnS) hE.2.2.2.2.2.2.2.2.2.1 qK qP qD hS hA (a - 32) t0 q1 q3 (so_nmI (qK.2 t0 _ q3).2) (fun i v hv => ?_) hrf.1 (by rw [so_cats hst]; omega) (by omega) (by show _ + n ≤ _; omega) hd (fun q H1 hK1 hP1 hD1 hS1 => ?_)
        · have hlt : i < n := by
            have h8 := (Array.getElem?_eq_some_iff.mp hv).1
            have h9 : (vp_cell cA (n, .inl g)).slots.size = n := arrV_size _ _ _
            omega
          have h9 : (vp_cell cA (n, .inl g)).slots[i]? = some (.int (g i)) := arrV_read _ _ hlt
          cases hv.symm.trans h9
          rfl
        · refine W.cs (cells' := (K ++ [(20, (n, []))]).length - k0) (slots' := sm_sz (K ++ [(20, (n, []))]) - z0) (by simp; omega) (by rw [so_szapp]; simp; omega) ?_
          refine so_sz hsz fun hle => ?_
          have hq : q = B + K.length := so_q (fun i ce h => by obtain ⟨e2, h1, -⟩ := qc i ce h; exact ⟨e2, h1⟩) ql hP1 hD1 (by simp at hle; omega)
          subst hq
          refine k H1 ls _ locs hl ⟨?_, hst⟩ (so_R.push hK1 ql qc hP1 hD1 (fun a' h => by funext i; simp [h]) (Or.inl ⟨rfl, cA, tys.length, g, rfl, by rw [List.getElem?_append_right (Nat.le_refl _), Nat.sub_self]; rfl, fun j hj => ?_⟩)) hS1
          · show Value.ref _ = va_rf _
            rw [so_oaN (by omega)]
            simp
          · rw [q4 j hj]
            simp
      · cases hs
    · cases hs
  · cases hs
theorem so_cast (hx : p.tables.exec = Jvm.exec) (hb : c.code = cc) (hts : ∀ w ∈ sm_tb, w.before args s = true) (hown : s.vm.findClass (sm_cn cno) = some m.cls) {idx : Nat} (hd : decode cc pc = .ok (.checkcast idx, 3))
    (hs : (match st with
    | .inr (.inr a) :: r => match sm_ar K H 20 a with
      | some _ => if cno = 14 ∧ idx = 317 then sm_nx (pc + 3) L st K H else none
      | none => none
    | _ => none) = some (.inl cfg)) (k : so_G p l e R s m args below meth c Q B ad D nL k0 z0 cfg) : so_G p l e R s m args below meth c Q B ad D nL k0 z0 (pc, (L, (st, (K, H)))) := by
  split at hs
  · rename_i a r
    split at hs
    · rename_i q hf
      split at hs
      · rename_i hc
        obtain ⟨rfl, rfl⟩ := hc
        cases so_nx hs
        intro Hr ls rst locs hl hst0 hR hS
        have kk := k Hr ls rst locs hl hst0 hR hS
        obtain ⟨v1, r1, e1, h1, hst⟩ := so_cons hst0
        subst e1
        obtain ⟨fins, hk, -⟩ := so_ar (n := q.1) (f := q.2) hf
        cases so_valA h1 (so_kd hk).1
        obtain ⟨ws, tys, qK, qP, qD, ql, qc⟩ := hR
        obtain ⟨e', q1, q2⟩ := so_R.cell qc hk
        obtain ⟨cA, t0, g, rfl, q3, q4⟩ := q2.ints
        exact va_castA (nm := "[I") hx hb hown (hts _ pf_cnL) qP (a - 32) q1 (so_nmI (qK.2 t0 _ q3).2) hd kk
      · cases hs
    · cases hs
  · cases hs
theorem so_ma {f : Int → Int → Int} {g : Int32 → Int32 → Int32} (hg : ∀ a b, (g a b).toInt = f a.toInt b.toInt)
    (row : ∀ {Hr : Heap} {ls : Array Slot} {rest : List Value} {locs : List Loc} {x y : Int32}, ls.size = nL → (rest.map fun v => v.category).sum ≤ 8 → W p l e R s m args below meth c Hr locs (K.length - k0) (sm_sz K - z0) Q (F0 m (pc + 3) ls (.int (g x y) :: rest)) → W p l e R s m args below meth c Hr locs (K.length - k0) (sm_sz K - z0) Q (F0 m pc ls (.int y :: .int x :: rest)))
    (hs : sm_ma f pc L st K H = some (.inl cfg)) (k : so_G p l e R s m args below meth c Q B ad D nL k0 z0 cfg) : so_G p l e R s m args below meth c Q B ad D nL k0 z0 (pc, (L, (st, (K, H)))) := by
  unfold sm_ma at hs
  split at hs
  · split at hs
    · rename_i hcat
      cases so_nx hs
      intro Hr ls rst locs hl hst0 hR hS
      obtain ⟨v1, r1, e1, ⟨a1, rfl, h1⟩, hst1⟩ := so_cons hst0
      obtain ⟨v2, r2, e2, ⟨a2, rfl, h2⟩, hst⟩ := so_cons hst1
      subst e1; subst e2
      exact row hl.2.1 (by rw [so_cats hst]; exact hcat) (k Hr ls _ locs hl ⟨⟨_, rfl, by rw [hg, h1, h2]⟩, hst⟩ hR hS)
    · cases hs
  · cases hs
theorem so_maj {f : Int → Int → Int} {g : Int64 → Int64 → Int64} (hg : ∀ a b, (g a b).toInt = f a.toInt b.toInt)
    (row : ∀ {Hr : Heap} {ls : Array Slot} {rest : List Value} {locs : List Loc} {x y : Int64}, ls.size = nL → (rest.map fun v => v.category).sum ≤ 8 → W p l e R s m args below meth c Hr locs (K.length - k0) (sm_sz K - z0) Q (F0 m (pc + 3) ls (.long (g x y) :: rest)) → W p l e R s m args below meth c Hr locs (K.length - k0) (sm_sz K - z0) Q (F0 m pc ls (.long y :: .long x :: rest)))
    (hs : sm_maj f pc L st K H = some (.inl cfg)) (k : so_G p l e R s m args below meth c Q B ad D nL k0 z0 cfg) : so_G p l e R s m args below meth c Q B ad D nL k0 z0 (pc, (L, (st, (K, H)))) := by
  unfold sm_maj at hs
  split at hs
  · split at hs
    · rename_i hcat
      cases so_nx hs
      intro Hr ls rst locs hl hst0 hR hS
      obtain ⟨v1, r1, e1, ⟨a1, rfl, h1⟩, hst1⟩ := so_cons hst0
      obtain ⟨v2, r2, e2, ⟨a2, rfl, h2⟩, hst⟩ := so_cons hst1
      subst e1; subst e2
      exact row hl.2.1 (by rw [so_cats hst]; exact hcat) (k Hr ls _ locs hl ⟨⟨_, rfl, by rw [hg, h1, h2]⟩, hst⟩ hR hS)
    · cases hs
  · cases hs
theorem so_mw {idx kd mid n : Nat} (hlk : List.lookup idx (sm_cpM cno) = some (kd, (mid, n))) (h3 : kd ≠ 3) : sm_mw cno (idx, (kd, (mid, n))) ∈ sm_tb := by
  have hm := pf_lookup hlk
  exact pf_M cno _ (List.mem_map_of_mem (List.mem_filter.mpr ⟨hm, by simpa using h3⟩))
/-- which methods of Math the entries name -/
theorem so_math : ∀ (c : Nat), ∀ q ∈ sm_cpM c, (q.2.1 = 10 → q.2.2.1 = 256) ∧ (q.2.1 = 11 → q.2.2.1 = 258) ∧ (q.2.1 = 12 → q.2.2.1 = 257) ∧ (q.2.1 = 13 → q.2.2.1 = 259) ∧ (q.2.1 = 14 → q.2.2.1 = 255) := fun c => match c with
  | 0 => by decide +kernel
  | 1 => by decide +kernel
  | 2 => by decide +kernel
  | 3 => by decide +kernel
  | 4 => by decide +kernel
  | 5 => by decide +kernel
  | 6 => by decide +kernel
  | 7 => by decide +kernel
  | 8 => by decide +kernel
  | 9 => by decide +kernel
  | 10 => by decide +kernel
  | 11 => by decide +kernel
  | 12 => by decide +kernel
  | 13 => by decide +kernel
  | 14 => by decide +kernel
  | 15 => by decide +kernel
  | 16 => by decide +kernel
  | 17 => by decide +kernel
  | c + 18 => fun w h => absurd h List.not_mem_nil
theorem so_x256 : sm_cw sm_m256 = Cond.code Lib.Math.max.name Lib.Math.max.code 2 (some .int) := rfl
theorem so_x258 : sm_cw sm_m258 = Cond.code Lib.Math.min.name Lib.Math.min.code 2 (some .int) := rfl
theorem so_x257 : sm_cw sm_m257 = Cond.code Lib.MathLoose.max_long.x Lib.MathLoose.max_long.code 4 (some .long) := rfl
theorem so_x259 : sm_cw sm_m259 = Cond.code Lib.MathLoose.min_long.x Lib.MathLoose.min_long.code 4 (some .long) := rfl
theorem so_x255 : sm_cw sm_m255 = Cond.code Lib.MathLoose.abs_long.x Lib.MathLoose.abs_long.code 2 (some .long) := rfl
theorem so_maths (hx : p.tables.exec = Jvm.exec) (hb : c.code = cc) (hml : c.maxLocals = nL) (hts : ∀ w ∈ sm_tb, w.before args s = true) (hown : s.vm.findClass (sm_cn cno) = some m.cls) (hrf : 1 ≤ R.frames ∧ 64 ≤ R.locals) (hrm : K.length - k0 ≤ R.cells ∧ sm_sz K - z0 ≤ R.slots) {idx kd mid n : Nat} (hlk : List.lookup idx (sm_cpM cno) = some (kd, (mid, n))) (hd : decode cc pc = .ok (.invokestatic idx, 3))
    (hs : (kd = 10 ∧ sm_ma (fun x y => if x < y then y else x) pc L st K H = some (.inl cfg)) ∨ (kd = 11 ∧ sm_ma (fun x y => if y < x then y else x) pc L st K H = some (.inl cfg)) ∨ (kd = 12 ∧ sm_maj (fun x y => if y < x then x else y) pc L st K H = some (.inl cfg)) ∨ (kd = 13 ∧ sm_maj (fun x y => if y < x then y else x) pc L st K H = some (.inl cfg)) ∨ (kd = 14 ∧ (match st with
    | .inr (.inl x) :: r => if (r.map sm_cat).sum ≤ 8 then sm_nx (pc + 3) L (.inr (.inl (if 0 < x then x else sm_q (-x))) :: r) K H else none
    | _ => none) = some (.inl cfg))) (k : so_G p l e R s m args below meth c Q B ad D nL k0 z0 cfg) : so_G p l e R s m args below meth c Q B ad D nL k0 z0 (pc, (L, (st, (K, H)))) := by
  have hm := so_math cno _ (pf_lookup hlk)
  have hI : (Cond.initialized "java/lang/Math").before args s = true := hts _ (pf_ini 13 (by omega))
  rcases hs with ⟨rfl, hs⟩ | ⟨rfl, hs⟩ | ⟨rfl, hs⟩ | ⟨rfl, hs⟩ | ⟨rfl, hs⟩
  · obtain rfl : mid = 256 := hm.1 rfl
    have hl := so_mw hlk (by omega)
    refine so_ma (g := fun x y => if x < y then y else x) (fun a b => ?_) (fun h1 h2 kk => va_mmax hx hb (by rw [hml, h1]) hown (hts _ hl) (hts _ pf_M_s256) hI (hts _ (so_x256 ▸ pf_M_c256)) hrf.1 (by omega) hrm.1 hrm.2 hd kk) hs k
    by_cases h : a < b
    · rw [if_pos h, if_pos (so_ltI.mp h)]
    · rw [if_neg h, if_neg (fun q => h (so_ltI.mpr q))]
  · obtain rfl : mid = 258 := hm.2.1 rfl
    have hl := so_mw hlk (by omega)
    refine so_ma (g := fun x y => if y < x then y else x) (fun a b => ?_) (fun h1 h2 kk => va_mmin hx hb (by rw [hml, h1]) hown (hts _ hl) (hts _ pf_M_s258) hI (hts _ (so_x258 ▸ pf_M_c258)) hrf.1 (by omega) hrm.1 hrm.2 hd kk) hs k
    by_cases h : b < a
    · rw [if_pos h, if_pos (so_ltI.mp h)]
    · rw [if_neg h, if_neg (fun q => h (so_ltI.mpr q))]
  · obtain rfl : mid = 257 := hm.2.2.1 rfl
    have hl := so_mw hlk (by omega)
    refine so_maj (g := fun x y => if y < x then x else y) (fun a b => ?_) (fun h1 h2 kk => va_mmax_long hx hb (by rw [hml, h1]) hown (hts _ hl) (hts _ pf_M_s257) hI (hts _ (so_x257 ▸ pf_M_c257)) hrf.1 (by omega) hrm.1 hrm.2 hd kk) hs k
    by_cases h : b < a
    · rw [if_pos h, if_pos (Int64.lt_iff_toInt_lt.mp h)]
    · rw [if_neg h, if_neg (fun q => h (Int64.lt_iff_toInt_lt.mpr q))]
  · obtain rfl : mid = 259 := hm.2.2.2.1 rfl
    have hl := so_mw hlk (by omega)
    refine so_maj (g := fun x y => if y < x then y else x) (fun a b => ?_) (fun h1 h2 kk => va_mmin_long hx hb (by rw [hml, h1]) hown (hts _ hl) (hts _ pf_M_s259) hI (hts _ (so_x259 ▸ pf_M_c259)) hrf.1 (by omega) hrm.1 hrm.2 hd kk) hs k
    by_cases h : b < a
    · rw [if_pos h, if_pos (Int64.lt_iff_toInt_lt.mp h)]
    · rw [if_neg h, if_neg (fun q => h (Int64.lt_iff_toInt_lt.mpr q))]
  · obtain rfl : mid = 255 := hm.2.2.2.2 rfl
    have hl0 := so_mw hlk (by omega)
    split at hs
    · rename_i x r
      split at hs
      · rename_i hcat
        cases so_nx hs
        intro Hr ls rst locs hl hst0 hR hS
        obtain ⟨v1, r1, e1, ⟨a1, rfl, h1⟩, hst⟩ := so_cons hst0
        subst e1; subst h1
        refine va_mabs_long hx hb (by rw [hml, hl.2.1]) hown (hts _ hl0) (hts _ pf_M_s255) hI (hts _ (so_x255 ▸ pf_M_c255)) hrf.1 (by rw [so_cats hst]; omega) hrm.1 hrm.2 hd ?_
        refine k Hr ls _ locs hl ⟨⟨_, rfl, ?_⟩, hst⟩ hR hS
        by_cases h : 0 < a1
        · have h2 : 0 < a1.toInt := Int64.lt_iff_toInt_lt.mp h
          rw [if_pos h, if_pos h2]
        · have h2 : ¬ 0 < a1.toInt := fun q => h (Int64.lt_iff_toInt_lt.mpr q)
          rw [if_neg h, if_neg h2, so_negJ]
      · cases hs
    · cases hs
end SO7
