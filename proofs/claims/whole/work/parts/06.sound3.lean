/-! THE SMALL MACHINE IS SOUND, 3: arrays and fields -/
theorem so_in {i : Int32} {n : Nat} (h : 0 ≤ i.toInt ∧ i.toInt < n) : vp_in i n := by
  intro q
  rcases q with q | q
  · have h2 : i.toInt < 0 := so_ltI.mp q
    omega
  · have h2 : i.toNatClampNeg = i.toInt.toNat := rfl
    omega
theorem so_nat {i : Int32} (h : 0 ≤ i.toInt) : (i.toNatClampNeg : Int) = i.toInt := by
  have h2 : i.toNatClampNeg = i.toInt.toNat := rfl
  omega
theorem so_natlt {i : Int32} {n : Nat} (h : 0 ≤ i.toInt ∧ i.toInt < n) : i.toNatClampNeg < n := by
  have := so_nat h.1
  omega
theorem so_u_self {H : sm_H} {a : Nat} {i v : Int} : sm_u H a i v a i = v := by simp [sm_u]
theorem so_u_other {H : sm_H} {a a' : Nat} {i v : Int} (h : a' ≠ a) : sm_u H a i v a' = H a' := by
  funext j
  simp [sm_u, h]
/-- one cell changes -/
theorem so_R.set {B : Nat} {ad : Nat → Nat} {D : va_G} {s : State} {ws : va_W} {tys : List (ClassId × FieldType)} {K : sm_K} {H H' : sm_H} {H1 : Heap} {a : Nat} {ce ce' : sm_C} {e' : va_E} (hK : va_K D sm_cl tys s) (hl : ws.length = K.length)
    (hc : ∀ (i : Nat) (ce : sm_C), K[i]? = some ce → ∃ e : va_E, ws[i]? = some (B + i, e) ∧ so_cell B ad tys ce (H (i + 32)) e) (ha : sm_kd K a = some ce)
    (hP : va_P D sm_cl (ws.set (a - 32) (B + (a - 32), e')) H1) (hD : va_D (fun q => B ≤ q) (ws.set (a - 32) (B + (a - 32), e'))) (ho : ∀ a', a' ≠ a → H' a' = H a') (hce : so_cell B ad tys ce' (H' a) e') : so_R B ad D s (K.set (a - 32) ce') H' H1 := by
  obtain ⟨h1, h2⟩ := so_kd ha
  have hlt : a - 32 < K.length := (List.getElem?_eq_some_iff.mp h2).1
  refine ⟨_, tys, hK, hP, hD, by rw [List.length_set, List.length_set, hl], fun i c2 hi => ?_⟩
  by_cases hia : a - 32 = i
  · subst hia
    rw [List.getElem?_set_self hlt] at hi
    cases hi
    refine ⟨e', by rw [List.getElem?_set_self (by rw [hl]; exact hlt)], ?_⟩
    rw [show a - 32 + 32 = a by omega]
    exact hce
  · rw [List.getElem?_set_ne hia] at hi
    obtain ⟨e, h3, h4⟩ := hc i c2 hi
    refine ⟨e, by rw [List.getElem?_set_ne hia]; exact h3, ?_⟩
    rw [ho _ (by omega)]
    exact h4
theorem so_R.set0 {B : Nat} {ad : Nat → Nat} {D : va_G} {s : State} {ws : va_W} {tys : List (ClassId × FieldType)} {K : sm_K} {H H' : sm_H} {H1 : Heap} {a : Nat} {ce : sm_C} {e' : va_E} (hK : va_K D sm_cl tys s) (hl : ws.length = K.length)
    (hc : ∀ (i : Nat) (ce : sm_C), K[i]? = some ce → ∃ e : va_E, ws[i]? = some (B + i, e) ∧ so_cell B ad tys ce (H (i + 32)) e) (ha : sm_kd K a = some ce)
    (hP : va_P D sm_cl (ws.set (a - 32) (B + (a - 32), e')) H1) (hD : va_D (fun q => B ≤ q) (ws.set (a - 32) (B + (a - 32), e'))) (ho : ∀ a', a' ≠ a → H' a' = H a') (hce : so_cell B ad tys ce (H' a) e') : so_R B ad D s K H' H1 := by
  have h := so_R.set hK hl hc ha hP hD ho hce
  have h2 : K.set (a - 32) ce = K := by
    obtain ⟨h1, h2⟩ := so_kd ha
    obtain ⟨h3, h4⟩ := List.getElem?_eq_some_iff.mp h2
    rw [← h4, List.set_getElem_self]
  rw [h2] at h
  exact h
/-- which of the five a cell is -/
theorem so_cell.ints {B : Nat} {ad : Nat → Nat} {tys : List (ClassId × FieldType)} {n : Nat} {fins : List Nat} {f : Int → Int} {e : va_E} (h : so_cell B ad tys (20, (n, fins)) f e) : ∃ (cA : ClassId) (t0 : Nat) (g : Nat → Int32), e = .inl (cA, n, .inl g) ∧ tys[t0]? = some (cA, .int) ∧ ∀ j : Nat, j < n → (g j).toInt = f j := by
  rcases h with h | h | h | h | h
  · exact h.2
  · exact absurd h.1 (by simp)
  · exact absurd h.1 (by simp)
  · exact absurd h.1 (by simp)
  · exact absurd h.1 (by simp)
theorem so_cell.longs {B : Nat} {ad : Nat → Nat} {tys : List (ClassId × FieldType)} {n : Nat} {fins : List Nat} {f : Int → Int} {e : va_E} (h : so_cell B ad tys (21, (n, fins)) f e) : ∃ (cA : ClassId) (t0 : Nat) (g : Nat → Int64), e = .inl (cA, n, .inr (.inl g)) ∧ tys[t0]? = some (cA, .long) ∧ ∀ j : Nat, j < n → (g j).toInt = f j := by
  rcases h with h | h | h | h | h
  · exact absurd h.1 (by simp)
  · exact h.2
  · exact absurd h.1 (by simp)
  · exact absurd h.1 (by simp)
  · exact absurd h.1 (by simp)
theorem so_cell.bools {B : Nat} {ad : Nat → Nat} {tys : List (ClassId × FieldType)} {n : Nat} {fins : List Nat} {f : Int → Int} {e : va_E} (h : so_cell B ad tys (22, (n, fins)) f e) : ∃ (cA : ClassId) (t0 : Nat) (g : Nat → Int32), e = .inl (cA, n, .inl g) ∧ tys[t0]? = some (cA, .boolean) ∧ ∀ j : Nat, j < n → (g j).toInt = f j := by
  rcases h with h | h | h | h | h
  · exact absurd h.1 (by simp)
  · exact absurd h.1 (by simp)
  · exact h.2
  · exact absurd h.1 (by simp)
  · exact absurd h.1 (by simp)
theorem so_cell.refs {B : Nat} {ad : Nat → Nat} {tys : List (ClassId × FieldType)} {k n : Nat} {fins : List Nat} {f : Int → Int} {e : va_E} (hk : k = 34 ∨ k = 32) (h : so_cell B ad tys (k, (n, fins)) f e) : ∃ (cA : ClassId) (t0 : Nat) (g : Nat → Option Nat), e = .inl (cA, n, .inr (.inr (.inr (.inr g)))) ∧ tys[t0]? = some (cA, .object (sm_cn (k - 30))) ∧ ∀ j : Nat, j < n → g j = sm_oa B ad (f j).toNat := by
  rcases h with h | h | h | h | h
  · have := h.1; simp only at this; omega
  · have := h.1; simp only at this; omega
  · have := h.1; simp only at this; omega
  · exact h.2
  · have := h.1; simp only at this; omega
theorem so_cell.obj {B : Nat} {ad : Nat → Nat} {tys : List (ClassId × FieldType)} {k n : Nat} {fins : List Nat} {f : Int → Int} {e : va_E} (hk : k < 11) (h : so_cell B ad tys (k, (n, fins)) f e) : ∃ fs : List Value, e = .inr (k, fs) ∧ fs.length = sm_fn k ∧ n = sm_fn k ∧ fins.length = sm_fn k ∧ ∀ j : Nat, j < sm_fn k → ∃ (v : Value) (x : sm_V), fs[j]? = some v ∧ sm_rd k j fins f = some x ∧ sm_val B ad x v := by
  rcases h with h | h | h | h | h
  · have := h.1; simp only at this; omega
  · have := h.1; simp only at this; omega
  · have := h.1; simp only at this; omega
  · have := h.1; simp only at this; omega
  · exact h.2
theorem so_cell.arr {B : Nat} {ad : Nat → Nat} {tys : List (ClassId × FieldType)} {k n : Nat} {fins : List Nat} {f : Int → Int} {e : va_E} (hk : 20 ≤ k) (h : so_cell B ad tys (k, (n, fins)) f e) : ∃ (cA : ClassId) (t0 : Nat) (x : vp_A) (ty : FieldType), e = .inl (cA, x) ∧ x.1 = n ∧ tys[t0]? = some (cA, ty) := by
  rcases h with h | h | h | h | h
  · obtain ⟨-, cA, t0, g, rfl, h2, -⟩ := h; exact ⟨cA, t0, _, _, rfl, rfl, h2⟩
  · obtain ⟨-, cA, t0, g, rfl, h2, -⟩ := h; exact ⟨cA, t0, _, _, rfl, rfl, h2⟩
  · obtain ⟨-, cA, t0, g, rfl, h2, -⟩ := h; exact ⟨cA, t0, _, _, rfl, rfl, h2⟩
  · obtain ⟨-, cA, t0, g, rfl, h2, -⟩ := h; exact ⟨cA, t0, _, _, rfl, rfl, h2⟩
  · have := h.1; simp only at this; omega
section SO3
variable {p : Program} {l : Launch} {e : Env} {R : Room} {s : State} {m : MethodId} {args : Array Value} {below : List Frame} {meth : Method} {c : Code} {Q : State → Prop} {B : Nat} {ad : Nat → Nat} {D : va_G} {nL k0 z0 : Nat}
variable {cc : ByteArray} {pc : Nat} {L : sm_L} {st : List sm_V} {K : sm_K} {H : sm_H} {cfg : sm_S}
theorem so_ialdM (hx : p.tables.exec = Jvm.exec) (hb : c.code = cc) (hd : decode cc pc = .ok (.iaload, 1))
    (hs : sm_ald (sm_ar K H 20) sm_I pc L st K H = some (.inl cfg)) (k : so_G p l e R s m args below meth c Q B ad D nL k0 z0 cfg) : so_G p l e R s m args below meth c Q B ad D nL k0 z0 (pc, (L, (st, (K, H)))) := by
  unfold sm_ald at hs
  split at hs
  · rename_i i a r
    split at hs
    · rename_i n f hf
      split at hs
      · rename_i hi
        cases so_nx hs
        intro Hr ls rst locs hl hst0 hR hS
        obtain ⟨v1, r1, e1, ⟨a1, rfl, h1⟩, hst1⟩ := so_cons hst0
        obtain ⟨v2, r2, e2, h2, hst⟩ := so_cons hst1
        subst e1; subst e2; subst h1
        obtain ⟨fins, hk, rfl⟩ := so_ar hf
        cases so_valA h2 (so_kd hk).1
        have hR0 := hR
        obtain ⟨ws, tys, qK, qP, qD, ql, qc⟩ := hR0
        obtain ⟨e', q1, q2⟩ := so_R.cell qc hk
        obtain ⟨cA, t0, g, rfl, q3, q4⟩ := q2.ints
        refine va_iald hx hb qK qP (a - 32) t0 q1 q3 (so_in hi) hd ?_
        refine k Hr ls _ locs hl ⟨⟨_, rfl, ?_⟩, hst⟩ hR hS
        rw [q4 _ (so_natlt hi), so_nat hi.1]
      · cases hs
    · cases hs
  · cases hs
theorem so_zaldM (hx : p.tables.exec = Jvm.exec) (hb : c.code = cc) (hd : decode cc pc = .ok (.baload, 1))
    (hs : sm_ald (sm_ar K H 22) sm_I pc L st K H = some (.inl cfg)) (k : so_G p l e R s m args below meth c Q B ad D nL k0 z0 cfg) : so_G p l e R s m args below meth c Q B ad D nL k0 z0 (pc, (L, (st, (K, H)))) := by
  unfold sm_ald at hs
  split at hs
  · rename_i i a r
    split at hs
    · rename_i n f hf
      split at hs
      · rename_i hi
        cases so_nx hs
        intro Hr ls rst locs hl hst0 hR hS
        obtain ⟨v1, r1, e1, ⟨a1, rfl, h1⟩, hst1⟩ := so_cons hst0
        obtain ⟨v2, r2, e2, h2, hst⟩ := so_cons hst1
        subst e1; subst e2; subst h1
        obtain ⟨fins, hk, rfl⟩ := so_ar hf
        cases so_valA h2 (so_kd hk).1
        have hR0 := hR
        obtain ⟨ws, tys, qK, qP, qD, ql, qc⟩ := hR0
        obtain ⟨e', q1, q2⟩ := so_R.cell qc hk
        obtain ⟨cA, t0, g, rfl, q3, q4⟩ := q2.bools
        refine va_zald hx hb qK qP (a - 32) t0 q1 q3 (so_in hi) hd ?_
        refine k Hr ls _ locs hl ⟨⟨_, rfl, ?_⟩, hst⟩ hR hS
        rw [q4 _ (so_natlt hi), so_nat hi.1]
      · cases hs
    · cases hs
  · cases hs
theorem so_lald (hx : p.tables.exec = Jvm.exec) (hb : c.code = cc) (hd : decode cc pc = .ok (.laload, 1))
    (hs : sm_ald (sm_ar K H 21) sm_J pc L st K H = some (.inl cfg)) (k : so_G p l e R s m args below meth c Q B ad D nL k0 z0 cfg) : so_G p l e R s m args below meth c Q B ad D nL k0 z0 (pc, (L, (st, (K, H)))) := by
  unfold sm_ald at hs
  split at hs
  · rename_i i a r
    split at hs
    · rename_i n f hf
      split at hs
      · rename_i hi
        cases so_nx hs
        intro Hr ls rst locs hl hst0 hR hS
        obtain ⟨v1, r1, e1, ⟨a1, rfl, h1⟩, hst1⟩ := so_cons hst0
        obtain ⟨v2, r2, e2, h2, hst⟩ := so_cons hst1
        subst e1; subst e2; subst h1
        obtain ⟨fins, hk, rfl⟩ := so_ar hf
        cases so_valA h2 (so_kd hk).1
        have hR0 := hR
        obtain ⟨ws, tys, qK, qP, qD, ql, qc⟩ := hR0
        obtain ⟨e', q1, q2⟩ := so_R.cell qc hk
        obtain ⟨cA, t0, g, rfl, q3, q4⟩ := q2.longs
        refine va_lald hx hb qK qP (a - 32) t0 q1 q3 (so_in hi) hd ?_
        refine k Hr ls _ locs hl ⟨⟨_, rfl, ?_⟩, hst⟩ hR hS
        rw [q4 _ (so_natlt hi), so_nat hi.1]
      · cases hs
    · cases hs
  · cases hs
theorem so_aald (hx : p.tables.exec = Jvm.exec) (hb : c.code = cc) (hd : decode cc pc = .ok (.aaload, 1))
    (hs : sm_aald pc L st K H = some (.inl cfg)) (k : so_G p l e R s m args below meth c Q B ad D nL k0 z0 cfg) : so_G p l e R s m args below meth c Q B ad D nL k0 z0 (pc, (L, (st, (K, H)))) := by
  unfold sm_aald at hs
  split at hs
  · rename_i i a r
    split at hs
    · rename_i kk n fins hk
      split at hs
      · rename_i hi
        cases so_nx hs
        intro Hr ls rst locs hl hst0 hR hS
        obtain ⟨v1, r1, e1, ⟨a1, rfl, h1⟩, hst1⟩ := so_cons hst0
        obtain ⟨v2, r2, e2, h2, hst⟩ := so_cons hst1
        subst e1; subst e2; subst h1
        cases so_valA h2 (so_kd hk).1
        have hR0 := hR
        obtain ⟨ws, tys, qK, qP, qD, ql, qc⟩ := hR0
        obtain ⟨e', q1, q2⟩ := so_R.cell qc hk
        obtain ⟨cA, t0, g, rfl, q3, q4⟩ := so_cell.refs hi.1 q2
        refine va_aldq hx hb qK qP (a - 32) t0 q1 q3 (so_in hi.2) hd ?_
        refine k Hr ls _ locs hl ⟨?_, hst⟩ hR hS
        show va_rf _ = va_rf _
        rw [q4 _ (so_natlt hi.2), so_nat hi.2.1]
      · cases hs
    · cases hs
  · cases hs
theorem so_upd {n : Nat} {f : Int → Int} {H : sm_H} {a : Nat} {i : Int32} {x : Int32} {g : Nat → Int32} (hf : f = H a) (hi : 0 ≤ i.toInt ∧ i.toInt < n) (hg : ∀ j : Nat, j < n → (g j).toInt = f j) : ∀ j : Nat, j < n → (upd g i.toNatClampNeg x j).toInt = sm_u H a i.toInt x.toInt a j := by
  intro j hj
  have h1 := so_nat hi.1
  by_cases hji : j = i.toNatClampNeg
  · subst hji
    simp [upd, sm_u, h1]
  · have h2 : ¬ ((j : Int) = i.toInt) := by omega
    simp [upd, sm_u, h2, hji, hg j hj, hf]
theorem so_updJ {n : Nat} {f : Int → Int} {H : sm_H} {a : Nat} {i : Int32} {x : Int64} {g : Nat → Int64} (hf : f = H a) (hi : 0 ≤ i.toInt ∧ i.toInt < n) (hg : ∀ j : Nat, j < n → (g j).toInt = f j) : ∀ j : Nat, j < n → (va_up g i.toNatClampNeg x j).toInt = sm_u H a i.toInt x.toInt a j := by
  intro j hj
  have h1 := so_nat hi.1
  by_cases hji : j = i.toNatClampNeg
  · subst hji
    simp [va_up, sm_u, h1]
  · have h2 : ¬ ((j : Int) = i.toInt) := by omega
    simp [va_up, sm_u, h2, hji, hg j hj, hf]
theorem so_iast (hx : p.tables.exec = Jvm.exec) (hb : c.code = cc) (hd : decode cc pc = .ok (.iastore, 1))
    (hs : sm_iast pc L st K H = some (.inl cfg)) (k : so_G p l e R s m args below meth c Q B ad D nL k0 z0 cfg) : so_G p l e R s m args below meth c Q B ad D nL k0 z0 (pc, (L, (st, (K, H)))) := by
  unfold sm_iast at hs
  split at hs
  · rename_i x i a r
    split at hs
    · rename_i n f hf
      split at hs
      · rename_i hi
        cases so_nx hs
        intro Hr ls rst locs hl hst0 hR hS
        obtain ⟨v1, r1, e1, ⟨a1, rfl, h1⟩, hst1⟩ := so_cons hst0
        obtain ⟨v2, r2, e2, ⟨a2, rfl, h2⟩, hst2⟩ := so_cons hst1
        obtain ⟨v3, r3, e3, h3, hst⟩ := so_cons hst2
        subst e1; subst e2; subst e3; subst h1; subst h2
        obtain ⟨fins, hk, hfe⟩ := so_ar hf
        cases so_valA h3 (so_kd hk).1
        obtain ⟨ws, tys, qK, qP, qD, ql, qc⟩ := hR
        obtain ⟨e', q1, q2⟩ := so_R.cell qc hk
        obtain ⟨cA, t0, g, rfl, q3, q4⟩ := q2.ints
        refine va_iast hx hb qK qP qD hS (a - 32) t0 q1 q3 (so_in hi) hd fun H1 locs1 hP1 hD1 hS1 => ?_
        refine k H1 ls _ locs1 hl hst (so_R.set0 qK ql qc hk hP1 hD1 (fun a' h => so_u_other h) (Or.inl ⟨rfl, cA, t0, _, rfl, q3, so_upd rfl hi q4⟩)) hS1
      · cases hs
    · cases hs
  · cases hs
theorem so_last (hx : p.tables.exec = Jvm.exec) (hb : c.code = cc) (hd : decode cc pc = .ok (.lastore, 1))
    (hs : sm_last pc L st K H = some (.inl cfg)) (k : so_G p l e R s m args below meth c Q B ad D nL k0 z0 cfg) : so_G p l e R s m args below meth c Q B ad D nL k0 z0 (pc, (L, (st, (K, H)))) := by
  unfold sm_last at hs
  split at hs
  · rename_i x i a r
    split at hs
    · rename_i n f hf
      split at hs
      · rename_i hi
        cases so_nx hs
        intro Hr ls rst locs hl hst0 hR hS
        obtain ⟨v1, r1, e1, ⟨a1, rfl, h1⟩, hst1⟩ := so_cons hst0
        obtain ⟨v2, r2, e2, ⟨a2, rfl, h2⟩, hst2⟩ := so_cons hst1
        obtain ⟨v3, r3, e3, h3, hst⟩ := so_cons hst2
        subst e1; subst e2; subst e3; subst h1; subst h2
        obtain ⟨fins, hk, hfe⟩ := so_ar hf
        cases so_valA h3 (so_kd hk).1
        obtain ⟨ws, tys, qK, qP, qD, ql, qc⟩ := hR
        obtain ⟨e', q1, q2⟩ := so_R.cell qc hk
        obtain ⟨cA, t0, g, rfl, q3, q4⟩ := q2.longs
        refine va_last hx hb qK qP qD hS (a - 32) t0 q1 q3 (so_in hi) hd fun H1 locs1 hP1 hD1 hS1 => ?_
        refine k H1 ls _ locs1 hl hst (so_R.set0 qK ql qc hk hP1 hD1 (fun a' h => so_u_other h) (Or.inr (Or.inl ⟨rfl, cA, t0, _, rfl, q3, so_updJ rfl hi q4⟩))) hS1
      · cases hs
    · cases hs
  · cases hs
theorem so_bast (hx : p.tables.exec = Jvm.exec) (hb : c.code = cc) (hd : decode cc pc = .ok (.bastore, 1))
    (hs : sm_bast pc L st K H = some (.inl cfg)) (k : so_G p l e R s m args below meth c Q B ad D nL k0 z0 cfg) : so_G p l e R s m args below meth c Q B ad D nL k0 z0 (pc, (L, (st, (K, H)))) := by
  unfold sm_bast at hs
  split at hs
  · rename_i x i a r
    split at hs
    · rename_i n f hf
      split at hs
      · rename_i hi
        cases so_nx hs
        intro Hr ls rst locs hl hst0 hR hS
        obtain ⟨v1, r1, e1, ⟨a1, rfl, h1⟩, hst1⟩ := so_cons hst0
        obtain ⟨v2, r2, e2, ⟨a2, rfl, h2⟩, hst2⟩ := so_cons hst1
        obtain ⟨v3, r3, e3, h3, hst⟩ := so_cons hst2
        subst e1; subst e2; subst e3; subst h1; subst h2
        obtain ⟨fins, hk, hfe⟩ := so_ar hf
        cases so_valA h3 (so_kd hk).1
        obtain ⟨ws, tys, qK, qP, qD, ql, qc⟩ := hR
        obtain ⟨e', q1, q2⟩ := so_R.cell qc hk
        obtain ⟨cA, t0, g, rfl, q3, q4⟩ := q2.bools
        have hz : vp_nar .boolean a1 = a1 := by
          rcases hi.2 with h | h
          · have : a1 = 0 := so_zero.mpr h
            subst this; decide
          · have : a1 = 1 := so_eqI.mpr h
            subst this; decide
        refine va_zast hx hb qK qP qD hS (a - 32) t0 q1 q3 (so_in hi.1) hd fun H1 locs1 hP1 hD1 hS1 => ?_
        refine k H1 ls _ locs1 hl hst (so_R.set0 qK ql qc hk hP1 hD1 (fun a' h => so_u_other h) (Or.inr (Or.inr (Or.inl ⟨rfl, cA, t0, _, rfl, q3, ?_⟩)))) hS1
        first | exact so_upd rfl hi.1 q4 | (rw [hz]; exact so_upd rfl hi.1 q4)
      · cases hs
    · cases hs
  · cases hs
theorem so_aast (hx : p.tables.exec = Jvm.exec) (hb : c.code = cc) (hd : decode cc pc = .ok (.aastore, 1))
    (hs : sm_aast pc L st K H = some (.inl cfg)) (k : so_G p l e R s m args below meth c Q B ad D nL k0 z0 cfg) : so_G p l e R s m args below meth c Q B ad D nL k0 z0 (pc, (L, (st, (K, H)))) := by
  unfold sm_aast at hs
  split at hs
  · rename_i x i a r
    split at hs
    · rename_i kk n fins hk
      split at hs
      · rename_i kx cx hkx
        split at hs
        · rename_i hi
          cases so_nx hs
          intro Hr ls rst locs hl hst0 hR hS
          obtain ⟨v1, r1, e1, h1, hst1⟩ := so_cons hst0
          obtain ⟨v2, r2, e2, ⟨a2, rfl, h2⟩, hst2⟩ := so_cons hst1
          obtain ⟨v3, r3, e3, h3, hst⟩ := so_cons hst2
          subst e1; subst e2; subst e3; subst h2
          cases so_valA h3 (so_kd hk).1
          cases so_valA h1 (so_kd hkx).1
          obtain ⟨ws, tys, qK, qP, qD, ql, qc⟩ := hR
          obtain ⟨e', q1, q2⟩ := so_R.cell qc hk
          obtain ⟨ex, p1, p2⟩ := so_R.cell qc hkx
          obtain ⟨cA, t0, g, rfl, q3, q4⟩ := so_cell.refs hi.1 q2
          have hkx11 : kx < 11 := by omega
          obtain ⟨n', fins'⟩ := cx
          obtain ⟨fs, rfl, -⟩ := so_cell.obj hkx11 p2
          have hkk : kk - 30 = kx := by omega
          have hcl : ∃ r : vw_C, sm_cl[kx]? = some r ∧ r.1 = sm_cn kx := by
            rcases hi.1 with h | h
            · have : kx = 4 := by omega
              subst this; exact ⟨_, rfl, rfl⟩
            · have : kx = 2 := by omega
              subst this; exact ⟨_, rfl, rfl⟩
          obtain ⟨rc, hrc, hrn⟩ := hcl
          refine va_astq hx hb qK qP qD hS (a - 32) t0 (x - 32) kx q1 (r := rc) (by rw [q3, hkk, hrn]) p1 hrc (so_in hi.2.2) hd fun H1 locs1 hP1 hD1 hS1 => ?_
          refine k H1 ls _ locs1 hl hst (so_R.set0 qK ql qc hk hP1 hD1 (fun a' h => so_u_other h) (Or.inr (Or.inr (Or.inr (Or.inl ⟨hi.1, cA, t0, _, rfl, q3, fun j hj => ?_⟩))))) hS1
          have h9 := so_nat hi.2.2.1
          have hoa : sm_oa B ad x = some (B + (x - 32)) := by
            have := (so_kd hkx).1
            unfold sm_oa
            rw [if_neg (by omega), so_locN this]
          by_cases hji : j = a2.toNatClampNeg
          · subst hji
            simp [va_up, sm_u, h9, hoa]
          · have h8 : ¬ ((j : Int) = a2.toInt) := by omega
            simp [va_up, sm_u, h8, hji, q4 j hj]
        · cases hs
      · cases hs
    · cases hs
  · cases hs
end SO3
