/-! THE SMALL MACHINE IS SOUND, 2: the heap's picture; instructions that leave the heap -/
def so_cell (B : Nat) (ad : Nat → Nat) (tys : List (ClassId × FieldType)) (ce : sm_C) (f : Int → Int) (e : va_E) : Prop :=
  (ce.1 = 20 ∧ ∃ (cA : ClassId) (t0 : Nat) (g : Nat → Int32), e = .inl (cA, ce.2.1, .inl g) ∧ tys[t0]? = some (cA, .int) ∧ ∀ j : Nat, j < ce.2.1 → (g j).toInt = f j) ∨
  (ce.1 = 21 ∧ ∃ (cA : ClassId) (t0 : Nat) (g : Nat → Int64), e = .inl (cA, ce.2.1, .inr (.inl g)) ∧ tys[t0]? = some (cA, .long) ∧ ∀ j : Nat, j < ce.2.1 → (g j).toInt = f j) ∨
  (ce.1 = 22 ∧ ∃ (cA : ClassId) (t0 : Nat) (g : Nat → Int32), e = .inl (cA, ce.2.1, .inl g) ∧ tys[t0]? = some (cA, .boolean) ∧ ∀ j : Nat, j < ce.2.1 → (g j).toInt = f j) ∨
  ((ce.1 = 34 ∨ ce.1 = 32) ∧ ∃ (cA : ClassId) (t0 : Nat) (g : Nat → Option Nat), e = .inl (cA, ce.2.1, .inr (.inr (.inr (.inr g)))) ∧ tys[t0]? = some (cA, .object (sm_cn (ce.1 - 30))) ∧ ∀ j : Nat, j < ce.2.1 → g j = sm_oa B ad (f j).toNat) ∨
  (ce.1 < 11 ∧ ∃ fs : List Value, e = .inr (ce.1, fs) ∧ fs.length = sm_fn ce.1 ∧ ce.2.1 = sm_fn ce.1 ∧ ce.2.2.length = sm_fn ce.1 ∧ ∀ k : Nat, k < sm_fn ce.1 → ∃ (v : Value) (x : sm_V), fs[k]? = some v ∧ sm_rd ce.1 k ce.2.2 f = some x ∧ sm_val B ad x v)
def so_R (B : Nat) (ad : Nat → Nat) (D : va_G) (s : State) (K : sm_K) (H : sm_H) (Hr : Heap) : Prop := ∃ (ws : va_W) (tys : List (ClassId × FieldType)), va_K D sm_cl tys s ∧ va_P D sm_cl ws Hr ∧ va_D (fun q => B ≤ q) ws ∧ ws.length = K.length ∧ ∀ (i : Nat) (ce : sm_C), K[i]? = some ce → ∃ e : va_E, ws[i]? = some (B + i, e) ∧ so_cell B ad tys ce (H (i + 32)) e
theorem so_kd {K : sm_K} {a : Nat} {ce : sm_C} (h : sm_kd K a = some ce) : 32 ≤ a ∧ K[a - 32]? = some ce := by
  unfold sm_kd at h
  split at h
  · cases h
  · exact ⟨by omega, h⟩
theorem so_ar {K : sm_K} {H : sm_H} {k a n : Nat} {f : Int → Int} (h : sm_ar K H k a = some (n, f)) : ∃ fins, sm_kd K a = some (k, (n, fins)) ∧ f = H a := by
  unfold sm_ar at h
  split at h
  · rename_i k' n' fins hk
    split at h
    · rename_i hkk
      simp only [Option.some.injEq, Prod.mk.injEq] at h
      obtain ⟨rfl, rfl⟩ := h
      exact ⟨fins, by rw [hk, hkk], rfl⟩
    · cases h
  · cases h
theorem so_locN {B a : Nat} {ad : Nat → Nat} (h : 32 ≤ a) : sm_loc B ad a = B + (a - 32) := by unfold sm_loc; rw [if_neg (by omega)]
theorem so_oaN {B a : Nat} {ad : Nat → Nat} (h : 32 ≤ a) : va_rf (sm_oa B ad a) = .ref (B + (a - 32)) := by unfold sm_oa; rw [if_neg (by omega), so_locN h]; rfl
theorem so_valA {B a : Nat} {ad : Nat → Nat} {v : Value} (h : sm_val B ad (.inr (.inr a)) v) (ha : 32 ≤ a) : v = .ref (B + (a - 32)) := h.trans (so_oaN ha)
/-- a cell of the structure, in the heap's picture -/
theorem so_R.cell {B : Nat} {ad : Nat → Nat} {ws : va_W} {tys : List (ClassId × FieldType)} {K : sm_K} {H : sm_H} {a : Nat} {ce : sm_C} (hc : ∀ (i : Nat) (ce : sm_C), K[i]? = some ce → ∃ e : va_E, ws[i]? = some (B + i, e) ∧ so_cell B ad tys ce (H (i + 32)) e) (h : sm_kd K a = some ce) : ∃ e : va_E, ws[a - 32]? = some (B + (a - 32), e) ∧ so_cell B ad tys ce (H a) e := by
  obtain ⟨h1, h2⟩ := so_kd h
  obtain ⟨e, h3, h4⟩ := hc _ _ h2
  exact ⟨e, h3, by rw [show a - 32 + 32 = a by omega] at h4; exact h4⟩
def so_G (p : Program) (l : Launch) (e : Env) (R : Room) (s : State) (m : MethodId) (args : Array Value) (below : List Frame) (meth : Method) (c : Code) (Q : State → Prop) (B : Nat) (ad : Nat → Nat) (D : va_G) (nL k0 z0 : Nat) (cfg : sm_S) : Prop :=
  ∀ (Hr : Heap) (ls : Array Slot) (rst : List Value) (locs : List Loc), sm_lok B ad nL cfg.2.1 ls → sm_vals B ad cfg.2.2.1 rst → so_R B ad D s cfg.2.2.2.1 cfg.2.2.2.2 Hr → va_S (fun q => B ≤ q) s.heap Hr locs →
    W p l e R s m args below meth c Hr locs (cfg.2.2.2.1.length - k0) (sm_sz cfg.2.2.2.1 - z0) Q (F0 m cfg.1 ls rst)
section SO2
variable {p : Program} {l : Launch} {e : Env} {R : Room} {s : State} {m : MethodId} {args : Array Value} {below : List Frame} {meth : Method} {c : Code} {Q : State → Prop} {B : Nat} {ad : Nat → Nat} {D : va_G} {nL k0 z0 : Nat}
variable {cc : ByteArray} {pc : Nat} {L : sm_L} {st : List sm_V} {K : sm_K} {H : sm_H} {cfg : sm_S}
theorem so_nx {n : Nat} (hs : sm_nx n L st K H = some (.inl cfg)) : cfg = (n, (L, (st, (K, H)))) := by
  simp only [sm_nx, Option.some.injEq, Sum.inl.injEq] at hs
  exact hs.symm
theorem so_jp {off : Int} (hs : sm_jp pc off L st K H = some (.inl cfg)) : ∃ n : Nat, (pc : Int) + off = (n : Int) ∧ cfg = (n, (L, (st, (K, H)))) := by
  unfold sm_jp at hs
  split at hs
  · rename_i h
    simp only [Option.some.injEq, Sum.inl.injEq] at hs
    exact ⟨_, by omega, hs.symm⟩
  · cases hs
/-- a value is pushed -/
theorem so_push {d : Nat} {x : sm_V} {v : Value} (hv : sm_val B ad x v)
    (row : ∀ {Hr : Heap} {ls : Array Slot} {rest : List Value} {locs : List Loc} {cells slots : Nat}, W p l e R s m args below meth c Hr locs cells slots Q (F0 m (pc + d) ls (v :: rest)) → W p l e R s m args below meth c Hr locs cells slots Q (F0 m pc ls rest))
    (hs : sm_nx (pc + d) L (x :: st) K H = some (.inl cfg)) (k : so_G p l e R s m args below meth c Q B ad D nL k0 z0 cfg) : so_G p l e R s m args below meth c Q B ad D nL k0 z0 (pc, (L, (st, (K, H)))) := by
  cases so_nx hs
  intro Hr ls rst locs hl hst hR hS
  exact row (k Hr ls (v :: rst) locs hl ⟨hv, hst⟩ hR hS)
theorem so_bin {f : Int → Int → Int} {g : Int32 → Int32 → Int32} (hg : ∀ a b, (g a b).toInt = f a.toInt b.toInt)
    (row : ∀ {Hr : Heap} {ls : Array Slot} {rest : List Value} {locs : List Loc} {cells slots : Nat} {x y : Int32}, W p l e R s m args below meth c Hr locs cells slots Q (F0 m (pc + 1) ls (.int (g x y) :: rest)) → W p l e R s m args below meth c Hr locs cells slots Q (F0 m pc ls (.int y :: .int x :: rest)))
    (hs : sm_b f pc L st K H = some (.inl cfg)) (k : so_G p l e R s m args below meth c Q B ad D nL k0 z0 cfg) : so_G p l e R s m args below meth c Q B ad D nL k0 z0 (pc, (L, (st, (K, H)))) := by
  unfold sm_b at hs
  split at hs
  · cases so_nx hs
    intro Hr ls rst locs hl hst0 hR hS
    obtain ⟨v1, r1, e1, ⟨a1, rfl, h1⟩, hst1⟩ := so_cons hst0
    obtain ⟨v2, r2, e2, ⟨a2, rfl, h2⟩, hst⟩ := so_cons hst1
    subst e1; subst e2
    exact row (k Hr ls _ locs hl ⟨⟨_, rfl, by rw [hg, h1, h2]⟩, hst⟩ hR hS)
  · cases hs
theorem so_binJ {f : Int → Int → Int} {g : Int64 → Int64 → Int64} (hg : ∀ a b, (g a b).toInt = f a.toInt b.toInt)
    (row : ∀ {Hr : Heap} {ls : Array Slot} {rest : List Value} {locs : List Loc} {cells slots : Nat} {x y : Int64}, W p l e R s m args below meth c Hr locs cells slots Q (F0 m (pc + 1) ls (.long (g x y) :: rest)) → W p l e R s m args below meth c Hr locs cells slots Q (F0 m pc ls (.long y :: .long x :: rest)))
    (hs : sm_bj f pc L st K H = some (.inl cfg)) (k : so_G p l e R s m args below meth c Q B ad D nL k0 z0 cfg) : so_G p l e R s m args below meth c Q B ad D nL k0 z0 (pc, (L, (st, (K, H)))) := by
  unfold sm_bj at hs
  split at hs
  · cases so_nx hs
    intro Hr ls rst locs hl hst0 hR hS
    obtain ⟨v1, r1, e1, ⟨a1, rfl, h1⟩, hst1⟩ := so_cons hst0
    obtain ⟨v2, r2, e2, ⟨a2, rfl, h2⟩, hst⟩ := so_cons hst1
    subst e1; subst e2
    exact row (k Hr ls _ locs hl ⟨⟨_, rfl, by rw [hg, h1, h2]⟩, hst⟩ hR hS)
  · cases hs
theorem so_una {f : Int → Int} {g : Int32 → Int32} (hg : ∀ a, (g a).toInt = f a.toInt)
    (row : ∀ {Hr : Heap} {ls : Array Slot} {rest : List Value} {locs : List Loc} {cells slots : Nat} {x : Int32}, W p l e R s m args below meth c Hr locs cells slots Q (F0 m (pc + 1) ls (.int (g x) :: rest)) → W p l e R s m args below meth c Hr locs cells slots Q (F0 m pc ls (.int x :: rest)))
    (hs : sm_un f pc L st K H = some (.inl cfg)) (k : so_G p l e R s m args below meth c Q B ad D nL k0 z0 cfg) : so_G p l e R s m args below meth c Q B ad D nL k0 z0 (pc, (L, (st, (K, H)))) := by
  unfold sm_un at hs
  split at hs
  · cases so_nx hs
    intro Hr ls rst locs hl hst0 hR hS
    obtain ⟨v1, r1, e1, ⟨a1, rfl, h1⟩, hst⟩ := so_cons hst0
    subst e1
    exact row (k Hr ls _ locs hl ⟨⟨_, rfl, by rw [hg, h1]⟩, hst⟩ hR hS)
  · cases hs
theorem so_lI {i d : Nat} (row : ∀ {Hr : Heap} {ls : Array Slot} {rest : List Value} {locs : List Loc} {cells slots : Nat} {x : Int32}, ls[i]? = some (.val (.int x)) → W p l e R s m args below meth c Hr locs cells slots Q (F0 m (pc + d) ls (.int x :: rest)) → W p l e R s m args below meth c Hr locs cells slots Q (F0 m pc ls rest))
    (hs : sm_ldI i d pc L st K H = some (.inl cfg)) (k : so_G p l e R s m args below meth c Q B ad D nL k0 z0 cfg) : so_G p l e R s m args below meth c Q B ad D nL k0 z0 (pc, (L, (st, (K, H)))) := by
  unfold sm_ldI at hs
  split at hs
  · rename_i x hx
    cases so_nx hs
    intro Hr ls rst locs hl hst hR hS
    obtain ⟨v, ⟨a, rfl, h1⟩, hv⟩ := hl.2.2.2 i _ hx
    exact row hv (k Hr ls _ locs hl ⟨⟨a, rfl, h1⟩, hst⟩ hR hS)
  · cases hs
theorem so_lJ {i d : Nat} (row : ∀ {Hr : Heap} {ls : Array Slot} {rest : List Value} {locs : List Loc} {cells slots : Nat} {x : Int64}, ls[i]? = some (.val (.long x)) → W p l e R s m args below meth c Hr locs cells slots Q (F0 m (pc + d) ls (.long x :: rest)) → W p l e R s m args below meth c Hr locs cells slots Q (F0 m pc ls rest))
    (hs : sm_ldJ i d pc L st K H = some (.inl cfg)) (k : so_G p l e R s m args below meth c Q B ad D nL k0 z0 cfg) : so_G p l e R s m args below meth c Q B ad D nL k0 z0 (pc, (L, (st, (K, H)))) := by
  unfold sm_ldJ at hs
  split at hs
  · rename_i x hx
    cases so_nx hs
    intro Hr ls rst locs hl hst hR hS
    obtain ⟨v, ⟨a, rfl, h1⟩, hv⟩ := hl.2.2.2 i _ hx
    exact row hv (k Hr ls _ locs hl ⟨⟨a, rfl, h1⟩, hst⟩ hR hS)
  · cases hs
theorem so_lA {i d : Nat} (row : ∀ {Hr : Heap} {ls : Array Slot} {rest : List Value} {locs : List Loc} {cells slots : Nat} {x : Nat}, ls[i]? = some (.val (.ref x)) → W p l e R s m args below meth c Hr locs cells slots Q (F0 m (pc + d) ls (.ref x :: rest)) → W p l e R s m args below meth c Hr locs cells slots Q (F0 m pc ls rest))
    (rowN : ∀ {Hr : Heap} {ls : Array Slot} {rest : List Value} {locs : List Loc} {cells slots : Nat}, ls[i]? = some (.val .null) → W p l e R s m args below meth c Hr locs cells slots Q (F0 m (pc + d) ls (.null :: rest)) → W p l e R s m args below meth c Hr locs cells slots Q (F0 m pc ls rest))
    (hs : sm_ldA i d pc L st K H = some (.inl cfg)) (k : so_G p l e R s m args below meth c Q B ad D nL k0 z0 cfg) : so_G p l e R s m args below meth c Q B ad D nL k0 z0 (pc, (L, (st, (K, H)))) := by
  unfold sm_ldA at hs
  split at hs
  · rename_i x hx
    cases so_nx hs
    intro Hr ls rst locs hl hst hR hS
    obtain ⟨v, h1, hv⟩ := hl.2.2.2 i _ hx
    have h2 : v = va_rf (sm_oa B ad x) := h1
    cases ho : sm_oa B ad x with
    | none => rw [ho] at h2; subst h2; exact rowN hv (k Hr ls _ locs hl ⟨h1, hst⟩ hR hS)
    | some a => rw [ho] at h2; subst h2; exact row hv (k Hr ls _ locs hl ⟨h1, hst⟩ hR hS)
  · cases hs
theorem so_sI {i d : Nat} (row : ∀ {Hr : Heap} {ls : Array Slot} {rest : List Value} {locs : List Loc} {cells slots : Nat} {x : Int32}, lv_has ls nL (so_all ls) → i < nL → (∀ ls' : Array Slot, lv_has ls' nL ((i, Value.int x) :: (so_all ls).filter (fun q => !(q.1 == i) && !(q.1 + 1 == i && q.2.category == 2))) → W p l e R s m args below meth c Hr locs cells slots Q (F0 m (pc + d) ls' rest)) → W p l e R s m args below meth c Hr locs cells slots Q (F0 m pc ls (.int x :: rest)))
    (hs : sm_stI i d pc L st K H = some (.inl cfg)) (k : so_G p l e R s m args below meth c Q B ad D nL k0 z0 cfg) : so_G p l e R s m args below meth c Q B ad D nL k0 z0 (pc, (L, (st, (K, H)))) := by
  unfold sm_stI at hs
  split at hs
  · split at hs
    · rename_i L' hL'
      cases so_nx hs
      intro Hr ls rst locs hl hst0 hR hS
      obtain ⟨v1, r1, e1, ⟨a1, rfl, h1⟩, hst⟩ := so_cons hst0
      subst e1
      refine row (so_all_has hl.2.1 hl.2.2.1) (by rw [← hl.1]; exact so_s1_lt hL') fun ls' h' => k Hr ls' _ locs (so_l1 hl hL' ⟨a1, rfl, h1⟩ h') hst hR hS
    · cases hs
  · cases hs
theorem so_sJ {i d : Nat} (row : ∀ {Hr : Heap} {ls : Array Slot} {rest : List Value} {locs : List Loc} {cells slots : Nat} {x : Int64}, lv_has ls nL (so_all ls) → i + 1 < nL → (∀ ls' : Array Slot, lv_has ls' nL ((i, Value.long x) :: (so_all ls).filter (fun q => !(q.1 == i) && (!(q.1 == i + 1) && !(q.1 + 1 == i && q.2.category == 2)))) → W p l e R s m args below meth c Hr locs cells slots Q (F0 m (pc + d) ls' rest)) → W p l e R s m args below meth c Hr locs cells slots Q (F0 m pc ls (.long x :: rest)))
    (hs : sm_stJ i d pc L st K H = some (.inl cfg)) (k : so_G p l e R s m args below meth c Q B ad D nL k0 z0 cfg) : so_G p l e R s m args below meth c Q B ad D nL k0 z0 (pc, (L, (st, (K, H)))) := by
  unfold sm_stJ at hs
  split at hs
  · split at hs
    · rename_i L' hL'
      cases so_nx hs
      intro Hr ls rst locs hl hst0 hR hS
      obtain ⟨v1, r1, e1, ⟨a1, rfl, h1⟩, hst⟩ := so_cons hst0
      subst e1
      refine row (so_all_has hl.2.1 hl.2.2.1) (by rw [← hl.1]; exact so_s2_lt hL') fun ls' h' => k Hr ls' _ locs (so_l2 hl hL' ⟨a1, rfl, h1⟩ h') hst hR hS
    · cases hs
  · cases hs
theorem so_sA {i d : Nat} (row : ∀ {Hr : Heap} {ls : Array Slot} {rest : List Value} {locs : List Loc} {cells slots : Nat} {x : Nat}, lv_has ls nL (so_all ls) → i < nL → (∀ ls' : Array Slot, lv_has ls' nL ((i, Value.ref x) :: (so_all ls).filter (fun q => !(q.1 == i) && !(q.1 + 1 == i && q.2.category == 2))) → W p l e R s m args below meth c Hr locs cells slots Q (F0 m (pc + d) ls' rest)) → W p l e R s m args below meth c Hr locs cells slots Q (F0 m pc ls (.ref x :: rest)))
    (rowN : ∀ {Hr : Heap} {ls : Array Slot} {rest : List Value} {locs : List Loc} {cells slots : Nat}, lv_has ls nL (so_all ls) → i < nL → (∀ ls' : Array Slot, lv_has ls' nL ((i, Value.null) :: (so_all ls).filter (fun q => !(q.1 == i) && !(q.1 + 1 == i && q.2.category == 2))) → W p l e R s m args below meth c Hr locs cells slots Q (F0 m (pc + d) ls' rest)) → W p l e R s m args below meth c Hr locs cells slots Q (F0 m pc ls (.null :: rest)))
    (hs : sm_stA i d pc L st K H = some (.inl cfg)) (k : so_G p l e R s m args below meth c Q B ad D nL k0 z0 cfg) : so_G p l e R s m args below meth c Q B ad D nL k0 z0 (pc, (L, (st, (K, H)))) := by
  unfold sm_stA at hs
  split at hs
  · split at hs
    · rename_i L' hL'
      rename_i x r _
      cases so_nx hs
      intro Hr ls rst locs hl hst0 hR hS
      obtain ⟨v1, r1, e1, h1, hst⟩ := so_cons hst0
      subst e1
      have h2 : v1 = va_rf (sm_oa B ad x) := h1
      cases ho : sm_oa B ad x with
      | none => rw [ho] at h2; subst h2; exact rowN (so_all_has hl.2.1 hl.2.2.1) (by rw [← hl.1]; exact so_s1_lt hL') fun ls' h' => k Hr ls' _ locs (so_l1 hl hL' h1 h') hst hR hS
      | some a => rw [ho] at h2; subst h2; exact row (so_all_has hl.2.1 hl.2.2.1) (by rw [← hl.1]; exact so_s1_lt hL') fun ls' h' => k Hr ls' _ locs (so_l1 hl hL' h1 h') hst hR hS
    · cases hs
  · cases hs
theorem so_iinc (hx : p.tables.exec = Jvm.exec) (hb : c.code = cc) {i : Nat} {n : Int} (hd : decode cc pc = .ok (.iinc i n, 3))
    (hs : (match sm_lg L i with
    | some (.inl x) => match sm_s1 L i (.inl (sm_w (x + n))) with
      | some L' => sm_nx (pc + 3) L' st K H
      | none => none
    | _ => none) = some (.inl cfg)) (hn : (Int32.ofInt n).toInt = n) (k : so_G p l e R s m args below meth c Q B ad D nL k0 z0 cfg) : so_G p l e R s m args below meth c Q B ad D nL k0 z0 (pc, (L, (st, (K, H)))) := by
  split at hs
  · rename_i x hx0
    split at hs
    · rename_i L' hL'
      cases so_nx hs
      intro Hr ls rst locs hl hst hR hS
      obtain ⟨v, ⟨a, rfl, h1⟩, hv⟩ := hl.2.2.2 i _ hx0
      obtain ⟨j, hj⟩ := List.getElem?_of_mem (so_all_mem.mpr hv)
      refine lv_iinc (v := a + Int32.ofInt n) hx hb hd (so_all_has hl.2.1 hl.2.2.1) (k := j) hj rfl (by rw [← hl.1]; exact so_s1_lt hL') rfl fun ls' h' => k Hr ls' _ locs (so_l1 hl hL' ⟨_, rfl, ?_⟩ h') hst hR hS
      rw [so_add, hn, h1]
    · cases hs
  · cases hs
theorem so_if (op : ClassFile.Cond) (hx : p.tables.exec = Jvm.exec) (hb : c.code = cc) {off : Int} (hd : decode cc pc = .ok (.ifCond op off, 3))
    (hs : sm_if op off pc L st K H = some (.inl cfg)) (k : so_G p l e R s m args below meth c Q B ad D nL k0 z0 cfg) : so_G p l e R s m args below meth c Q B ad D nL k0 z0 (pc, (L, (st, (K, H)))) := by
  unfold sm_if at hs
  split at hs
  · split at hs
    · rename_i ho
      intro Hr ls rst locs hl hst0 hR hS
      obtain ⟨v1, r1, e1, ⟨a1, rfl, h1⟩, hst⟩ := so_cons hst0
      subst e1
      subst h1
      have hn : (pc : Int) + off = (((pc : Int) + off).toNat : Int) := by omega
      split at hs
      · rename_i hc
        cases so_nx hs
        have kk := k Hr ls r1 locs hl hst hR hS
        cases op <;> simp only [sm_is, decide_eq_true_eq] at hc
        · exact lv_if_eq hx hb hd hn (fun _ => kk) (fun h => absurd (so_eqI.mpr hc) h)
        · exact lv_if_ne hx hb hd hn (fun _ => kk) (fun h => absurd (so_zero.mp h) hc)
        · exact lv_if_lt hx hb hd hn (fun _ => kk) (fun h => absurd (so_ltI.mpr hc) h)
        · exact lv_if_ge hx hb hd hn (fun _ => kk) (fun h => absurd ((so_leI (a := 0)).mpr hc) h)
        · exact lv_if_gt hx hb hd hn (fun _ => kk) (fun h => absurd ((so_ltI (a := 0)).mpr hc) h)
        · exact lv_if_le hx hb hd hn (fun _ => kk) (fun h => absurd (so_leI.mpr hc) h)
      · rename_i hc
        cases so_nx hs
        have kk := k Hr ls r1 locs hl hst hR hS
        cases op <;> simp only [sm_is, decide_eq_true_eq] at hc
        · exact lv_if_eq hx hb hd hn (fun h => absurd (so_eqI.mp h) hc) (fun _ => kk)
        · exact lv_if_ne hx hb hd hn (fun h => absurd (fun q => h (so_eqI.mpr q)) hc) (fun _ => kk)
        · exact lv_if_lt hx hb hd hn (fun h => absurd (so_ltI.mp h) hc) (fun _ => kk)
        · exact lv_if_ge hx hb hd hn (fun h => absurd (so_leI.mp h) hc) (fun _ => kk)
        · exact lv_if_gt hx hb hd hn (fun h => absurd (so_ltI.mp h) hc) (fun _ => kk)
        · exact lv_if_le hx hb hd hn (fun h => absurd (so_leI.mp h) hc) (fun _ => kk)
    · cases hs
  · cases hs
theorem so_if2 (op : ClassFile.Cond) (hx : p.tables.exec = Jvm.exec) (hb : c.code = cc) {off : Int} (hd : decode cc pc = .ok (.if_icmp op off, 3))
    (hs : sm_if2 op off pc L st K H = some (.inl cfg)) (k : so_G p l e R s m args below meth c Q B ad D nL k0 z0 cfg) : so_G p l e R s m args below meth c Q B ad D nL k0 z0 (pc, (L, (st, (K, H)))) := by
  unfold sm_if2 at hs
  split at hs
  · split at hs
    · rename_i ho
      intro Hr ls rst locs hl hst0 hR hS
      obtain ⟨v1, r1, e1, ⟨a1, rfl, h1⟩, hst1⟩ := so_cons hst0
      obtain ⟨v2, r2, e2, ⟨a2, rfl, h2⟩, hst⟩ := so_cons hst1
      subst e1; subst e2; subst h1; subst h2
      have hn : (pc : Int) + off = (((pc : Int) + off).toNat : Int) := by omega
      split at hs
      · rename_i hc
        cases so_nx hs
        have kk := k Hr ls r2 locs hl hst hR hS
        cases op <;> simp only [sm_is, decide_eq_true_eq] at hc
        · exact lv_icmp_eq hx hb hd hn (fun _ => kk) (fun h => absurd (so_eqI.mpr hc) h)
        · exact lv_icmp_ne hx hb hd hn (fun _ => kk) (fun h => absurd (so_eqI.mp h) hc)
        · exact lv_icmp_lt hx hb hd hn (fun _ => kk) (fun h => absurd (so_ltI.mpr hc) h)
        · exact lv_icmp_ge hx hb hd hn (fun _ => kk) (fun h => absurd (so_leI.mpr hc) h)
        · exact lv_icmp_gt hx hb hd hn (fun _ => kk) (fun h => absurd (so_ltI.mpr hc) h)
        · exact lv_icmp_le hx hb hd hn (fun _ => kk) (fun h => absurd (so_leI.mpr hc) h)
      · rename_i hc
        cases so_nx hs
        have kk := k Hr ls r2 locs hl hst hR hS
        cases op <;> simp only [sm_is, decide_eq_true_eq] at hc
        · exact lv_icmp_eq hx hb hd hn (fun h => absurd (so_eqI.mp h) hc) (fun _ => kk)
        · exact lv_icmp_ne hx hb hd hn (fun h => absurd (fun q => h (so_eqI.mpr q)) hc) (fun _ => kk)
        · exact lv_icmp_lt hx hb hd hn (fun h => absurd (so_ltI.mp h) hc) (fun _ => kk)
        · exact lv_icmp_ge hx hb hd hn (fun h => absurd (so_leI.mp h) hc) (fun _ => kk)
        · exact lv_icmp_gt hx hb hd hn (fun h => absurd (so_ltI.mp h) hc) (fun _ => kk)
        · exact lv_icmp_le hx hb hd hn (fun h => absurd (so_leI.mp h) hc) (fun _ => kk)
    · cases hs
  · cases hs
theorem so_ifnull (hx : p.tables.exec = Jvm.exec) (hb : c.code = cc) {off : Int} (hd : decode cc pc = .ok (.ifnull off, 3))
    (hs : sm_ifn true off pc L st K H = some (.inl cfg)) (k : so_G p l e R s m args below meth c Q B ad D nL k0 z0 cfg) : so_G p l e R s m args below meth c Q B ad D nL k0 z0 (pc, (L, (st, (K, H)))) := by
  unfold sm_ifn at hs
  split at hs
  · split at hs
    · rename_i x r ho
      intro Hr ls rst locs hl hst0 hR hS
      obtain ⟨v1, r1, e1, h1, hst⟩ := so_cons hst0
      subst e1
      have h1 : v1 = va_rf (sm_oa B ad x) := h1
      have hn : (pc : Int) + off = (((pc : Int) + off).toNat : Int) := by omega
      split at hs
      · rename_i hc
        cases so_nx hs
        have hc : x = 0 := of_decide_eq_true hc
        rw [sm_oa, if_pos hc] at h1
        subst h1
        exact lv_ifnullN hx hb hd hn (k Hr ls r1 locs hl hst hR hS)
      · rename_i hc
        cases so_nx hs
        have hc : ¬ x = 0 := fun h => hc (decide_eq_true h)
        rw [sm_oa, if_neg hc] at h1
        subst h1
        exact lv_ifnull hx hb hd (k Hr ls r1 locs hl hst hR hS)
    · cases hs
  · cases hs
theorem so_ifnonnull (hx : p.tables.exec = Jvm.exec) (hb : c.code = cc) {off : Int} (hd : decode cc pc = .ok (.ifnonnull off, 3))
    (hs : sm_ifn false off pc L st K H = some (.inl cfg)) (k : so_G p l e R s m args below meth c Q B ad D nL k0 z0 cfg) : so_G p l e R s m args below meth c Q B ad D nL k0 z0 (pc, (L, (st, (K, H)))) := by
  unfold sm_ifn at hs
  split at hs
  · split at hs
    · rename_i x r ho
      intro Hr ls rst locs hl hst0 hR hS
      obtain ⟨v1, r1, e1, h1, hst⟩ := so_cons hst0
      subst e1
      have h1 : v1 = va_rf (sm_oa B ad x) := h1
      have hn : (pc : Int) + off = (((pc : Int) + off).toNat : Int) := by omega
      split at hs
      · rename_i hc
        cases so_nx hs
        have hc : ¬ x = 0 := of_decide_eq_false hc
        rw [sm_oa, if_neg hc] at h1
        subst h1
        exact lv_ifnonnull hx hb hd hn (k Hr ls r1 locs hl hst hR hS)
      · rename_i hc
        cases so_nx hs
        have hc : x = 0 := by
          by_cases q : x = 0
          · exact q
          · exact absurd (decide_eq_false q) hc
        rw [sm_oa, if_pos hc] at h1
        subst h1
        exact lv_ifnonnullN hx hb hd (k Hr ls r1 locs hl hst hR hS)
    · cases hs
  · cases hs
theorem so_goto (hx : p.tables.exec = Jvm.exec) (hb : c.code = cc) {off : Int} (hd : decode cc pc = .ok (.goto off, 3))
    (hs : sm_jp pc off L st K H = some (.inl cfg)) (k : so_G p l e R s m args below meth c Q B ad D nL k0 z0 cfg) : so_G p l e R s m args below meth c Q B ad D nL k0 z0 (pc, (L, (st, (K, H)))) := by
  obtain ⟨n, hn, rfl⟩ := so_jp hs
  intro Hr ls rst locs hl hst hR hS
  exact lv_goto hx hb hd hn (k Hr ls rst locs hl hst hR hS)
theorem so_sw (hx : p.tables.exec = Jvm.exec) (hb : c.code = cc) {d lo hi : Int} {offs : Array Int} {len : Nat} (hd : decode cc pc = .ok (.tableswitch d lo hi offs, len))
    (hs : sm_sw d lo hi offs pc L st K H = some (.inl cfg)) (k : so_G p l e R s m args below meth c Q B ad D nL k0 z0 cfg) : so_G p l e R s m args below meth c Q B ad D nL k0 z0 (pc, (L, (st, (K, H)))) := by
  unfold sm_sw at hs
  split at hs
  · intro Hr ls rst locs hl hst0 hR hS
    obtain ⟨v1, r1, e1, ⟨a1, rfl, h1⟩, hst⟩ := so_cons hst0
    subst e1; subst h1
    split at hs
    · rename_i hc
      obtain ⟨n, hn, rfl⟩ := so_jp hs
      exact lv_tableOut hx hb hd hc hn (k Hr ls r1 locs hl hst hR hS)
    · rename_i hc
      split at hs
      · rename_i off ho
        obtain ⟨n, hn, rfl⟩ := so_jp hs
        exact lv_tableIn hx hb hd (fun q => hc (Or.inl q)) (fun q => hc (Or.inr q)) ho hn (k Hr ls r1 locs hl hst hR hS)
      · cases hs
  · cases hs
end SO2
