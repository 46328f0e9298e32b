/-! THE SMALL MACHINE IS SOUND, 12: a body, a method -/
theorem so_slen {B : Nat} {ad : Nat → Nat} : ∀ {xs : List sm_V} {vs : List Value}, sm_vals B ad xs vs → (lg_sl vs).length = (sm_sl xs).length
  | [], [], _ => rfl
  | x :: xs, v :: vs, h => by
    have ih := so_slen h.2
    have hc := so_cat h.1
    have e : lg_sl (v :: vs) = (if v.category = 2 then [Slot.val v, .second] else [.val v]) ++ lg_sl vs := rfl
    rw [e, hc]
    rcases x with x | x | x <;> simp [sm_cat, sm_sl, ih]
  | [], v :: vs, h => h.elim
  | x :: xs, [], h => h.elim
theorem so_args {B : Nat} {ad : Nat → Nat} : ∀ {xs : List sm_V} {vs : List Value}, sm_vals B ad xs vs → ∀ (k i : Nat) (x : sm_V), sm_lg (sm_sl xs) i = some x → ∃ v : Value, (k + i, v) ∈ lv_args k vs ∧ sm_val B ad x v
  | [], [], _, k, i, x, hx => by simp [sm_sl, sm_lg] at hx
  | y :: xs, v :: vs, h, k, i, x, hx => by
    have ih := so_args h.2
    have hc := so_cat h.1
    have e : lv_args k (v :: vs) = (k, v) :: lv_args (if v.category = 2 then k + 2 else k + 1) vs := rfl
    rw [e, hc]
    have hone : ∀ w : sm_V, sm_cat w = 1 → sm_sl (w :: xs) = some w :: sm_sl xs := by
      intro w hw
      rcases w with w | w | w
      · rfl
      · simp [sm_cat] at hw
      · rfl
    by_cases h2 : sm_cat y = 2
    · rcases y with y | y | y
      · simp [sm_cat] at h2
      · have e2 : sm_sl (.inr (.inl y) :: xs) = some (.inr (.inl y)) :: none :: sm_sl xs := rfl
        rw [e2] at hx
        rw [if_pos h2]
        match i, hx with
        | 0, hx =>
          simp [sm_lg] at hx
          subst hx
          exact ⟨v, by simp, h.1⟩
        | 1, hx => simp [sm_lg] at hx
        | i + 2, hx =>
          have hx : sm_lg (sm_sl xs) i = some x := by simpa [sm_lg] using hx
          obtain ⟨w, h3, h4⟩ := ih (k + 2) i x hx
          exact ⟨w, List.mem_cons_of_mem _ (by rw [show k + (i + 2) = k + 2 + i by omega]; exact h3), h4⟩
      · simp [sm_cat] at h2
    · have h1 : sm_cat y = 1 := by
        rcases y with y | y | y
        · rfl
        · exact absurd rfl h2
        · rfl
      rw [hone y h1] at hx
      rw [if_neg h2]
      match i, hx with
      | 0, hx =>
        simp [sm_lg] at hx
        subst hx
        exact ⟨v, by simp, h.1⟩
      | i + 1, hx =>
        have hx : sm_lg (sm_sl xs) i = some x := by simpa [sm_lg] using hx
        obtain ⟨w, h3, h4⟩ := ih (k + 1) i x hx
        exact ⟨w, List.mem_cons_of_mem _ (by rw [show k + (i + 1) = k + 1 + i by omega]; exact h3), h4⟩
  | [], v :: vs, h, _, _, _, _ => h.elim
  | x :: xs, [], h, _, _, _, _ => h.elim
theorem so_enlok {B : Nat} {ad : Nat → Nat} {xs : List sm_V} {vs : List Value} {n : Nat} (h : sm_vals B ad xs vs) (hn : (sm_sl xs).length ≤ n) : sm_lok B ad n (sm_en xs n) ((lg_sl vs ++ List.replicate (n - (lg_sl vs).length) Slot.unset).toArray) := by
  have hl := lv_entry vs (n := n) (by rw [so_slen h]; exact hn)
  refine ⟨by simp [sm_en]; omega, hl.1, hl.2.1, fun i x hx => ?_⟩
  have hx2 : sm_lg (sm_sl xs) i = some x := by
    unfold sm_en sm_lg at hx
    by_cases hlt : i < (sm_sl xs).length
    · rw [List.getElem?_append_left hlt] at hx
      exact hx
    · rw [List.getElem?_append_right (by omega), List.getElem?_replicate] at hx
      split at hx <;> simp at hx
  obtain ⟨v, h1, h2⟩ := so_args h 0 i x hx2
  rw [Nat.zero_add] at h1
  exact ⟨v, h2, hl.2.2 _ h1⟩
/-- no return -/
def nr_P (x : Option (sm_S ⊕ sm_O)) : Prop := ∀ o : sm_O, x = some (.inr o) → False
section NR
variable {S : sm_E} {call : Nat → List sm_V → sm_K → sm_H → Option sm_O} {rt : Option FieldType} {c ini : Nat} {i : Instr} {pc : Nat} {L : sm_L} {st : List sm_V} {K : sm_K} {H H' : sm_H}
theorem nr_none : nr_P none := fun o h => by cases h
theorem nr_nx {n : Nat} {L' : sm_L} {st' : List sm_V} {K' : sm_K} : nr_P (sm_nx n L' st' K' H') := fun o h => by cases h
theorem nr_jp {off : Int} {st' : List sm_V} : nr_P (sm_jp pc off L st' K H') := by
  unfold sm_jp
  split
  · exact fun o h => by cases h
  · exact nr_none
theorem nr_b {f : Int → Int → Int} : nr_P (sm_b f pc L st K H) := by unfold sm_b; split <;> first | exact nr_nx | exact nr_none
theorem nr_bj {f : Int → Int → Int} : nr_P (sm_bj f pc L st K H) := by unfold sm_bj; split <;> first | exact nr_nx | exact nr_none
theorem nr_un {f : Int → Int} : nr_P (sm_un f pc L st K H) := by unfold sm_un; split <;> first | exact nr_nx | exact nr_none
theorem nr_ldI {k n : Nat} : nr_P (sm_ldI k n pc L st K H) := by unfold sm_ldI; split <;> first | exact nr_nx | exact nr_none
theorem nr_ldJ {k n : Nat} : nr_P (sm_ldJ k n pc L st K H) := by unfold sm_ldJ; split <;> first | exact nr_nx | exact nr_none
theorem nr_ldA {k n : Nat} : nr_P (sm_ldA k n pc L st K H) := by unfold sm_ldA; split <;> first | exact nr_nx | exact nr_none
theorem nr_stI {k n : Nat} : nr_P (sm_stI k n pc L st K H) := by unfold sm_stI; repeat' (first | exact nr_nx | exact nr_none | split)
theorem nr_stJ {k n : Nat} : nr_P (sm_stJ k n pc L st K H) := by unfold sm_stJ; repeat' (first | exact nr_nx | exact nr_none | split)
theorem nr_stA {k n : Nat} : nr_P (sm_stA k n pc L st K H) := by unfold sm_stA; repeat' (first | exact nr_nx | exact nr_none | split)
theorem nr_if {op : ClassFile.Cond} {off : Int} : nr_P (sm_if op off pc L st K H) := by unfold sm_if; repeat' (first | exact nr_nx | exact nr_none | split)
theorem nr_if2 {op : ClassFile.Cond} {off : Int} : nr_P (sm_if2 op off pc L st K H) := by unfold sm_if2; repeat' (first | exact nr_nx | exact nr_none | split)
theorem nr_ifn {yes : Bool} {off : Int} : nr_P (sm_ifn yes off pc L st K H) := by unfold sm_ifn; repeat' (first | exact nr_nx | exact nr_none | split)
theorem nr_sw {d lo hi : Int} {offs : Array Int} : nr_P (sm_sw d lo hi offs pc L st K H) := by unfold sm_sw; repeat' (first | exact nr_jp | exact nr_none | split)
theorem nr_ald {w : Nat → Option (Nat × (Int → Int))} {mk : Int → sm_V} : nr_P (sm_ald w mk pc L st K H) := by unfold sm_ald; repeat' (first | exact nr_nx | exact nr_none | split)
theorem nr_iast : nr_P (sm_iast pc L st K H) := by unfold sm_iast; repeat' (first | exact nr_nx | exact nr_none | split)
theorem nr_bast : nr_P (sm_bast pc L st K H) := by unfold sm_bast; repeat' (first | exact nr_nx | exact nr_none | split)
theorem nr_last : nr_P (sm_last pc L st K H) := by unfold sm_last; repeat' (first | exact nr_nx | exact nr_none | split)
theorem nr_aald : nr_P (sm_aald pc L st K H) := by unfold sm_aald; repeat' (first | exact nr_nx | exact nr_none | split)
theorem nr_aast : nr_P (sm_aast pc L st K H) := by unfold sm_aast; repeat' (first | exact nr_nx | exact nr_none | split)
theorem nr_getf {k : Nat} : nr_P (sm_getf c k pc L st K H) := by unfold sm_getf; repeat' (first | exact nr_nx | exact nr_none | split)
theorem nr_gets {k : Nat} : nr_P (sm_gets S c k pc L st K H) := by unfold sm_gets; repeat' (first | exact nr_nx | exact nr_none | split)
theorem nr_ma {f : Int → Int → Int} : nr_P (sm_ma f pc L st K H) := by unfold sm_ma; repeat' (first | exact nr_nx | exact nr_none | split)
theorem nr_maj {f : Int → Int → Int} : nr_P (sm_maj f pc L st K H) := by unfold sm_maj; repeat' (first | exact nr_nx | exact nr_none | split)
theorem nr_acopy : nr_P (sm_acopy pc L st K H) := by unfold sm_acopy; repeat' (first | exact nr_nx | exact nr_none | split)
theorem nr_app {n : Nat} {ce : sm_C} {st' : List sm_V} : nr_P (sm_nx n L st' (K ++ [ce]) H') := fun o h => by cases h
theorem nr_new {k : Nat} : nr_P (sm_new c k pc L st K H) := by unfold sm_new; repeat' (first | exact nr_app | exact nr_none | split)
theorem nr_newa {k d : Nat} : nr_P (sm_newa k d pc L st K H) := by unfold sm_newa; repeat' (first | exact nr_app | exact nr_none | split)
theorem nr_anew {k : Nat} : nr_P (sm_anew c k pc L st K H) := by unfold sm_anew; repeat' (first | exact nr_newa | exact nr_none | split)
theorem nr_clone : nr_P (sm_clone pc L st K H) := by unfold sm_clone; repeat' (first | exact nr_app | exact nr_none | split)
theorem nr_putf {k : Nat} : nr_P (sm_putf c ini k pc L st K H) := by unfold sm_putf; repeat' (first | exact nr_nx | exact nr_none | split)
theorem nr_call {mid n : Nat} : nr_P (sm_call call mid n pc L st K H) := by unfold sm_call; repeat' (first | exact nr_nx | exact nr_none | split)
theorem nr_invS {k : Nat} : nr_P (sm_invS call c k pc L st K H) := by unfold sm_invS; repeat' (first | exact nr_call | exact nr_acopy | exact nr_ma | exact nr_maj | exact nr_nx | exact nr_none | split)
theorem nr_invV {k : Nat} : nr_P (sm_invV call c k pc L st K H) := by unfold sm_invV; repeat' (first | exact nr_call | exact nr_clone | exact nr_none | split)
theorem nr_invI {k : Nat} : nr_P (sm_invI call c k pc L st K H) := by unfold sm_invI; repeat' (first | exact nr_call | exact nr_nx | exact nr_none | split)
theorem so_noret (i : Instr) (h1 : i ≠ .ireturn) (h2 : i ≠ .lreturn) (h3 : i ≠ .areturn) (h4 : i ≠ .return_) : nr_P (sm_step S call rt c ini i pc L st K H) := by
  unfold sm_step
  split <;> (repeat' (first | exact absurd rfl h1 | exact absurd rfl h2 | exact absurd rfl h3 | exact absurd rfl h4 | exact nr_nx | exact nr_b | exact nr_bj | exact nr_un | exact nr_ldI | exact nr_ldJ | exact nr_ldA | exact nr_stI | exact nr_stJ | exact nr_stA | exact nr_if | exact nr_if2 | exact nr_ifn | exact nr_jp | exact nr_sw | exact nr_ald | exact nr_aald | exact nr_iast | exact nr_bast | exact nr_last | exact nr_aast | exact nr_getf | exact nr_putf | exact nr_gets | exact nr_new | exact nr_newa | exact nr_anew | exact nr_invS | exact nr_invV | exact nr_invI | exact nr_none | split))
end NR
section SO11
variable {p : Program} {l : Launch} {e : Env} {R : Room} {s : State} {m : MethodId} {args : Array Value} {below : List Frame} {meth : Method} {c : Code} {Q : State → Prop} {B : Nat} {ad : Nat → Nat} {D : va_G} {nL k0 z0 : Nat}
variable {S : sm_E} {d N : Nat} {call : Nat → List sm_V → sm_K → sm_H → Option sm_O}
theorem so_at {mid pc : Nat} {i : Instr} {r : sm_M} (hr : sm_ms[mid]? = some r) (h : sm_at mid pc = some i) : ∃ len : Nat, decode r.2.1 pc = .ok (i, len) ∧ (sm_isw i = true ∨ sm_lof i = len) ∧ sm_num i = true := by
  unfold sm_at at h
  rw [hr] at h
  simp only at h
  cases hl : List.lookup pc r.2.2.2.2.2.2 with
  | none => rw [hl] at h; cases h
  | some q =>
    obtain ⟨i', len⟩ := q
    rw [hl] at h
    cases h
    have h1 := pf_dec mid r hr
    unfold pf_dok at h1
    have h2 := h1 (pc, (i', len)) (pf_lookup hl)
    exact ⟨len, h2.1, h2.2.1, h2.2.2⟩
/-- A BODY: what the small machine says comes about, if its end does -/
theorem so_ex {mid : Nat} {r : sm_M} (hr : sm_ms[mid]? = some r) (hx : p.tables.exec = Jvm.exec) (hb : c.code = r.2.1) (hml : c.maxLocals = nL) (hE : so_Ev B ad S s) (hts : ∀ w ∈ sm_tb, w.before args s = true) (hown : s.vm.findClass (sm_cn (sm_mc mid)) = some m.cls) (hini : sm_mi mid = 2 → meth.name = "<init>") (hsz : s.heap.size = B + k0) (hrd : d + 1 ≤ R.frames ∧ 64 * (d + 1) ≤ R.locals) (hmc : ∀ mid vs K H o, call mid vs K H = some o → K.length ≤ o.1.length ∧ sm_sz K ≤ sm_sz o.1) (hcall : ∀ mid, mid ∉ pf_no → ∀ vs K H o, call mid vs K H = some o → (K.length ≤ o.1.length ∧ sm_sz K ≤ sm_sz o.1) ∧ so_Met S d mid vs K H o) {o : sm_O}
    (hro : o.1.length - k0 ≤ R.cells ∧ sm_sz o.1 - z0 ≤ R.slots)
    (hfin : ∀ (pc : Nat) (L : sm_L) (st : List sm_V) (i : Instr), decode r.2.1 pc = .ok (i, sm_lof i) → sm_step S call (sm_mrt mid) (sm_mc mid) (sm_mi mid) i pc L st o.1 o.2.1 = some (.inr o) → so_G p l e R s m args below meth c Q B ad D nL k0 z0 (pc, (L, (st, (o.1, o.2.1))))) :
    ∀ (n : Nat) (g : sm_S), sm_ex S call mid n g = some o → k0 ≤ g.2.2.2.1.length → z0 ≤ sm_sz g.2.2.2.1 → so_G p l e R s m args below meth c Q B ad D nL k0 z0 g := by
  intro n
  induction n with
  | zero => intro g h; cases h
  | succ n ih =>
    rintro ⟨pc, L, st, K, H⟩ h hk0 hz0
    have hmo := mo_ex hmc _ _ _ h
    unfold sm_ex at h
    split at h
    · cases h
    · rename_i i hi
      have hm := mo_step (S := S) (rt := sm_mrt mid) (c := sm_mc mid) (ini := sm_mi mid) (i := i) (pc := pc) (L := L) (st := st) (K := K) (H := H) hmc
      obtain ⟨len, d1, d2, d3⟩ := so_at hr hi
      split at h
      · cases h
      · rename_i g hg
        rw [hg] at hm
        have hmo2 := mo_ex hmc _ _ _ h
        simp only at hk0 hz0 hmo
        have hm : K.length ≤ g.2.2.2.1.length ∧ sm_sz K ≤ sm_sz g.2.2.2.1 := hm
        exact so_step hx hb hml hE hts hown hini hsz hk0 hz0 hrd hcall ⟨by omega, by omega⟩ d1 d2 d3 hg ⟨by omega, by omega⟩ (ih g h (by omega) (by omega))
      · rename_i o' hg
        rw [hg] at hm
        cases h
        obtain ⟨h1, h2⟩ := hm
        subst h1; subst h2
        refine hfin pc L st i ?_ hg
        rcases d2 with d2 | d2
        · exact absurd hg (fun q => so_noret i (fun h => by rw [h] at d2; cases d2) (fun h => by rw [h] at d2; cases d2) (fun h => by rw [h] at d2; cases d2) (fun h => by rw [h] at d2; cases d2) o q)
        · rw [d2]; exact d1
theorem so_char {a : Int32} (h : 0 ≤ a.toInt ∧ a.toInt < 65536) : narrow .char (.int a) = .int a := by
  show Value.int a.toUInt32.toUInt16.toUInt32.toInt32 = Value.int a
  have hx : a.toBitVec.toInt = if 2 * a.toBitVec.toNat < 2 ^ 32 then (a.toBitVec.toNat : Int) else (a.toBitVec.toNat : Int) - ((2 ^ 32 : Nat) : Int) := BitVec.toInt_eq_toNat_cond a.toBitVec
  have ha : a.toInt = a.toBitVec.toInt := rfl
  have hb : a.toBitVec.toNat < 2 ^ 32 := a.toBitVec.isLt
  have hlt : a.toUInt32.toNat < 65536 := by
    show a.toBitVec.toNat < 65536
    split at hx <;> omega
  have e : a.toUInt32.toUInt16.toUInt32 = a.toUInt32 := by
    apply UInt32.toNat_inj.mp
    rw [UInt16.toNat_toUInt32, UInt32.toNat_toUInt16]
    exact Nat.mod_eq_of_lt hlt
  rw [e]
  rfl
/-- A METHOD -/
theorem so_run : ∀ (d mid : Nat) (vs : List sm_V) (K : sm_K) (H : sm_H) (o : sm_O), mid ∉ pf_no → sm_run S N d mid vs K H = some o → so_Met S d mid vs K H o := by
  intro d
  induction d with
  | zero => intro mid vs K H o _ h; cases h
  | succ d ih =>
    intro mid vs K H o hno h r hr l B ad D
    unfold sm_run at h
    split at h
    · rename_i hlen
      obtain ⟨o1, o2, o3, o4, o5, o6, o7, o8⟩ := pf_all mid r hr hno
      have hmrt : sm_mrt mid = r.2.2.2.1 := by unfold sm_mrt; rw [hr]; rfl
      have hmc : sm_mc mid = r.2.2.2.2.1 := by unfold sm_mc; rw [hr]; rfl
      have hmi : sm_mi mid = r.2.2.2.2.2.1 := by unfold sm_mi; rw [hr]; rfl
      have hmlm : sm_ml mid = r.2.2.1 := by unfold sm_ml; rw [hr]; rfl
      refine Met.ofW (cc := r.2.1) (maxL := r.2.2.1) (ret := r.2.2.2.1) o3 rfl ?_
      intro p e s m args below meth c s₁ Bd hml hv
      obtain ⟨vals, rfl, hvs, hsz, hE, hR⟩ := hv
      have hx := Bd.exec
      have hb := Bd.bytes
      have hrt := Bd.returns
      have hts0 := atoms_spec (ws := sm_cw r :: sm_tb) Bd.pre
      have hts : ∀ w ∈ sm_tb, w.before vals.toArray s = true := fun w hw => hts0 w (List.mem_cons_of_mem _ hw)
      have hown : s.vm.findClass (sm_cn (sm_mc mid)) = some m.cls := by
        rw [hmc, ← o4]
        exact findClass_of_methodNamed Bd.named
      have hlocks := Bd.notSynchronized
      have hini : sm_mi mid = 2 → meth.name = "<init>" := fun hh => by
        rw [(name_of_methodNamed Bd.named Bd.method).1]
        exact o8.mp (by rw [← hmi]; exact hh)
      have hcall : ∀ mid, mid ∉ pf_no → ∀ vs K H o, sm_run S N d mid vs K H = some o → (K.length ≤ o.1.length ∧ sm_sz K ≤ sm_sz o.1) ∧ so_Met S d mid vs K H o := fun mid hn vs K H o hh => ⟨mo_run _ _ _ _ _ _ hh, ih _ _ _ _ _ hn hh⟩
      rw [lg_entry_eq]
      rw [hmlm] at h hlen
      have hfin : ∀ (pc : Nat) (L : sm_L) (st : List sm_V) (i : Instr), decode r.2.1 pc = .ok (i, sm_lof i) → sm_step S (sm_run S N d) (sm_mrt mid) (sm_mc mid) (sm_mi mid) i pc L st o.1 o.2.1 = some (.inr o) → so_G p l e (headSpec (sm_cw r :: sm_tb) (so_rm (d + 1) K o.1)).room s m vals.toArray below meth c (MQ below (so_Qc B ad D o.1 o.2.1 o.2.2) vals.toArray s (o.1.length - K.length) (sm_sz o.1 - sm_sz K) (fun q => B ≤ q)) B ad D r.2.2.1 K.length (sm_sz K) (pc, (L, (st, (o.1, o.2.1)))) := by
        intro pc L st i hd hs
        rw [hmrt] at hs
        intro Hr ls rst locs hl hst hR' hS
        have hqc : ∀ (rv : Option Value), so_rv B ad o.2.2 rv → ∀ t : State, t.heap = Hr → s.WarmedH t.vm → so_Qc B ad D o.1 o.2.1 o.2.2 vals.toArray s (.returned rv) t := fun rv h1 t ht hW => ⟨rv, rfl, h1, by rw [ht]; exact so_R.go hR' hW.alike, hS.F ht⟩
        have hm : ∀ x, x = some (Sum.inr o) → mo_P o.1 o.2.1 x → True := fun _ _ _ => trivial
        cases i with
        | ireturn =>
          replace hs : sm_ret r.2.2.2.1 st o.1 o.2.1 = some (.inr o) := hs
          unfold sm_ret at hs
          split at hs
          · rename_i x hrr
            obtain ⟨v1, r1, e1, ⟨a1, e2, h1⟩, hst1⟩ := so_cons hst
            subst e1; subst e2
            cases r1 with
            | cons _ _ => exact hst1.elim
            | nil =>
              have ho : o.2.2 = some (.inl x) := by
                have := Sum.inr.inj (Option.some.inj hs)
                rw [← this]
              exact W.iret hx hb (by rw [hrt, hrr]) (hqc _ (by rw [ho]; exact ⟨a1, rfl, h1⟩)) hS.2.2 hd
          · rename_i x hrr
            split at hs
            · rename_i h01
              obtain ⟨v1, r1, e1, ⟨a1, e2, h1⟩, hst1⟩ := so_cons hst
              subst e1; subst e2
              cases r1 with
              | cons _ _ => exact hst1.elim
              | nil =>
                have ho : o.2.2 = some (.inl x) := by
                  have := Sum.inr.inj (Option.some.inj hs)
                  rw [← this]
                exact W.zret hx hb (ty := .boolean) (by rw [hrt, hrr]) (so_bool (by rw [h1]; exact h01)).1 (hqc _ (by rw [ho]; exact ⟨a1, rfl, h1⟩)) hS.2.2 hd
            · cases hs
          · rename_i x hrr
            split at hs
            · rename_i h01
              obtain ⟨v1, r1, e1, ⟨a1, e2, h1⟩, hst1⟩ := so_cons hst
              subst e1; subst e2
              cases r1 with
              | cons _ _ => exact hst1.elim
              | nil =>
                have ho : o.2.2 = some (.inl x) := by
                  have := Sum.inr.inj (Option.some.inj hs)
                  rw [← this]
                have hnb : narrow .byte (.int a1) = .int a1 := by
                  rw [← h1] at h01
                  rcases h01 with h | h
                  · have : a1 = 0 := so_zero.mpr h
                    subst this; decide
                  · have : a1 = 1 := so_eqI.mpr h
                    subst this; decide
                exact W.zret hx hb (ty := .byte) (by rw [hrt, hrr]) hnb (hqc _ (by rw [ho]; exact ⟨a1, rfl, h1⟩)) hS.2.2 hd
            · cases hs
          · rename_i x hrr
            split at hs
            · rename_i h01
              obtain ⟨v1, r1, e1, ⟨a1, e2, h1⟩, hst1⟩ := so_cons hst
              subst e1; subst e2
              cases r1 with
              | cons _ _ => exact hst1.elim
              | nil =>
                have ho : o.2.2 = some (.inl x) := by
                  have := Sum.inr.inj (Option.some.inj hs)
                  rw [← this]
                have hnc : narrow .char (.int a1) = .int a1 := so_char (by rw [h1]; exact h01)
                exact W.zret hx hb (ty := .char) (by rw [hrt, hrr]) hnc (hqc _ (by rw [ho]; exact ⟨a1, rfl, h1⟩)) hS.2.2 hd
            · cases hs
          · cases hs
        | lreturn =>
          unfold sm_step at hs
          simp only at hs
          split at hs
          · rename_i x hrr
            obtain ⟨v1, r1, e1, ⟨a1, e2, h1⟩, hst1⟩ := so_cons hst
            subst e1; subst e2
            cases r1 with
            | cons _ _ => exact hst1.elim
            | nil =>
              have ho : o.2.2 = some (.inr (.inl x)) := by
                have := Sum.inr.inj (Option.some.inj hs)
                rw [← this]
              exact W.lret hx hb (by rw [hrt, hrr]) (hqc _ (by rw [ho]; exact ⟨a1, rfl, h1⟩)) hS.2.2 hd
          · cases hs
        | areturn =>
          unfold sm_step at hs
          simp only at hs
          split at hs
          · rename_i C x hrr
            obtain ⟨v1, r1, e1, h1, hst1⟩ := so_cons hst
            subst e1
            cases r1 with
            | cons _ _ => exact hst1.elim
            | nil =>
              have ho : o.2.2 = some (.inr (.inr x)) := by
                have := Sum.inr.inj (Option.some.inj hs)
                rw [← this]
              have h1' : v1 = va_rf (sm_oa B ad x) := h1
              exact W.aret hx hb (by rw [hrt, hrr]) (Or.inl ⟨C, rfl⟩) (by rw [h1']; exact so_rfn) (hqc _ (by rw [ho]; exact h1)) hS.2.2 hd
          · rename_i C x hrr
            obtain ⟨v1, r1, e1, h1, hst1⟩ := so_cons hst
            subst e1
            cases r1 with
            | cons _ _ => exact hst1.elim
            | nil =>
              have ho : o.2.2 = some (.inr (.inr x)) := by
                have := Sum.inr.inj (Option.some.inj hs)
                rw [← this]
              have h1' : v1 = va_rf (sm_oa B ad x) := h1
              exact W.aret hx hb (by rw [hrt, hrr]) (Or.inr ⟨C, rfl⟩) (by rw [h1']; exact so_rfn) (hqc _ (by rw [ho]; exact h1)) hS.2.2 hd
          · cases hs
        | return_ =>
          unfold sm_step at hs
          simp only at hs
          split at hs
          · rename_i hrr
            cases rst with
            | cons _ _ => exact hst.elim
            | nil =>
              have ho : o.2.2 = none := by
                have := Sum.inr.inj (Option.some.inj hs)
                rw [← this]
              exact W.vret hx hb (by rw [hrt, hrr]) (hqc none (by rw [ho]; trivial)) hS.2.2 hd
          · cases hs
        | _ => exact (so_noret _ (by intro h; cases h) (by intro h; cases h) (by intro h; cases h) (by intro h; cases h) o hs).elim
      have hW := so_ex (l := l) (e := e) (below := below) (D := D) (d := d) hr hx hb hml hE hts hown hini hsz (R := (headSpec (sm_cw r :: sm_tb) (so_rm (d + 1) K o.1)).room) ⟨Nat.le_refl _, Nat.le_refl _⟩ (fun mid vs K H o hh => mo_run _ _ _ _ _ _ hh) hcall ⟨Nat.le_refl _, Nat.le_refl _⟩ hfin N _ h (Nat.le_refl _) (Nat.le_refl _) s.heap _ [] [] (so_enlok hvs hlen) trivial hR va_S.rf
      refine W.cs (Nat.sub_self _).symm (Nat.sub_self _).symm hW
    · cases h
end SO11
