/-! THE SMALL MACHINE IS SOUND, 10: one instruction, a body, a method -/
/-- nothing that was made goes away; a return changes nothing -/
def mo_P (K : sm_K) (H : sm_H) (x : Option (sm_S ⊕ sm_O)) : Prop := match x with
  | none => True
  | some (.inl g) => K.length ≤ g.2.2.2.1.length ∧ sm_sz K ≤ sm_sz g.2.2.2.1
  | some (.inr o) => o.1 = K ∧ o.2.1 = H
section MO
variable {S : sm_E} {call : Nat → List sm_V → sm_K → sm_H → Option sm_O} {rt : Option FieldType} {c ini : Nat} {i : Instr} {pc : Nat} {L : sm_L} {st : List sm_V} {K : sm_K} {H H' : sm_H}
theorem mo_nx {n : Nat} {L' : sm_L} {st' : List sm_V} : mo_P K H (sm_nx n L' st' K H') := ⟨Nat.le_refl _, Nat.le_refl _⟩
theorem mo_jp {off : Int} {st' : List sm_V} : mo_P K H (sm_jp pc off L st' K H') := by
  unfold sm_jp
  split
  · exact ⟨Nat.le_refl _, Nat.le_refl _⟩
  · trivial
theorem mo_b {f : Int → Int → Int} : mo_P K H (sm_b f pc L st K H) := by unfold sm_b; split <;> first | exact mo_nx | trivial
theorem mo_bj {f : Int → Int → Int} : mo_P K H (sm_bj f pc L st K H) := by unfold sm_bj; split <;> first | exact mo_nx | trivial
theorem mo_un {f : Int → Int} : mo_P K H (sm_un f pc L st K H) := by unfold sm_un; split <;> first | exact mo_nx | trivial
theorem mo_ldI {k n : Nat} : mo_P K H (sm_ldI k n pc L st K H) := by unfold sm_ldI; split <;> first | exact mo_nx | trivial
theorem mo_ldJ {k n : Nat} : mo_P K H (sm_ldJ k n pc L st K H) := by unfold sm_ldJ; split <;> first | exact mo_nx | trivial
theorem mo_ldA {k n : Nat} : mo_P K H (sm_ldA k n pc L st K H) := by unfold sm_ldA; split <;> first | exact mo_nx | trivial
theorem mo_stI {k n : Nat} : mo_P K H (sm_stI k n pc L st K H) := by unfold sm_stI; repeat' (first | exact mo_nx | trivial | split)
theorem mo_stJ {k n : Nat} : mo_P K H (sm_stJ k n pc L st K H) := by unfold sm_stJ; repeat' (first | exact mo_nx | trivial | split)
theorem mo_stA {k n : Nat} : mo_P K H (sm_stA k n pc L st K H) := by unfold sm_stA; repeat' (first | exact mo_nx | trivial | split)
theorem mo_if {op : ClassFile.Cond} {off : Int} : mo_P K H (sm_if op off pc L st K H) := by unfold sm_if; repeat' (first | exact mo_nx | trivial | split)
theorem mo_if2 {op : ClassFile.Cond} {off : Int} : mo_P K H (sm_if2 op off pc L st K H) := by unfold sm_if2; repeat' (first | exact mo_nx | trivial | split)
theorem mo_ifn {yes : Bool} {off : Int} : mo_P K H (sm_ifn yes off pc L st K H) := by unfold sm_ifn; repeat' (first | exact mo_nx | trivial | split)
theorem mo_sw {d lo hi : Int} {offs : Array Int} : mo_P K H (sm_sw d lo hi offs pc L st K H) := by unfold sm_sw; repeat' (first | exact mo_jp | trivial | split)
theorem mo_ald {w : Nat → Option (Nat × (Int → Int))} {mk : Int → sm_V} : mo_P K H (sm_ald w mk pc L st K H) := by unfold sm_ald; repeat' (first | exact mo_nx | trivial | split)
theorem mo_iast : mo_P K H (sm_iast pc L st K H) := by unfold sm_iast; repeat' (first | exact mo_nx | trivial | split)
theorem mo_bast : mo_P K H (sm_bast pc L st K H) := by unfold sm_bast; repeat' (first | exact mo_nx | trivial | split)
theorem mo_last : mo_P K H (sm_last pc L st K H) := by unfold sm_last; repeat' (first | exact mo_nx | trivial | split)
theorem mo_aald : mo_P K H (sm_aald pc L st K H) := by unfold sm_aald; repeat' (first | exact mo_nx | trivial | split)
theorem mo_aast : mo_P K H (sm_aast pc L st K H) := by unfold sm_aast; repeat' (first | exact mo_nx | trivial | split)
theorem mo_getf {k : Nat} : mo_P K H (sm_getf c k pc L st K H) := by unfold sm_getf; repeat' (first | exact mo_nx | trivial | split)
theorem mo_gets {k : Nat} : mo_P K H (sm_gets S c k pc L st K H) := by unfold sm_gets; repeat' (first | exact mo_nx | trivial | split)
theorem mo_ma {f : Int → Int → Int} : mo_P K H (sm_ma f pc L st K H) := by unfold sm_ma; repeat' (first | exact mo_nx | trivial | split)
theorem mo_maj {f : Int → Int → Int} : mo_P K H (sm_maj f pc L st K H) := by unfold sm_maj; repeat' (first | exact mo_nx | trivial | split)
theorem mo_acopy : mo_P K H (sm_acopy pc L st K H) := by unfold sm_acopy; repeat' (first | exact mo_nx | trivial | split)
theorem mo_app {n : Nat} {ce : sm_C} {st' : List sm_V} : mo_P K H (sm_nx n L st' (K ++ [ce]) H') := ⟨by simp, by show sm_sz K ≤ sm_sz (K ++ [ce]); rw [so_szapp]; omega⟩
theorem mo_new {k : Nat} : mo_P K H (sm_new c k pc L st K H) := by unfold sm_new; repeat' (first | exact mo_app | trivial | split)
theorem mo_newa {k d : Nat} : mo_P K H (sm_newa k d pc L st K H) := by unfold sm_newa; repeat' (first | exact mo_app | trivial | split)
theorem mo_anew {k : Nat} : mo_P K H (sm_anew c k pc L st K H) := by unfold sm_anew; repeat' (first | exact mo_newa | trivial | split)
theorem mo_clone : mo_P K H (sm_clone pc L st K H) := by unfold sm_clone; repeat' (first | exact mo_app | trivial | split)
theorem mo_wr {a ci k : Nat} {ce : sm_C} {v : sm_V} {K' : sm_K} {H' : sm_H} (hk : sm_kd K a = some ce) (h : sm_wr K H a ci k ce v = some (K', H')) : K'.length = K.length ∧ sm_sz K' = sm_sz K := by
  unfold sm_wr at h
  split at h
  · cases h; exact ⟨rfl, rfl⟩
  · split at h
    · cases h; exact ⟨rfl, rfl⟩
    · cases h
  · cases h; exact ⟨rfl, rfl⟩
  · cases h; exact ⟨rfl, rfl⟩
  · cases h
    refine ⟨by simp, ?_⟩
    obtain ⟨h3, h4⟩ := so_kd hk
    obtain ⟨h5, h6⟩ := List.getElem?_eq_some_iff.mp h4
    unfold sm_sz
    rw [List.map_set]
    have : (K.map (fun c : sm_C => c.2.1)).set (a - 32) ce.2.1 = K.map (fun c : sm_C => c.2.1) := by
      have h7 : (K.map (fun c : sm_C => c.2.1))[a - 32]'(by simpa using h5) = ce.2.1 := by simp [h6]
      rw [← h7, List.set_getElem_self]
    exact congrArg List.sum this
  · cases h
theorem mo_putf {k : Nat} : mo_P K H (sm_putf c ini k pc L st K H) := by
  unfold sm_putf
  repeat' (first | trivial | split)
  rename_i hk _ _ _ _ hw
  obtain ⟨h1, h2⟩ := mo_wr hk hw
  exact ⟨Nat.le_of_eq h1.symm, Nat.le_of_eq h2.symm⟩
theorem mo_call {mid n : Nat} (hc : ∀ mid vs K H o, call mid vs K H = some o → K.length ≤ o.1.length ∧ sm_sz K ≤ sm_sz o.1) : mo_P K H (sm_call call mid n pc L st K H) := by
  unfold sm_call
  split
  · split
    · rename_i h
      exact hc _ _ _ _ _ h
    · trivial
  · trivial
theorem mo_invS {k : Nat} (hc : ∀ mid vs K H o, call mid vs K H = some o → K.length ≤ o.1.length ∧ sm_sz K ≤ sm_sz o.1) : mo_P K H (sm_invS call c k pc L st K H) := by unfold sm_invS; repeat' (first | exact mo_call hc | exact mo_acopy | exact mo_ma | exact mo_maj | exact mo_nx | trivial | split)
theorem mo_invV {k : Nat} (hc : ∀ mid vs K H o, call mid vs K H = some o → K.length ≤ o.1.length ∧ sm_sz K ≤ sm_sz o.1) : mo_P K H (sm_invV call c k pc L st K H) := by unfold sm_invV; repeat' (first | exact mo_call hc | exact mo_clone | trivial | split)
theorem mo_invI {k : Nat} (hc : ∀ mid vs K H o, call mid vs K H = some o → K.length ≤ o.1.length ∧ sm_sz K ≤ sm_sz o.1) : mo_P K H (sm_invI call c k pc L st K H) := by unfold sm_invI; repeat' (first | exact mo_call hc | exact mo_nx | trivial | split)
theorem mo_ret : mo_P K H (sm_ret rt st K H) := by unfold sm_ret; repeat' (first | exact ⟨rfl, rfl⟩ | trivial | split)
theorem mo_step (hc : ∀ mid vs K H o, call mid vs K H = some o → K.length ≤ o.1.length ∧ sm_sz K ≤ sm_sz o.1) : mo_P K H (sm_step S call rt c ini i pc L st K H) := by
  unfold sm_step
  split <;> (repeat' (first | exact mo_nx | exact mo_b | exact mo_bj | exact mo_un | exact mo_ldI | exact mo_ldJ | exact mo_ldA | exact mo_stI | exact mo_stJ | exact mo_stA | exact mo_if | exact mo_if2 | exact mo_ifn | exact mo_jp | exact mo_sw | exact mo_ald | exact mo_aald | exact mo_iast | exact mo_bast | exact mo_last | exact mo_aast | exact mo_getf | exact mo_putf | exact mo_gets | exact mo_new | exact mo_newa | exact mo_anew | exact mo_invS hc | exact mo_invV hc | exact mo_invI hc | exact mo_ret | exact ⟨rfl, rfl⟩ | trivial | split))
theorem mo_ex {mid : Nat} (hc : ∀ mid vs K H o, call mid vs K H = some o → K.length ≤ o.1.length ∧ sm_sz K ≤ sm_sz o.1) : ∀ (n : Nat) (g : sm_S) (o : sm_O), sm_ex S call mid n g = some o → g.2.2.2.1.length ≤ o.1.length ∧ sm_sz g.2.2.2.1 ≤ sm_sz o.1 := by
  intro n
  induction n with
  | zero => intro g o h; cases h
  | succ n ih =>
    rintro ⟨pc, L, st, K, H⟩ o h
    unfold sm_ex at h
    split at h
    · cases h
    · rename_i i hi
      have hm := mo_step (S := S) (rt := sm_mrt mid) (c := sm_mc mid) (ini := sm_mi mid) (i := i) (pc := pc) (L := L) (st := st) (K := K) (H := H) hc
      split at h
      · cases h
      · rename_i g hg
        rw [hg] at hm
        obtain ⟨h1, h2⟩ := ih g o h
        exact ⟨Nat.le_trans hm.1 h1, Nat.le_trans hm.2 h2⟩
      · rename_i o' hg
        rw [hg] at hm
        cases h
        obtain ⟨h1, h2⟩ := hm
        rw [h1]
        exact ⟨Nat.le_refl _, Nat.le_refl _⟩
theorem mo_run {N : Nat} : ∀ (d mid : Nat) (vs : List sm_V) (K : sm_K) (H : sm_H) (o : sm_O), sm_run S N d mid vs K H = some o → K.length ≤ o.1.length ∧ sm_sz K ≤ sm_sz o.1 := by
  intro d
  induction d with
  | zero => intro mid vs K H o h; cases h
  | succ d ih =>
    intro mid vs K H o h
    unfold sm_run at h
    split at h
    · exact mo_ex (fun mid vs K H o h => ih mid vs K H o h) _ _ _ h
    · cases h
end MO
