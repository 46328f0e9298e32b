/-! THE SMALL MACHINE IS SOUND, 4: what was there before; fields, statics, constants -/
def sm_srs : List (Nat × (String × Nat)) := [(68, ("steps rank loud balks follows ", 8)), (120, ("cow note pace fear age left called wind home heard ", 9)), (77, ("if ", 10)), (102, ("not ", 11)), (100, ("and ", 12)), (89, ("or ", 13))]
def sm_nst (c : Nat) : List (Nat × Nat) := ((sm_cpM c).filter (fun q => q.2.1 == 3)).map (fun q => (q.1, q.2.2.1))
/-- WHAT WAS THERE before the law: int rows, statics, Strings; links that need a word of their own -/
def so_Ev (B : Nat) (ad : Nat → Nat) (S : sm_E) (s : State) : Prop :=
  (∀ (a n : Nat) (f : Int → Int), a < 5 → S a = some (n, f) → a ≠ 0 ∧ ∃ xs : Nat → Int32, va_T .int (ad a) n (fun j => .int (xs j)) (fun q => B ≤ q) s s.heap ∧ ∀ j : Nat, j < n → (xs j).toInt = f j) ∧
  va_Z "BellHerd" "LEAST_TRAIT" "[I" (.ref (ad 1)) (fun q => B ≤ q) s s.heap ∧ va_Z "BellHerd" "MOST_TRAIT" "[I" (.ref (ad 2)) (fun q => B ≤ q) s s.heap ∧ va_Z "BellHerd$Drives" "SETS_WITH" "[I" (.ref (ad 3)) (fun q => B ≤ q) s s.heap ∧
  va_Z "java/lang/String" "COMPACT_STRINGS" "Z" (.int 1) (fun q => B ≤ q) s s.heap ∧
  va_Z "jdk/internal/util/Preconditions" "SIOOBE_FORMATTER" "Ljava/util/function/BiFunction;" (va_rf (sm_oa B ad (if (S 5).isSome then 5 else 0))) (fun q => B ≤ q) s s.heap ∧
  vk_S 6 (sm_str.map List.length) (sm_str.map (fun l => l.map Int32.ofInt)) (fun i => ad (8 + i)) (fun i => ad (16 + i)) (fun q => B ≤ q) s s.heap ∧
  (∀ q ∈ sm_srs, vk_R "BellHerd$Reader" q.1 q.2.1 (ad q.2.2) s) ∧
  (∀ q ∈ sm_nst 9, va_Nw (.methodLinkNest "BellHerd" q.1 (sm_mn q.2) "BellHerd") s) ∧
  va_Nw (.castable "[I" "java/lang/Cloneable") s ∧ va_AO "BellHerd$Law" s ∧ va_AO "BellHerd$Herd" s
theorem so_Ev.go {B : Nat} {ad : Nat → Nat} {S : sm_E} {s U : State} (h : so_Ev B ad S s) (hW : s.WarmedH U.vm) (hq : ∀ q : Nat, q < s.heap.size → ¬ B ≤ q → U.heap[q]? = s.heap[q]?) : so_Ev B ad S U := by
  obtain ⟨h1, h2, h3, h4, h5, h6, h7, h8, h9, h10, h11, h12⟩ := h
  refine ⟨fun a n f ha hs => ?_, (h2.kept hq).moved hW.alike, (h3.kept hq).moved hW.alike, (h4.kept hq).moved hW.alike, (h5.kept hq).moved hW.alike, (h6.kept hq).moved hW.alike, (h7.kept hq).moved hW.alike, fun q hm => (h8 q hm).warm hW, fun q hm => (h9 q hm).warmM hW, h10.warmC hW, h11.moved hW.alike, h12.moved hW.alike⟩
  obtain ⟨g0, xs, g1, g2⟩ := h1 a n f ha hs
  exact ⟨g0, xs, (g1.kept hq).moved hW.alike, g2⟩
theorem so_Ev.calling {B : Nat} {ad : Nat → Nat} {S : sm_E} {U : State} (h : so_Ev B ad S U) (g : JFrame) (mk : MethodId) (a : Array Value) : so_Ev B ad S (U.calling g mk a) := by
  obtain ⟨h1, h2, h3, h4, h5, h6, h7, h8, h9, h10, h11, h12⟩ := h
  have hA : U.vm.Alike (U.calling g mk a).vm := Vm.Alike.refl U.vm
  refine ⟨fun a n f ha hs => ?_, h2.moved hA, h3.moved hA, h4.moved hA, h5.moved hA, h6.moved hA, h7.moved hA, fun q hm => (h8 q hm).same rfl, fun q hm => (h9 q hm).same rfl rfl, h10.same rfl rfl, h11.moved hA, h12.moved hA⟩
  obtain ⟨g0, xs, g1, g2⟩ := h1 a n f ha hs
  exact ⟨g0, xs, g1.moved hA, g2⟩
theorem so_R.go {B : Nat} {ad : Nat → Nat} {D : va_G} {s U : State} {K : sm_K} {H : sm_H} {Hr : Heap} (h : so_R B ad D s K H Hr) (hA : s.vm.Alike U.vm) : so_R B ad D U K H Hr := by
  obtain ⟨ws, tys, h1, h2⟩ := h
  exact ⟨ws, tys, h1.moved hA, h2⟩
section SO4
variable {p : Program} {l : Launch} {e : Env} {R : Room} {s : State} {m : MethodId} {args : Array Value} {below : List Frame} {meth : Method} {c : Code} {Q : State → Prop} {B : Nat} {ad : Nat → Nat} {D : va_G} {nL k0 z0 : Nat}
variable {cc : ByteArray} {pc : Nat} {L : sm_L} {st : List sm_V} {K : sm_K} {H : sm_H} {cfg : sm_S} {S : sm_E} {cno : Nat}
theorem so_ald5 (hx : p.tables.exec = Jvm.exec) (hb : c.code = cc) (hE : so_Ev B ad S s) (hd : decode cc pc = .ok (.iaload, 1))
    (hs : sm_ald (sm_ai S K H) sm_I pc L st K H = some (.inl cfg)) (k : so_G p l e R s m args below meth c Q B ad D nL k0 z0 cfg) : so_G p l e R s m args below meth c Q B ad D nL k0 z0 (pc, (L, (st, (K, H)))) := by
  have hs0 := hs
  unfold sm_ald at hs
  split at hs
  · rename_i i a r
    by_cases ha : a < 5
    · simp only [sm_ai, if_pos ha] at hs
      split at hs
      · rename_i n f hf
        split at hs
        · rename_i hi
          cases so_nx hs
          intro Hr ls rst locs hl hst0 hR hS
          obtain ⟨v1, r1, e1, ⟨a1, rfl, h1⟩, hst1⟩ := so_cons hst0
          obtain ⟨v2, r2, e2, h2, hst⟩ := so_cons hst1
          subst e1; subst e2; subst h1
          obtain ⟨hz, xs, g1, g2⟩ := hE.1 a n f ha hf
          have h2 : v2 = va_rf (sm_oa B ad a) := h2
          rw [sm_oa, if_neg hz, sm_loc, if_pos (by omega)] at h2
          subst h2
          refine va_ti (v := .int (xs a1.toNatClampNeg)) hx hb g1 hS (so_in hi) rfl hd ?_
          refine k Hr ls _ locs hl ⟨⟨_, rfl, ?_⟩, hst⟩ hR hS
          rw [g2 _ (so_natlt hi), so_nat hi.1]
        · cases hs
      · cases hs
    · refine so_ialdM hx hb hd ?_ k
      simp only [sm_ald, sm_ai, if_neg ha] at hs0
      simp only [sm_ald]
      exact hs0
  · cases hs
theorem so_len (hx : p.tables.exec = Jvm.exec) (hb : c.code = cc) (hE : so_Ev B ad S s) (hd : decode cc pc = .ok (.arraylength, 1))
    (hs : (match st with
    | .inr (.inr a) :: r => match sm_len S K a with
      | some n => if n < 2147483648 then sm_nx (pc + 1) L (.inl (n : Int) :: r) K H else none
      | none => none
    | _ => none) = some (.inl cfg)) (k : so_G p l e R s m args below meth c Q B ad D nL k0 z0 cfg) : so_G p l e R s m args below meth c Q B ad D nL k0 z0 (pc, (L, (st, (K, H)))) := by
  split at hs
  · rename_i a r
    split at hs
    · rename_i n hn
      split at hs
      · rename_i hlt
        cases so_nx hs
        intro Hr ls rst locs hl hst0 hR hS
        obtain ⟨v1, r1, e1, h1, hst⟩ := so_cons hst0
        subst e1
        have h1 : v1 = va_rf (sm_oa B ad a) := h1
        have hval : sm_val B ad (.inl (n : Int)) (.int (Int32.ofNat n)) := ⟨_, rfl, by
          exact Int32.toInt_ofNat_of_lt (by omega)⟩
        have kk := k Hr ls (.int (Int32.ofNat n) :: r1) locs hl ⟨hval, hst⟩ hR hS
        unfold sm_len at hn
        split at hn
        · rename_i ha
          cases hS5 : S a with
          | none => rw [hS5] at hn; cases hn
          | some q =>
            obtain ⟨n', f⟩ := q
            rw [hS5] at hn
            cases hn
            obtain ⟨hz, xs, g1, g2⟩ := hE.1 a n' f ha hS5
            rw [sm_oa, if_neg hz, sm_loc, if_pos (by omega)] at h1
            subst h1
            exact va_tlen hx hb g1 hS rfl hd kk
        · split at hn
          · cases hn
          · split at hn
            · rename_i h5 h16 h22
              cases hsl : sm_str[a - 16]? with
              | none => rw [hsl] at hn; cases hn
              | some ll =>
                rw [hsl] at hn
                cases hn
                have hi6 : a - 16 < 6 := by omega
                have g := (hE.2.2.2.2.2.2.1.1 (a - 16) hi6).2.2.2
                rw [sm_oa, if_neg (by omega), sm_loc, if_pos (by omega)] at h1
                subst h1
                have e1 : ad (16 + (a - 16)) = ad a := by rw [show 16 + (a - 16) = a by omega]
                have e2 : (sm_str.map List.length).getD (a - 16) 0 = ll.length := by
                  rw [List.getD_eq_getElem?_getD, List.getElem?_map, hsl]; rfl
                simp only [e1, e2] at g
                exact va_tlen hx hb g hS rfl hd kk
            · split at hn
              · rename_i kk' n' fins hk
                split at hn
                · rename_i hk20
                  cases hn
                  rw [so_oaN (so_kd hk).1] at h1
                  subst h1
                  obtain ⟨ws, tys, qK, qP, qD, ql, qc⟩ := hR
                  obtain ⟨e', q1, q2⟩ := so_R.cell qc hk
                  obtain ⟨cA, t0, x, ty, rfl, hxn, q3⟩ := so_cell.arr hk20 q2
                  exact va_alen hx hb qK qP (a - 32) t0 q1 q3 (by rw [hxn]) hd kk
                · cases hn
              · cases hn
      · cases hs
    · cases hs
  · cases hs
theorem so_bald (hx : p.tables.exec = Jvm.exec) (hb : c.code = cc) (hE : so_Ev B ad S s) (hd : decode cc pc = .ok (.baload, 1))
    (hs : (match st with
    | .inl i :: .inr (.inr a) :: r => if a < 32 then (match sm_str[a - 16]? with
        | some l => if 16 ≤ a ∧ 0 ≤ i ∧ i < l.length then sm_nx (pc + 1) L (.inl (l.getD i.toNat 0) :: r) K H else none
        | none => none) else sm_ald (sm_ar K H 22) sm_I pc L st K H
    | _ => none) = some (.inl cfg)) (k : so_G p l e R s m args below meth c Q B ad D nL k0 z0 cfg) : so_G p l e R s m args below meth c Q B ad D nL k0 z0 (pc, (L, (st, (K, H)))) := by
  split at hs
  · rename_i i a r
    split at hs
    · split at hs
      · rename_i h32 _ ll hll
        split at hs
        · rename_i hi
          cases so_nx hs
          intro Hr ls rst locs hl hst0 hR hS
          obtain ⟨v1, r1, e1, ⟨a1, rfl, h1⟩, hst1⟩ := so_cons hst0
          obtain ⟨v2, r2, e2, h2, hst⟩ := so_cons hst1
          subst e1; subst e2; subst h1
          have h2 : v2 = va_rf (sm_oa B ad a) := h2
          rw [sm_oa, if_neg (by omega), sm_loc, if_pos h32] at h2
          subst h2
          have hi6 : a - 16 < 6 := by
            have := (List.getElem?_eq_some_iff.mp hll).1
            have h6 : sm_str.length = 6 := rfl
            omega
          have g := (hE.2.2.2.2.2.2.1.1 (a - 16) hi6).2.2.2
          have e1 : ad (16 + (a - 16)) = ad a := by rw [show 16 + (a - 16) = a by omega]
          have e2 : (sm_str.map List.length).getD (a - 16) 0 = ll.length := by
            rw [List.getD_eq_getElem?_getD, List.getElem?_map, hll]; rfl
          have e3 : (sm_str.map (fun l => l.map Int32.ofInt)).getD (a - 16) [] = ll.map Int32.ofInt := by
            rw [List.getD_eq_getElem?_getD, List.getElem?_map, hll]; rfl
          simp only [e1, e2, e3] at g
          refine va_tb hx hb g hS (so_in hi.2) rfl hd ?_
          refine k Hr ls _ locs hl ⟨⟨_, rfl, ?_⟩, hst⟩ hR hS
          have hlt := so_natlt hi.2
          have hn : a1.toNatClampNeg = a1.toInt.toNat := rfl
          have hall : ∀ l ∈ sm_str, ∀ x ∈ l, (Int32.ofInt x).toInt = x := by decide +kernel
          rw [List.getD_eq_getElem?_getD, List.getElem?_map, hn, List.getD_eq_getElem?_getD]
          rw [hn] at hlt
          rw [List.getElem?_eq_getElem hlt]
          exact hall ll (List.mem_of_getElem? hll) _ (List.getElem_mem hlt)
        · cases hs
      · cases hs
    · exact so_zaldM hx hb hd hs k
  · cases hs
theorem so_clx {ci : Nat} (h : ci < 11) : ∃ r : vw_C, sm_cl[ci]? = some r := by
  have hl : sm_cl.length = 11 := rfl
  exact ⟨_, List.getElem?_eq_getElem (by rw [hl]; exact h)⟩
theorem so_fw {q : Nat × (Nat × Nat)} {r : vw_C} (hr : sm_cl[q.2.1]? = some r) : sm_fw cno q = .fieldLink (sm_cn cno) q.1 (r.2.1 q.2.2).1 (r.2.1 q.2.2).2.1 (r.2.1 q.2.2).2.2.1 := by
  unfold sm_fw
  rw [hr]
theorem so_getf (hx : p.tables.exec = Jvm.exec) (hb : c.code = cc) (hE : so_Ev B ad S s) (hts : ∀ w ∈ sm_tb, w.before args s = true) (hown : s.vm.findClass (sm_cn cno) = some m.cls) {idx : Nat} (hd : decode cc pc = .ok (.getfield idx, 3))
    (hs : sm_getf cno idx pc L st K H = some (.inl cfg)) (k : so_G p l e R s m args below meth c Q B ad D nL k0 z0 cfg) : so_G p l e R s m args below meth c Q B ad D nL k0 z0 (pc, (L, (st, (K, H)))) := by
  unfold sm_getf at hs
  split at hs
  · rename_i a r
    split at hs
    · rename_i h32
      split at hs
      · rename_i hc
        have hown15 : s.vm.findClass "java/lang/String" = some m.cls := by
          rw [hc.2.2] at hown
          exact hown
        have hi6 : a - 8 < 6 := by omega
        have g := hE.2.2.2.2.2.2.1.1 (a - 8) hi6
        have e1 : ad (8 + (a - 8)) = ad a := by rw [show 8 + (a - 8) = a by omega]
        have e2 : ad (16 + (a - 8)) = ad (a + 8) := by rw [show 16 + (a - 8) = a + 8 by omega]
        simp only [e1, e2] at g
        split at hs
        · rename_i hidx
          subst hidx
          cases so_nx hs
          intro Hr ls rst locs hl hst0 hR hS
          obtain ⟨v1, r1, e1, h1, hst⟩ := so_cons hst0
          subst e1
          have h1 : v1 = va_rf (sm_oa B ad a) := h1
          rw [sm_oa, if_neg (by omega), sm_loc, if_pos h32] at h1
          subst h1
          refine vk_getf hx hb g.2.2.1 hS hown15 (hts _ pf_s6) (fun x h => h) hd ?_
          refine k Hr ls _ locs hl ⟨?_, hst⟩ hR hS
          show Value.ref _ = va_rf _
          rw [sm_oa, if_neg (by omega), sm_loc, if_pos (by omega)]
          rfl
        · split at hs
          · rename_i hidx
            subst hidx
            cases so_nx hs
            intro Hr ls rst locs hl hst0 hR hS
            obtain ⟨v1, r1, e1, h1, hst⟩ := so_cons hst0
            subst e1
            have h1 : v1 = va_rf (sm_oa B ad a) := h1
            rw [sm_oa, if_neg (by omega), sm_loc, if_pos h32] at h1
            subst h1
            refine vk_getf hx hb g.2.1 hS hown15 (hts _ pf_s7) (fun x h => h) hd ?_
            exact k Hr ls _ locs hl ⟨⟨0, rfl, rfl⟩, hst⟩ hR hS
          · cases hs
      · cases hs
    · split at hs
      · rename_i ci kf hlk
        split at hs
        · rename_i kd n fins hk
          split at hs
          · rename_i hkd
            subst hkd
            split at hs
            · rename_i v hv
              cases so_nx hs
              intro Hr ls rst locs hl hst0 hR hS
              obtain ⟨v1, r1, e1, h1, hst⟩ := so_cons hst0
              subst e1
              cases so_valA h1 (so_kd hk).1
              have hm := pf_lookup hlk
              obtain ⟨h11, hkf⟩ := pf_Fb cno _ hm
              obtain ⟨rc, hrc⟩ := so_clx h11
              have hw : sm_fw cno (idx, (kd, kf)) ∈ sm_tb := pf_F cno _ (List.mem_map_of_mem hm)
              rw [so_fw hrc] at hw
              obtain ⟨c1, c2, c3, c4, c5, c6, c7, c8, c9⟩ := pf_cls kd rc hrc
              have hR0 := hR
              obtain ⟨ws, tys, qK, qP, qD, ql, qc⟩ := hR0
              obtain ⟨e', q1, q2⟩ := so_R.cell qc hk
              obtain ⟨fs, rfl, f1, f2, f3, f4⟩ := so_cell.obj h11 q2
              obtain ⟨v', x, g1, g2, g3⟩ := f4 kf hkf
              cases hv.symm.trans g2
              refine va_get (C := rc.1) (T := rc.2.1) (N := rc.2.2) hx hb hts c4 hown qK qP (a - 32) q1 hrc kf (by rw [c2]; exact hkf) (hts _ hw) (fun x h => h) g1 hd ?_
              exact k Hr ls _ locs hl ⟨g3, hst⟩ hR hS
            · cases hs
          · cases hs
        · cases hs
      · cases hs
  · cases hs
end SO4
