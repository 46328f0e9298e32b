/-! WHAT IS LEFT: the claim is a claim about the small machine alone -/
/-- the law's entry in the small machine -/
def st_cfg : sm_S := (0, ([some (.inr (.inr 4)), none, none, none], ([], ([], fun _ _ => 0))))
/-- THE PURE CLAIM: on every script the small machine brings the law to its end with 1, within the room -/
def st_goal : Prop := ∀ (fmt : Bool) (L : Nat) (xs : Nat → Int32), L ≤ 3072 → ∃ (N d : Nat) (o : sm_O), d + 1 ≤ 200 ∧ sm_ex (st_S fmt L xs) (sm_run (st_S fmt L xs) N d) 270 N st_cfg = some o ∧ o.2.2 = some (.inl 1) ∧ o.1.length ≤ 60000 ∧ sm_sz o.1 ≤ 5000000
theorem st_whole (hgoal : st_goal) {p : Program} {e : Env} {s : State} {m : MethodId} {below : List Frame} {meth : Method} {c : Code} (l : Launch) {b L : Nat} {xs : Nat → Int32} (hL : L ≤ 3072) (C0 : lw_At p s m meth c b L xs) : W p l e room_1 s m #[Value.ref b] below meth c s.heap [] 0 0 (lw_Z below #[Value.ref b] s) (entryFrame m ([Value.ref b] : List Value).toArray 4) := by
  obtain ⟨fmt, ad, D, h4, hE, hR⟩ := st_env C0
  obtain ⟨hx, hb, hr, hml, hown, hts, hX, hbl, hlocks, hgv⟩ := C0
  obtain ⟨N, d, o, hd, hex, hv, hk, hz⟩ := hgoal fmt L xs hL
  have htb : ∀ w ∈ sm_tb, w.before #[Value.ref b] s = true := fun w hw => hts w (List.mem_filter.mp hw).1
  have hr270 : sm_ms[270]? = some sm_m270 := rfl
  have hrt : sm_mrt 270 = some .boolean := by decide +kernel
  have hvals : sm_vals s.heap.size ad [.inr (.inr 4)] [Value.ref b] := ⟨by
    show Value.ref b = va_rf (sm_oa s.heap.size ad 4)
    rw [sm_oa, if_neg (by omega), sm_loc, if_pos (by omega), h4]
    rfl, trivial⟩
  have hfin : ∀ (pc : Nat) (L0 : sm_L) (st : List sm_V) (i : Instr), decode sm_m270.2.1 pc = .ok (i, sm_lof i) → sm_step (st_S fmt L xs) (sm_run (st_S fmt L xs) N d) (sm_mrt 270) (sm_mc 270) (sm_mi 270) i pc L0 st o.1 o.2.1 = some (.inr o) → so_G p l e room_1 s m #[Value.ref b] below meth c (lw_Z below #[Value.ref b] s) s.heap.size ad D 4 0 0 (pc, (L0, (st, (o.1, o.2.1)))) := by
    intro pc L0 st i hdc hs
    rw [hrt] at hs
    intro Hr ls rst locs hl hst hR' hS
    cases i with
    | ireturn =>
      replace hs : sm_ret (some .boolean) st o.1 o.2.1 = some (.inr o) := hs
      unfold sm_ret at hs
      split at hs
      · rename_i hrr
        cases hrr
      · rename_i x hrr
        split at hs
        · obtain ⟨v1, r1, e1, ⟨a1, e2, h1⟩, hst1⟩ := so_cons hst
          subst e1; subst e2
          cases r1 with
          | cons _ _ => exact hst1.elim
          | nil =>
            have ho : o.2.2 = some (.inl x) := by
              have := Sum.inr.inj (Option.some.inj hs)
              rw [← this]
            have hx1 : x = 1 := by
              rw [hv] at ho
              cases ho
              rfl
            have ha1 : a1 = 1 := so_eqI.mpr (by rw [h1, hx1]; rfl)
            subst ha1
            refine va_forget (fun q hq => hS.2.2 q hq) ?_
            refine W.widen (k := room_1.cells) (n := room_1.slots) (Nat.le_trans (show o.1.length - 0 ≤ 60000 by omega) (by decide)) (Nat.le_trans (show sm_sz o.1 - 0 ≤ 5000000 by omega) (by decide)) ?_
            exact lw_ret hx hb hr hlocks hdc
        · cases hs
      · rename_i hrr
        cases hrr
      · rename_i hrr
        cases hrr
      · cases hs
    | lreturn =>
      exfalso
      unfold sm_step at hs
      simp only at hs
      cases hs
    | areturn =>
      exfalso
      unfold sm_step at hs
      simp only at hs
      cases hs
    | return_ =>
      exfalso
      unfold sm_step at hs
      simp only at hs
      cases hs
    | _ => exact (so_noret _ (by intro h; cases h) (by intro h; cases h) (by intro h; cases h) (by intro h; cases h) o hs).elim
  have hcall : ∀ mid, mid ∉ pf_no → ∀ vs K H o, sm_run (st_S fmt L xs) N d mid vs K H = some o → (K.length ≤ o.1.length ∧ sm_sz K ≤ sm_sz o.1) ∧ so_Met (st_S fmt L xs) d mid vs K H o := fun mid hn vs K H o hh => ⟨mo_run _ _ _ _ _ _ hh, so_run d mid vs K H o hn hh⟩
  have hwn : s.vm.findClass (sm_cn (sm_mc 270)) = some m.cls := hown
  have hW := so_ex (l := l) (e := e) (below := below) (D := D) (d := d) (k0 := 0) (z0 := 0) (B := s.heap.size) hr270 hx hb hml hE htb hwn (fun h => absurd h (by decide +kernel)) rfl (R := room_1) ⟨Nat.le_trans (show d + 1 ≤ 200 by omega) (by decide), Nat.le_trans (show 64 * (d + 1) ≤ 12800 by omega) (by decide)⟩ (fun mid vs K H o hh => mo_run _ _ _ _ _ _ hh) hcall ⟨Nat.le_trans (show o.1.length - 0 ≤ 60000 by omega) (by decide), Nat.le_trans (show sm_sz o.1 - 0 ≤ 5000000 by omega) (by decide)⟩ hfin N _ hex (Nat.zero_le _) (Nat.zero_le _) s.heap _ [] [] (so_enlok (xs := [.inr (.inr 4)]) (n := 4) hvals (by decide)) trivial hR va_S.rf
  rw [lg_entry_eq]
  exact hW
