/-! THE SMALL MACHINE IS SOUND, 8: calls -/
def so_rv (B : Nat) (ad : Nat → Nat) (v : Option sm_V) (rv : Option Value) : Prop := match v, rv with
  | none, none => True
  | some x, some w => sm_val B ad x w
  | _, _ => False
def so_Pc (B : Nat) (ad : Nat → Nat) (D : va_G) (S : sm_E) (vs : List sm_V) (K : sm_K) (H : sm_H) (av : Array Value) (U : State) : Prop := ∃ vals : List Value, av = vals.toArray ∧ sm_vals B ad vs vals ∧ U.heap.size = B + K.length ∧ so_Ev B ad S U ∧ so_R B ad D U K H U.heap
def so_Qc (B : Nat) (ad : Nat → Nat) (D : va_G) (K : sm_K) (H : sm_H) (v : Option sm_V) (_ : Array Value) (st : State) (oc : Outcome) (t : State) : Prop := ∃ rv : Option Value, oc = .returned rv ∧ so_rv B ad v rv ∧ so_R B ad D t K H t.heap ∧ va_F (fun q => B ≤ q) st t
def so_rm (d : Nat) (K K' : sm_K) : Room := { frames := d, cells := K'.length - K.length, slots := sm_sz K' - sm_sz K, locals := 64 * d }
/-- WHAT A RUN OF THE SMALL MACHINE SAYS of the machine -/
def so_Met (S : sm_E) (d mid : Nat) (vs : List sm_V) (K : sm_K) (H : sm_H) (o : sm_O) : Prop := ∀ (r : sm_M), sm_ms[mid]? = some r → ∀ (l : Launch) (B : Nat) (ad : Nat → Nat) (D : va_G),
  Met l r.1 (sm_cw r :: sm_tb) (so_rm d K o.1) (so_Pc B ad D S vs K H) (so_Qc B ad D o.1 o.2.1 o.2.2) (o.1.length - K.length) (sm_sz o.1 - sm_sz K) (fun q => B ≤ q)
theorem so_blind {B : Nat} {ad : Nat → Nat} {D : va_G} {S : sm_E} {vs : List sm_V} {K : sm_K} {H : sm_H} : FrameBlind (so_Pc B ad D S vs K H) := by
  intro a U g mk h
  obtain ⟨vals, h1, h2, h3, h4, h5⟩ := h
  exact ⟨vals, h1, h2, h3, h4.calling g mk a, so_R.go (s := U) h5 (Vm.Alike.refl U.vm)⟩
theorem so_good {r : sm_M} (h : sm_cw r ∈ sm_tb) : GoodIn sm_tb (sm_cw r :: sm_tb) := by
  have h0 : ∀ w ∈ sm_tb, goodWord w = true := fun w hw => (List.mem_filter.mp hw).2
  intro w hw
  rcases List.mem_cons.mp hw with rfl | hw
  · exact ⟨h, good_of_word (h0 _ h)⟩
  · exact ⟨hw, good_of_word (h0 _ hw)⟩
section SO8
variable {p : Program} {l : Launch} {e : Env} {R : Room} {s : State} {m : MethodId} {args : Array Value} {below : List Frame} {meth : Method} {c : Code} {Q : State → Prop} {B : Nat} {ad : Nat → Nat} {D : va_G} {nL k0 z0 : Nat}
variable {cc : ByteArray} {pc : Nat} {L : sm_L} {st : List sm_V} {K : sm_K} {H : sm_H} {cfg : sm_S} {S : sm_E} {cno ini : Nat}
theorem so_after {Hr : Heap} {locs : List Loc} {cells slots mc ms : Nat} {ls : Array Slot} {rst rest : List Value} {av : Array Value} {K' : sm_K} {H' : sm_H} {v : Option sm_V}
    (hr : va_Run p l e R s m args below meth c Hr locs cells slots mc ms (F0 m pc ls rst) rest (so_Qc B ad D K' H' v av) (fun q => B ≤ q)) (hS : va_S (fun q => B ≤ q) s.heap Hr locs)
    (kk : ∀ (rv : Option Value) (H1 : Heap) (locs1 : List Loc), so_rv B ad v rv → so_R B ad D s K' H' H1 → va_S (fun q => B ≤ q) s.heap H1 locs1 → W p l e R s m args below meth c H1 locs1 (cells + mc) (slots + ms) Q (F0 m (pc + 3) ls (rv.toList ++ rest))) : W p l e R s m args below meth c Hr locs cells slots Q (F0 m pc ls rst) := by
  intro T hT X
  obtain ⟨v0, st₀, t, T', L0, h0, X', hL, e1, e2, ⟨rv, hv, hp, hb, hz, hk⟩, st⟩ := hr T hT X
  cases hv
  have hA : t.vm.Alike s.vm := by rw [← e2]; exact X'.warmed.alike.symm
  obtain ⟨t', a1, b1⟩ := kk v0 T'.heap (locs ++ L0) hp (by rw [e1]; exact so_R.go hb hA) ⟨by
      rw [e1]; rw [h0] at hz; exact Nat.le_trans hS.1 hz, fun q h1 h2 => by
      rw [e1]
      rw [h0] at hk
      rw [hk q (Nat.lt_of_lt_of_le h1 hS.1) h2]
      exact hS.2.1 q h1 h2, fun q hq => by
      rcases List.mem_append.mp hq with h | h
      · exact hS.2.2 q h
      · exact hL q h⟩ T' rfl X'
  exact ⟨t', st _ a1, b1⟩
/-- the callee's start, at the call -/
theorem so_start {Hr : Heap} {locs : List Loc} {vs : List sm_V} {vals : List Value} (hE : so_Ev B ad S s) (hv : sm_vals B ad vs vals) (hR : so_R B ad D s K H Hr) (hS : va_S (fun q => B ≤ q) s.heap Hr locs) (hz : Hr.size = B + K.length) : ∀ U : State, U.heap = Hr → s.WarmedH U.vm → so_Pc B ad D S vs K H vals.toArray U := by
  intro U hU hW
  refine ⟨vals, rfl, hv, by rw [hU]; exact hz, hE.go hW (fun q h1 h2 => by rw [hU]; exact hS.2.1 q h1 h2), ?_⟩
  rw [hU]
  exact so_R.go hR hW.alike
theorem so_rvl {v : Option sm_V} {rv : Option Value} {xs : List sm_V} {vs : List Value} (h : so_rv B ad v rv) (h2 : sm_vals B ad xs vs) : sm_vals B ad (v.toList ++ xs) (rv.toList ++ vs) := by
  cases v with
  | none => cases rv with
    | none => exact h2
    | some w => exact h.elim
  | some x => cases rv with
    | none => exact h.elim
    | some w => exact ⟨h, h2⟩
/-- ALL CALLS of methods of ours: run gives the call's row out of the callee's contract -/
theorem so_call {call : Nat → List sm_V → sm_K → sm_H → Option sm_O} {mid n d : Nat} (hcall : ∀ vs K H o, call mid vs K H = some o → (K.length ≤ o.1.length ∧ sm_sz K ≤ sm_sz o.1) ∧ so_Met S d mid vs K H o) (hE : so_Ev B ad S s) (hsz : s.heap.size = B + k0) (hk0 : k0 ≤ K.length) (hz0 : z0 ≤ sm_sz K)
    (run : ∀ {Hr : Heap} {ls : Array Slot} {rst : List Value} {locs : List Loc} {o : sm_O}, ls.size = nL → so_Met S d mid (st.take n).reverse K H o → sm_vals B ad st rst → ((rst.drop n).map fun v => v.category).sum ≤ 8 → n ≤ rst.length → so_R B ad D s K H Hr → va_S (fun q => B ≤ q) s.heap Hr locs → (∀ U : State, U.heap = Hr → s.WarmedH U.vm → so_Pc B ad D S (st.take n).reverse K H (rst.take n).reverse.toArray U) → (K.length - k0) + (o.1.length - K.length) ≤ R.cells ∧ (sm_sz K - z0) + (sm_sz o.1 - sm_sz K) ≤ R.slots →
      ∃ av, va_Run p l e R s m args below meth c Hr locs (K.length - k0) (sm_sz K - z0) (o.1.length - K.length) (sm_sz o.1 - sm_sz K) (F0 m pc ls rst) (rst.drop n) (so_Qc B ad D o.1 o.2.1 o.2.2 av) (fun q => B ≤ q))
    (hs : sm_call call mid n pc L st K H = some (.inl cfg)) (hrm : cfg.2.2.2.1.length - k0 ≤ R.cells ∧ sm_sz cfg.2.2.2.1 - z0 ≤ R.slots) (k : so_G p l e R s m args below meth c Q B ad D nL k0 z0 cfg) : so_G p l e R s m args below meth c Q B ad D nL k0 z0 (pc, (L, (st, (K, H)))) := by
  unfold sm_call at hs
  split at hs
  · rename_i hc
    split at hs
    · rename_i K' H' v ho
      cases so_nx hs
      obtain ⟨⟨hm1, hm2⟩, hmet⟩ := hcall _ _ _ _ ho
      simp only at hm1 hm2 hrm
      intro Hr ls rst locs hl hst hR hS
      show W p l e R s m args below meth c Hr locs (K.length - k0) (sm_sz K - z0) Q (F0 m pc ls rst)
      refine so_sz hsz fun hle => ?_
      have hz : Hr.size = B + K.length := by
        obtain ⟨ws, tys, qK, qP, qD, ql, qc⟩ := id hR
        have : B + K.length ≤ Hr.size := so_ge qP qc hS hsz hk0
        omega
      have hsp := so_vals_split (n := n) hst
      obtain ⟨av, hr⟩ := run hl.2.1 hmet hst (by rw [so_cats hsp.2]; exact hc.2) (by rw [so_vals_len hst]; exact hc.1) hR hS (so_start hE (so_vals_rev hsp.1) hR hS hz) ⟨by simp only; omega, by simp only; omega⟩
      refine so_after hr hS fun rv H1 locs1 h1 h2 h3 => ?_
      refine W.cs (cells' := K'.length - k0) (slots' := sm_sz K' - z0) (by simp only; omega) (by simp only; omega) ?_
      exact k H1 ls _ locs1 hl (so_rvl h1 hsp.2) h2 h3
    · cases hs
  · cases hs
end SO8
