/-! shortest drives: what they come to -/
/-- the ahead and ways of a stand, as they must be -/
def dst (E : Int → Int → Int) (n : Nat) (gl : Int → Bool) (s : Int) : Option Nat := (List.range 46).find? (fun j => decide (0 < pn E n gl j s))
def ahv (E : Int → Int → Int) (n : Nat) (gl : Int → Bool) (s : Int) : Int := match dst E n gl s with
  | some j => (j : Int) + 1
  | none => 47
def wyv (E : Int → Int → Int) (n : Nat) (gl : Int → Bool) (s : Int) : Int := match dst E n gl s with
  | some j => sat (pn E n gl j s)
  | none => 0
/-- the first of k numbers from c on of which p holds; -1: none -/
def lwf (p : Int → Bool) : Nat → Int → Int
  | 0, _ => -1
  | k + 1, c => if p c = true then c else lwf p k (c + 1)
def fcp (E : Int → Int → Int) (n : Nat) (gl : Int → Bool) (s c : Int) : Bool := decide (E s c ≠ -1 ∧ ahv E n gl (E s c) = ahv E n gl s - 1)
def fcw (E : Int → Int → Int) (n : Nat) (gl : Int → Bool) (s : Int) : Int := lwf (fcp E n gl s) n 0
def pst (E : Int → Int → Int) (n : Nat) (gl : Int → Bool) (bg : Int) : Nat → Int
  | 0 => bg
  | i + 1 => E (pst E n gl bg i) (fcw E n gl (pst E n gl bg i))
section VALUES
variable {E : Int → Int → Int} {n : Nat} {gl : Int → Bool} {lf : Int → Nat} {R : Int → Prop}
theorem lwf_i {p : Int → Bool} : ∀ (k : Nat) (c : Int), 0 ≤ c → (lwf p k c = -1 ∧ ∀ i : Int, c ≤ i → i < c + k → p i = false) ∨ (c ≤ lwf p k c ∧ lwf p k c < c + k ∧ p (lwf p k c) = true ∧ ∀ i : Int, c ≤ i → i < lwf p k c → p i = false)
  | 0, c, _ => Or.inl ⟨rfl, fun i h1 h2 => by omega⟩
  | k + 1, c, h0 => by
    unfold lwf
    by_cases h : p c = true
    · rw [if_pos h]
      exact Or.inr ⟨by omega, by omega, h, fun i h1 h2 => by omega⟩
    · rw [if_neg h]
      rcases lwf_i (p := p) k (c + 1) (by omega) with ⟨h1, h2⟩ | ⟨h1, h2, h3, h4⟩
      · refine Or.inl ⟨h1, fun i i0 i1 => ?_⟩
        by_cases hi : i = c
        · subst hi; simpa using h
        · exact h2 i (by omega) (by omega)
      · refine Or.inr ⟨by omega, by omega, h3, fun i i0 i1 => ?_⟩
        by_cases hi : i = c
        · subst hi; simpa using h
        · exact h4 i (by omega) i1
/-- a walk keeps to what is there, and is no longer than what is left -/
theorem wlk_R (hR : ∀ s c : Int, R s → E s c ≠ -1 → R (E s c) ∧ lf (E s c) < lf s) : ∀ (j : Nat) (s t : Int), R s → t ∈ wlk E n j s → R t ∧ j + lf t ≤ lf s
  | 0, s, t, hs, h => by
    simp only [wlk, List.mem_singleton] at h
    rw [h]; exact ⟨hs, by omega⟩
  | j + 1, s, t, hs, h => by
    simp only [wlk, List.mem_flatMap] at h
    obtain ⟨u, h1, h2⟩ := h
    obtain ⟨c, c1, c2, c3⟩ := (scn_mem n).mp h1
    have := hR s c hs (by rw [c2]; exact c3)
    rw [c2] at this
    have h3 := wlk_R hR j u t this.1 h2
    exact ⟨h3.1, by omega⟩
theorem pn_R (hR : ∀ s c : Int, R s → E s c ≠ -1 → R (E s c) ∧ lf (E s c) < lf s) {j : Nat} {s : Int} (hs : R s) (h : 0 < pn E n gl j s) : j ≤ lf s := by
  obtain ⟨t, h1, -⟩ := pn_pos.mp h
  have := wlk_R hR j s t hs h1
  omega
theorem dst_spec {s : Int} (hb : ∀ j, 0 < pn E n gl j s → j ≤ 45) : isV (fun j => pn E n gl j s) (ahv E n gl s, wyv E n gl s) := by
  unfold ahv wyv
  cases hd : dst E n gl s with
  | none =>
    refine Or.inl ⟨rfl, fun j => ?_⟩
    unfold dst at hd
    rw [List.find?_eq_none] at hd
    refine Classical.byContradiction (fun h => ?_)
    have hp : 0 < pn E n gl j s := Nat.pos_of_ne_zero h
    have := hb j hp
    exact hd j (List.mem_range.mpr (by omega)) (decide_eq_true hp)
  | some j =>
    unfold dst at hd
    rw [List.find?_range_eq_some] at hd
    obtain ⟨h1, h2, h3⟩ := hd
    rw [decide_eq_true_iff] at h1
    refine Or.inr ⟨j, by rw [List.mem_range] at h2; omega, h1, fun i hi => ?_, rfl⟩
    have := h3 i hi
    simpa using this
theorem ahv_u {s : Int} {z : Int × Int} (hb : ∀ j, 0 < pn E n gl j s → j ≤ 45) (h : isV (fun j => pn E n gl j s) z) : z = (ahv E n gl s, wyv E n gl s) := h.u (dst_spec hb)
/-- one that needs a call has one by which it is nearer -/
theorem ahv_next {s : Int} (hb : ∀ j t, (t = s ∨ ∃ c : Nat, c < n ∧ E s c = t ∧ t ≠ -1) → 0 < pn E n gl j t → j ≤ 45) (h : ahv E n gl s ≠ 47) (h1 : 1 < ahv E n gl s) : 0 ≤ fcw E n gl s ∧ fcw E n gl s < n ∧ E s (fcw E n gl s) ≠ -1 ∧ ahv E n gl (E s (fcw E n gl s)) = ahv E n gl s - 1 := by
  have hex : ∃ c : Int, 0 ≤ c ∧ c < n ∧ fcp E n gl s c = true := by
    rcases dst_spec (fun j => hb j s (Or.inl rfl)) with ⟨hz, -⟩ | ⟨j, j1, j2, j3, hz⟩
    · exact absurd (congrArg Prod.fst hz) h
    · have hz1 : ahv E n gl s = (j : Int) + 1 := congrArg Prod.fst hz
      cases j with
      | zero => omega
      | succ j =>
        simp only at j2 j3
        unfold pn wlk at j2
        rw [List.countP_pos_iff] at j2
        obtain ⟨t, t1, t2⟩ := j2
        rw [List.mem_flatMap] at t1
        obtain ⟨u, u1, u2⟩ := t1
        obtain ⟨c, c1, c2, c3⟩ := (scn_mem n).mp u1
        refine ⟨c, by omega, by omega, ?_⟩
        unfold fcp
        rw [decide_eq_true_iff]
        refine ⟨by rw [c2]; exact c3, ?_⟩
        rw [c2, hz1]
        rcases dst_spec (fun j => hb j u (Or.inr ⟨c, c1, c2, c3⟩)) with ⟨hv, hno⟩ | ⟨i, i1, i2, i3, hv⟩
        · have : pn E n gl j u = 0 := hno j
          have hp : 0 < pn E n gl j u := pn_pos.mpr ⟨t, u2, t2⟩
          omega
        · have hv1 : ahv E n gl u = (i : Int) + 1 := congrArg Prod.fst hv
          have hle : i ≤ j := by
            rcases Nat.lt_or_ge j i with hlt | hge
            · have : pn E n gl j u = 0 := i3 j hlt
              have hp : 0 < pn E n gl j u := pn_pos.mpr ⟨t, u2, t2⟩
              omega
            · exact hge
          have hge : j ≤ i := by
            rcases Nat.lt_or_ge i j with hlt | hge
            · have hz0 : pn E n gl (i + 1) s = 0 := j3 (i + 1) (by omega)
              have hp : 0 < pn E n gl (i + 1) s := by
                obtain ⟨v, v1, v2⟩ := pn_pos.mp i2
                refine pn_pos.mpr ⟨v, ?_, v2⟩
                show v ∈ (scn E s n).flatMap (wlk E n i)
                exact List.mem_flatMap.mpr ⟨u, u1, v1⟩
              omega
            · exact hge
          rw [hv1]
          omega
  obtain ⟨c, c0, c1, c2⟩ := hex
  rcases lwf_i (p := fcp E n gl s) n 0 (by omega) with ⟨-, h2⟩ | ⟨h2, h3, h4, -⟩
  · rw [h2 c c0 (by omega)] at c2; simp at c2
  · have h4' := h4
    unfold fcp at h4'
    rw [decide_eq_true_iff] at h4'
    exact ⟨h2, by show lwf _ _ _ < _; omega, h4'.1, h4'.2⟩
end VALUES
section VALUES2
variable {r : Int → Int} {tw : Int → (Int → Int) → Option Int}
theorem Em_R (hl : lnk r (r 0).toNat) {m : Int} : ∀ s c : Int, (0 ≤ s ∧ s < sd r (r 0).toNat) → Em r tw m s c ≠ -1 → (0 ≤ Em r tw m s c ∧ Em r tw m s c < sd r (r 0).toNat) ∧ lfs r (Em r tw m s c) < lfs r s := fun s c hs h => ⟨(Em_b hl).resolve_left h, Em_lf hl hs h⟩
theorem lfs_b (hl : lnk r (r 0).toNat) (h5 : r 0 ≤ 5) {s : Int} : lfs r s ≤ 45 := by
  have := lsu_b (w := st r s) (r 0).toNat (fun c hc => by
    have h1 := wok_nat (st_wok hl (s := s)) c hc
    have h2 := hl c hc
    omega)
  unfold lfs
  omega
theorem pn_45 (hl : lnk r (r 0).toNat) (h5 : r 0 ≤ 5) {m : Int} {gl : Int → Bool} {s : Int} (hs : 0 ≤ s ∧ s < sd r (r 0).toNat) {j : Nat} (h : 0 < pn (Em r tw m) (r 0).toNat gl j s) : j ≤ 45 := by
  have h1 := pn_R (R := fun s => 0 ≤ s ∧ s < sd r (r 0).toNat) (lf := lfs r) (Em_R hl) hs h
  have h2 := lfs_b hl h5 (s := s)
  omega
/-- the values without any gaps guarded -/
def VP0 (r : Int → Int) (tw : Int → (Int → Int) → Option Int) (s : Int) (k : Nat) (z : Int × Int) : Prop := isV (pk (Em r tw 0) (r 0).toNat (gol r) s k) z
theorem VP0_ok (hl : lnk r (r 0).toNat) (h5 : r 0 ≤ 5) : VPok r tw 0 (VP0 r tw) := by
  refine ⟨fun s s0 s1 => ?_, fun s k z hk hE hV => ?_, fun s k z v s0 s1 hk hE hV hC => ?_, fun s k z hV => ?_⟩
  · have := isV.ini (E := Em r tw 0) (n := (r 0).toNat) (gl := gol r) (s := s)
    unfold VP0 inm
    rw [if_pos rfl]
    exact this
  · unfold VP0 at hV ⊢
    rw [pk_skip hE]
    exact hV
  · unfold VP0 at hV hC ⊢
    rw [pk_step hE]
    rw [pk_all] at hC
    have : lrm 0 z v (gpm r 0 (Em r tw 0 s k)) = lrn z v := by unfold lrm; rw [if_pos rfl]
    rw [this]
    refine hV.learn hC (fun j hj => ?_)
    have hR := Em_R (tw := tw) (m := 0) hl s k ⟨s0, s1⟩ hE
    have h1 := pn_R (R := fun s => 0 ≤ s ∧ s < sd r (r 0).toNat) (lf := lfs r) (Em_R hl) hR.1 hj
    have h2 := lfs_b hl h5 (s := s)
    omega
  · rcases hV with ⟨rfl, -⟩ | ⟨j, j1, j2, j3, rfl⟩
    · exact ⟨by simp, fun _ => by simp⟩
    · refine ⟨by simp only; omega, fun _ => ?_⟩
      simp only
      unfold sat
      refine ⟨by omega, ?_⟩
      split <;> omega
end VALUES2
