/-! what the class found stays found; a Herd that became another -/
section DEAF2
variable {r r' w : Int → Int} {tw : Int → (Int → Int) → Option Int} {m s c : Int} {E E' : Int → Int → Int} {n : Nat} {gl : Int → Bool}
theorem pn_ea (h : ∀ s c : Int, 0 ≤ c → c < n → E' s c = E s c) {j : Nat} : pn E' n gl j s = pn E n gl j s := by
  unfold pn
  rw [wlk_ea h]
theorem dst_ea (h : ∀ s c : Int, 0 ≤ c → c < n → E' s c = E s c) : dst E' n gl s = dst E n gl s := by
  have hp : (fun j => decide (0 < pn E' n gl j s)) = fun j => decide (0 < pn E n gl j s) := by
    funext j
    rw [pn_ea h]
  unfold dst
  rw [hp]
theorem ahv_ea (h : ∀ s c : Int, 0 ≤ c → c < n → E' s c = E s c) : ahv E' n gl s = ahv E n gl s := by
  unfold ahv
  rw [dst_ea h]
theorem wyv_ea (h : ∀ s c : Int, 0 ≤ c → c < n → E' s c = E s c) : wyv E' n gl s = wyv E n gl s := by
  unfold wyv
  rw [dst_ea h]
  split
  · rw [pn_ea h]
  · rfl
theorem lwf_ea {p p' : Int → Bool} : ∀ (k : Nat) (c : Int), (∀ i : Int, c ≤ i → i < c + k → p' i = p i) → lwf p' k c = lwf p k c
  | 0, _, _ => rfl
  | k + 1, c, h => by
    unfold lwf
    rw [h c (by omega) (by omega), lwf_ea k (c + 1) (fun i h1 h2 => h i (by omega) (by omega))]
theorem fcw_ea (h : ∀ s c : Int, 0 ≤ c → c < n → E' s c = E s c) : fcw E' n gl s = fcw E n gl s := by
  unfold fcw
  refine lwf_ea _ _ (fun i i0 i1 => ?_)
  unfold fcp
  rw [h s i i0 (by omega), ahv_ea h, ahv_ea h]
theorem ahv_47 : ahv E n gl s ≤ 47 := by
  unfold ahv
  split
  · rename_i j hj
    have := List.mem_of_find?_eq_some hj
    rw [List.mem_range] at this
    omega
  · omega
theorem EA_7 (e : ∀ i : Int, i ≠ 7 → r' i = r i) (h0 : 0 ≤ r 0) (hl : lnk r (r 0).toNat) : ∀ s c : Int, 0 ≤ c → c < (r 0).toNat → Em r' tw m s c = Em r tw m s c := fun s c c0 c1 => Em_7 e h0 hl c0 (by omega)
theorem Ah_7 (e : ∀ i : Int, i ≠ 7 → r' i = r i) (h0 : 0 ≤ r 0) (hl : lnk r (r 0).toNat) : Ah r' tw s = Ah r tw s := by
  show ahv (Em r' tw 0) (r' 0).toNat (gol r') s = ahv (Em r tw 0) (r 0).toNat (gol r) s
  rw [e 0 (by omega), gol_7 e, ahv_ea (EA_7 e h0 hl)]
theorem Wy_7 (e : ∀ i : Int, i ≠ 7 → r' i = r i) (h0 : 0 ≤ r 0) (hl : lnk r (r 0).toNat) : Wy r' tw s = Wy r tw s := by
  show wyv (Em r' tw 0) (r' 0).toNat (gol r') s = wyv (Em r tw 0) (r 0).toNat (gol r) s
  rw [e 0 (by omega), gol_7 e, wyv_ea (EA_7 e h0 hl)]
theorem Fc_7 (e : ∀ i : Int, i ≠ 7 → r' i = r i) (h0 : 0 ≤ r 0) (hl : lnk r (r 0).toNat) : Fc r' tw s = Fc r tw s := by
  show fcw (Em r' tw 0) (r' 0).toNat (gol r') s = fcw (Em r tw 0) (r 0).toNat (gol r) s
  rw [e 0 (by omega), gol_7 e, fcw_ea (EA_7 e h0 hl)]
theorem Ps_7 (e : ∀ i : Int, i ≠ 7 → r' i = r i) (h0 : 0 ≤ r 0) (h5 : r 0 ≤ 5) (hl : lnk r (r 0).toNat) {bg : Int} (hb : 0 ≤ bg ∧ bg < sd r (r 0).toNat) (h47 : Ah r tw bg ≠ 47) : ∀ i : Nat, (i : Int) < Ah r tw bg - 1 → Ps r' tw bg i = Ps r tw bg i ∧ (0 ≤ Ps r tw bg i ∧ Ps r tw bg i < sd r (r 0).toNat) ∧ Ah r tw (Ps r tw bg i) = Ah r tw bg - i
  | 0, _ => ⟨rfl, hb, by
    show Ah r tw bg = Ah r tw bg - ((0 : Nat) : Int)
    omega⟩
  | i + 1, hi => by
    obtain ⟨h1, h2, h3⟩ := Ps_7 e h0 h5 hl hb h47 i (by omega)
    have hm : Ah r tw bg ≤ 47 := ahv_47
    have hn := ahv_next (E := Em r tw 0) (n := (r 0).toNat) (gl := gol r) (s := Ps r tw bg i) (fun j t ht hp => by
      rcases ht with rfl | ⟨c, -, rfl, ht⟩
      · exact pn_45 hl h5 h2 hp
      · exact pn_45 hl h5 (Em_R hl _ _ h2 ht).1 hp) (by
      have : Ah r tw (Ps r tw bg i) ≠ 47 := by omega
      exact this) (by
      have : 1 < Ah r tw (Ps r tw bg i) := by omega
      exact this)
    obtain ⟨n1, n2, n3, n4⟩ := hn
    have f1 : Ps r' tw bg (i + 1) = Em r' tw 0 (Ps r' tw bg i) (Fc r' tw (Ps r' tw bg i)) := rfl
    have f2 : Ps r tw bg (i + 1) = Em r tw 0 (Ps r tw bg i) (Fc r tw (Ps r tw bg i)) := rfl
    refine ⟨?_, ?_, ?_⟩
    · rw [f1, f2, h1, Fc_7 e h0 hl]
      exact EA_7 e h0 hl _ _ n1 n2
    · rw [f2]
      exact (Em_R hl _ _ h2 n3).1
    · rw [f2]
      have n4' : Ah r tw (Em r tw 0 (Ps r tw bg i) (Fc r tw (Ps r tw bg i))) = Ah r tw (Ps r tw bg i) - 1 := n4
      rw [n4', h3]
      omega
/-- what the class found stays found -/
theorem CC.deaf {G G' : sm_H} (h : CC r tw G) (e : ∀ i : Int, i ≠ 7 → r' i = r i) (h0 : 0 ≤ r 0) (h5 : r 0 ≤ 5) (hl : lnk r (r 0).toNat) (hb : 0 ≤ bgn r ∧ bgn r < sd r (r 0).toNat) (eg : ∀ (x : Nat) (i : Int), (x = 59 ∧ 1 ≤ i ∧ i ≤ 3) ∨ x = 60 → G' x i = G x i) : CC r' tw G' := by
  refine CC.congr (G := G) ?_ eg
  obtain ⟨⟨sl, h1, h2, h3⟩, h4, h6, h7⟩ := h
  have r0 : r' 0 = r 0 := e 0 (by omega)
  refine ⟨⟨sl, h1, fun t => ?_, h3⟩, ?_, ?_, fun i hi => ?_⟩
  · rw [h2 t, r0, bgn_7 e]
    simp only [wlk_ea (EA_7 (tw := tw) (m := 0) e h0 hl)]
  · rw [bgn_7 e, Ah_7 e h0 hl]
    exact h4
  · rw [bgn_7 e, Wy_7 e h0 hl]
    exact h6
  · rw [h7 i hi, bgn_7 e, Fc_7 e h0 hl]
    by_cases h47 : Ah r tw (bgn r) = 47
    · rw [if_pos h47] at h4
      omega
    · rw [if_neg h47] at h4
      rw [(Ps_7 e h0 h5 hl hb h47 i (by omega)).1]
end DEAF2
/-- a Herd that became another is the same row -/
theorem HR.bec {H H' : sm_H} {b c : Nat} {r r' : Int → Int} (h : HR H c r) (hB : Bec H H' b c) (hr : ∀ i : Int, 0 ≤ i → i < 220 → r' i = r i) : HR H' b r' := by
  obtain ⟨⟨⟨a1, a2, a3⟩, a4, a5, a6⟩, ⟨b1, b2, b3, b4⟩, ⟨c1, c2, c3, c4⟩, ⟨d1, d2, d3, d4, d5, d6, d7⟩⟩ := h
  obtain ⟨e0, e1, e2, e3, e4, e5, e6, e7, -, e9, e10, e11⟩ := hB
  have r0 : r' 0 = r 0 := hr 0 (by omega) (by omega)
  have r1 : r' 1 = r 1 := hr 1 (by omega) (by omega)
  have r4 : r' 4 = r 4 := hr 4 (by omega) (by omega)
  have r6 : r' 6 = r 6 := hr 6 (by omega) (by omega)
  have r7 : r' 7 = r 7 := hr 7 (by omega) (by omega)
  have r8 : r' 8 = r 8 := hr 8 (by omega) (by omega)
  refine ⟨⟨⟨by rw [e0 0 (by omega), r0]; exact a1, by omega, by omega⟩, fun x x0 x1 w w0 w1 => ?_, fun x x0 x1 => ?_, fun x x0 x1 k k0 k1 => ?_⟩, ⟨by rw [e0 5 (by omega), hr 3 (by omega) (by omega)]; exact b1, by rw [e0 6 (by omega), r4]; exact b2, fun g g0 g1 => ?_, by rw [e0 8 (by omega), r4, hr 5 (by omega) (by omega)]; exact b4⟩, ⟨fun w w0 w1 => ?_, by rw [e7 4 (by omega) (by omega), r8]; exact c2, fun w w0 w1 i i0 i1 => ?_, fun i i0 i1 => ?_⟩, ⟨by rw [e0 11 (by omega), r1]; exact d1, by rw [e0 13 (by omega), r1, hr 2 (by omega) (by omega)]; exact d2, by rw [e0 14 (by omega), r6]; exact d3, fun i i0 i1 => ?_, fun i j i0 ij j1 => ?_, by rw [e0 16 (by omega), r7]; exact d6, fun i i0 i1 => ?_⟩⟩
  · rw [r0] at x1
    rw [e1 _ (by omega) (by omega), hr _ (by omega) (by omega)]
    exact a4 x x0 x1 w w0 w1
  · rw [r0] at x1
    rw [e3 _ (by omega) (by omega), e4 _ (by omega) (by omega), hr _ (by omega) (by omega), hr _ (by omega) (by omega)]
    exact a5 x x0 x1
  · rw [r0] at x1
    rw [hr _ (by omega) (by omega)] at k1
    have := a5 x x0 x1
    rw [e2 _ (by omega) (by omega), hr _ (by omega) (by omega)]
    exact a6 x x0 x1 k k0 k1
  · rw [r4] at g1
    rw [e5 _ (by omega) (by omega), hr _ (by omega) (by omega)]
    refine ⟨(b3 g g0 g1).1, (b3 g g0 g1).2.1, fun j j0 j1 => ?_⟩
    rw [hr _ (by omega) (by omega)]
    exact (b3 g g0 g1).2.2 j j0 j1
  · rw [e7 _ (by omega) (by omega), hr _ (by omega) (by omega)]
    exact c1 w w0 w1
  · have := c1 w w0 w1
    rw [hr _ (by omega) (by omega)] at i1
    rw [e6 _ (by omega) (by omega), hr _ (by omega) (by omega)]
    exact c3 w w0 w1 i i0 i1
  · rw [r8] at i1
    rw [e6 _ (by omega) (by omega), hr _ (by omega) (by omega)]
    exact c4 i i0 i1
  · rw [r6] at i1
    rw [e9 _ (by omega) (by omega), hr _ (by omega) (by omega), r0]
    exact d4 i i0 i1
  · rw [r6] at j1
    rw [hr _ (by omega) (by omega), hr _ (by omega) (by omega)]
    exact d5 i j i0 ij j1
  · rw [r7] at i1
    rw [e10 _ (by omega) (by omega), e11 _ (by omega) (by omega), hr _ (by omega) (by omega), hr _ (by omega) (by omega)]
    exact d7 i i0 i1
