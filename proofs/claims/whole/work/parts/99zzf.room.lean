/-! calls one behind the other, and the room -/
def p92c (i : Int) : Int := if 0 ≤ i ∧ i < 10 then enc (ptW.getD i.toNat []) else 0
def p93c (i : Int) : Int := if 0 ≤ i ∧ i < 5 then enc (hdW.getD i.toNat []) else 0
def Room (n : Nat) (Ls : sm_K) (rm : Nat) : Prop := Ls.length ≤ 12 * n ∧ ∃ T : Nat, sm_sz Ls ≤ 460 * n + T ∧ (T ≤ 6 * rm ∨ (rm = 100000 ∧ T ≤ 800000))
/-- what holds behind n calls -/
def LIv (n : Nat) (Ls : sm_K) (H : sm_H) : Prop := ∃ a b rm own, Inv p92c p93c Ls H a b rm own ∧ Room n Ls rm
theorem sz_app (A B : sm_K) : sm_sz (A ++ B) = sm_sz A + sm_sz B := by unfold sm_sz; rw [List.map_append, List.sum_append]
section ROOM
variable {d n : Nat} {Ls Ls' : sm_K} {H H2 : sm_H} {S : sm_E} {a b rm a' b' rm' : Nat} {cm rmm : Nat} {vs : List sm_V}
theorem Room.same (h : Room n Ls rm) : Room (n + 1) Ls rm := by
  obtain ⟨h1, T, h2, h3⟩ := h
  exact ⟨by omega, T, by omega, h3⟩
theorem Room.add {E : sm_K} (h : Room n Ls rm) (hl : E.length ≤ 12) (hs : sm_sz E ≤ 460) : Room (n + 1) (Ls ++ E) rm := by
  obtain ⟨h1, T, h2, h3⟩ := h
  exact ⟨by rw [List.length_append]; omega, T, by rw [sz_app]; omega, h3⟩
theorem Room.grow (h : Room n Ls rm) (hg : Grow Ls Ls' a b rm a' b' rm') : Room (n + 1) Ls' rm' := by
  rcases hg with ⟨rfl, rfl, rfl, rfl⟩ | ⟨rfl, -, -, h4, h5, h6⟩
  · exact h.same
  · obtain ⟨h1, T, h2, h3⟩ := h
    have e : sm_sz [(20, (rm', [])), (20, (rm', []))] = rm' + rm' := by simp [sm_sz]
    refine ⟨by rw [List.length_append]; simp; omega, T + (rm' + rm'), by rw [sz_app, e]; omega, ?_⟩
    omega
theorem Sim2.deep {d' : Nat} {P : sm_K → sm_H → Prop} (h : Sim2 S d Ls H cm rmm vs P) (hd : d ≤ d') : Sim2 S d' Ls H cm rmm vs P := by
  unfold Sim2 at h ⊢
  refine (Ru.deep h hd).mono (fun o ho => ?_)
  obtain ⟨Ls', H1, x, h1, h2⟩ := ho
  exact ⟨Ls', H1, x, h1, h2.deep hd⟩
theorem Sim2.imp {P P' : sm_K → sm_H → Prop} (h : Sim2 S d Ls H cm rmm vs P) (hp : ∀ Ls' H2, P Ls' H2 → P' Ls' H2) : Sim2 S d Ls H cm rmm vs P' := by
  unfold Sim2 at h ⊢
  refine h.mono (fun o ho => ?_)
  obtain ⟨Ls', H1, x, h1, h2⟩ := ho
  exact ⟨Ls', H1, x, h1, h2.mono (fun o2 ho2 => by
    obtain ⟨H2, e, g⟩ := ho2
    exact ⟨H2, e, hp _ _ g⟩)⟩
theorem Sim.li (h : LIv n Ls H) (hs : Sim S d Ls H cm rmm vs (Good H)) (hd : d ≤ 60) : Sim2 S 60 Ls H cm rmm vs (LIv (n + 1)) := by
  refine Sim2.deep (d := d) ?_ hd
  unfold Sim at hs
  unfold Sim2
  refine hs.mono (fun o ho => ?_)
  obtain ⟨H1, x, h1, h2⟩ := ho
  refine ⟨Ls, H1, x, h1, h2.mono (fun o2 ho2 => ?_)⟩
  obtain ⟨H2, e, g⟩ := ho2
  obtain ⟨a, b, rm, own, hI, hR⟩ := h
  exact ⟨H2, e, a, b, rm, own, hI.good g, hR.same⟩
theorem LIv.sr (h : LIv n Ls H) : SR H := by obtain ⟨a, b, rm, own, hI, hR⟩ := h; exact hI.1.1
theorem LIv.hr (h : LIv n Ls H) : HR H 33 (H 82) := by obtain ⟨a, b, rm, own, hI, hR⟩ := h; exact hI.1.2
theorem LIv.lo (h : LIv n Ls H) : ∃ tw, LO (kk0 ++ Ls) H tw := by
  obtain ⟨a, b, rm, own, hI, hR⟩ := h
  obtain ⟨tw, h1, -⟩ := hI.2.2.2.2.2.2.1
  exact ⟨tw, h1⟩
theorem LIv.w92 (h : LIv n Ls H) : W92 H := by
  obtain ⟨a, b, rm, own, hI, hR⟩ := h
  obtain ⟨e1, e2⟩ := hI.2.2.2.2.2.2.2
  exact ⟨fun i i0 i1 => by rw [e1]; unfold p92c; rw [if_pos ⟨i0, i1⟩], fun i i0 i1 => by rw [e2]; unfold p93c; rw [if_pos ⟨i0, i1⟩]⟩
theorem li_law (h : LIv n Ls H) : Sim2 S 60 Ls H 103 192 [] (LIv (n + 1)) := by
  have hs := s_law (S := S) (d := 12) (Ls := Ls) h.sr h.hr h.w92
  refine hs.imp (fun Ls' H2 hq => ?_)
  obtain ⟨a, b, rm, own, hI, hR⟩ := h
  rcases hq with ⟨rfl, g⟩ | hp
  · exact ⟨a, b, rm, own, hI.good g, hR.same⟩
  · obtain ⟨own', hI'⟩ := hI.lp hp
    refine ⟨a, b, rm, own', hI', ?_⟩
    obtain ⟨Cs, ng, rfl, ⟨c1, c2, -⟩, -⟩ := hp
    refine hR.add (by simp [lcells]) ?_
    simp [lcells, sm_sz]
    omega
theorem li_image (h : LIv n Ls H) {k : Int} : Sim2 S 60 Ls H 131 145 [.inl k] (LIv (n + 1)) := by
  obtain ⟨a, b, rm, own, hI, hR⟩ := h
  have hs := s_image (S := S) (d := 56) (Ls := Ls) hI.1.1 hI.1.2 (k := k) (fun hk => (hI.2.2.2.1 k hk.1 hk.2).ik) hI.2.2.1
  refine hs.imp (fun Ls' H2 hq => ?_)
  rcases hq with ⟨-, rfl, g⟩ | ⟨hk, hp⟩
  · exact ⟨a, b, rm, own, hI.good g, hR.same⟩
  · obtain ⟨own', hI', e⟩ := hI.ip hk hp
    refine ⟨a, b, rm, own', hI', ?_⟩
    rcases e with rfl | ⟨c, rfl⟩
    · exact hR.same
    · exact hR.add (by simp [hcells]) (by simp [hcells, sm_sz])
theorem li_back (h : LIv n Ls H) {k : Int} : Sim2 S 60 Ls H 132 146 [.inl k] (LIv (n + 1)) := by
  obtain ⟨a, b, rm, own, hI, hR⟩ := h
  have hs := s_back (S := S) (d := 56) (Ls := Ls) hI.1.1 hI.1.2 (k := k) (fun hk => (hI.2.2.2.1 k hk.1 hk.2).ik) (fun b' hk e45 e84 t ht => by
    rcases hI.2.2.2.1 k hk.1 hk.2 with ⟨-, q⟩ | ⟨-, c, q1, -, -, -, q5, -⟩
    · omega
    · have : b' = c := by omega
      subst this
      exact q5 t ht)
  refine hs.imp (fun Ls' H2 hq => ?_)
  rcases hq with ⟨rfl, g⟩ | ⟨hk, hp⟩
  · exact ⟨a, b, rm, own, hI.good g, hR.same⟩
  · have e : Ls' = Ls := hp.1
    subst e
    exact ⟨a, b, rm, own, hI.bp hk hp, hR.same⟩
end ROOM
section ROOM2
variable {d n : Nat} {Ls Ls' : sm_K} {H H2 : sm_H} {fmt : Bool} {L : Nat} {xs : Nat → Int32} {cm rmm : Nat} {vs : List sm_V}
theorem li_dp {a b rm : Nat} {own : Nat → Nat} {tw : Int → (Int → Int) → Option Int} {S : sm_E} (hI : Inv p92c p93c Ls H a b rm own) (hR : Room n Ls rm) (hL : LO (kk0 ++ Ls) H tw) (hs : Sim2 S d Ls H cm rmm vs (DP Ls H tw a b rm)) (hd : d ≤ 60) : Sim2 S 60 Ls H cm rmm vs (LIv (n + 1)) := by
  refine (hs.deep hd).imp (fun Ls' H2 hq => ?_)
  obtain ⟨a', b', rm', own', hI', hg⟩ := hI.dp hL hq
  exact ⟨a', b', rm', own', hI', hR.grow hg⟩
theorem li_drive (h : LIv n Ls H) {w : Int} : Sim2 (st_S fmt L xs) 60 Ls H 114 221 [.inl w] (LIv (n + 1)) := by
  obtain ⟨a, b, rm, own, hI, hR⟩ := h
  obtain ⟨tw, hL, hC, hF⟩ := hI.2.2.2.2.2.2.1
  obtain ⟨hD, oa, ob⟩ := hI.2.2.2.2.2.1
  exact li_dp hI hR hL (s_drive (d := 51) hI.1.2 hL hD ⟨hI.2.1.nlc hI.1.2.2.2.2.2.1.2 (by rw [oa]; omega), hI.2.1.nlc hI.1.2.2.2.2.2.1.2 (by rw [ob]; omega)⟩ hC hF) (by omega)
theorem li_calls (h : LIv n Ls H) {i : Int} (hi : -2147483648 ≤ i ∧ i < 2147483648) : Sim2 (st_S fmt L xs) 60 Ls H 115 222 [.inl i] (LIv (n + 1)) := by
  obtain ⟨a, b, rm, own, hI, hR⟩ := h
  obtain ⟨tw, hL, hC, hF⟩ := hI.2.2.2.2.2.2.1
  obtain ⟨hD, oa, ob⟩ := hI.2.2.2.2.2.1
  exact li_dp hI hR hL (s_calls (d := 51) hI.1.2 hL hD ⟨hI.2.1.nlc hI.1.2.2.2.2.2.1.2 (by rw [oa]; omega), hI.2.1.nlc hI.1.2.2.2.2.2.1.2 (by rw [ob]; omega)⟩ hC hF hi) (by omega)
theorem li_dogs (h : LIv n Ls H) : Sim2 (st_S fmt L xs) 60 Ls H 116 225 [] (LIv (n + 1)) := by
  obtain ⟨a, b, rm, own, hI, hR⟩ := h
  obtain ⟨tw, hL, hC, hF⟩ := hI.2.2.2.2.2.2.1
  obtain ⟨hD, oa, ob⟩ := hI.2.2.2.2.2.1
  exact li_dp hI hR hL (s_dogs (d := 51) hI.1.2 hL hD ⟨hI.2.1.nlc hI.1.2.2.2.2.2.1.2 (by rw [oa]; omega), hI.2.1.nlc hI.1.2.2.2.2.2.1.2 (by rw [ob]; omega)⟩ hC hF) (by omega)
end ROOM2
