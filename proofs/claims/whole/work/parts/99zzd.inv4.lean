/-! behind law() -/
section INV4
variable {K E : sm_K} {Ls Ls' : sm_K} {H H' H2 : sm_H} {a b rm : Nat} {own own' : Nat → Nat} {p92 p93 : Int → Int} {k : Int}
theorem HR.law (h : HR H 33 (H 82)) (e : ∀ (x : Nat) (i : Int), 33 ≤ x → x ≤ 44 → ¬ (x = 33 ∧ i = 11) → x ≠ 41 → H2 x i = H x i) (e11 : H2 33 11 = H 33 11 + 1) (r1 : H2 82 1 = H 82 1 + 1) (h6 : H 82 1 < 6) (hr : ∀ i : Int, i ≠ 1 → i < 220 → H2 82 i = H 82 i) : HR H2 33 (H2 82) := by
  have ef : ∀ x : Nat, 34 ≤ x → x ≤ 44 → x ≠ 41 → H2 x = H x := fun x h1 h2 h3 => by funext i; exact e x i (by omega) h2 (by omega) h3
  obtain ⟨ha, hb, hc, hd⟩ := h
  refine ⟨ha.congr (e _ _ (by omega) (by omega) (by omega) (by omega)) (ef _ (by omega) (by omega) (by omega)) (ef _ (by omega) (by omega) (by omega)) (ef _ (by omega) (by omega) (by omega)) (ef _ (by omega) (by omega) (by omega)) (fun i hi => hr i (by omega) (by omega)), hb.congr (e _ _ (by omega) (by omega) (by omega) (by omega)) (e _ _ (by omega) (by omega) (by omega) (by omega)) (e _ _ (by omega) (by omega) (by omega) (by omega)) (ef _ (by omega) (by omega) (by omega)) (fun i hi => hr i (by omega) (by omega)), hc.congr (ef _ (by omega) (by omega) (by omega)) (ef _ (by omega) (by omega) (by omega)) (fun i hi => hr i (by omega) (by omega)), ?_⟩
  obtain ⟨h1, h2, h3, h4, h5, h6', h7⟩ := hd
  have r6 : H2 82 6 = H 82 6 := hr 6 (by omega) (by omega)
  have r7 : H2 82 7 = H 82 7 := hr 7 (by omega) (by omega)
  refine ⟨by rw [e11, r1]; omega, by rw [e _ _ (by omega) (by omega) (by omega) (by omega), hr 2 (by omega) (by omega), r1]; omega, by rw [e _ _ (by omega) (by omega) (by omega) (by omega), r6]; exact h3, fun i i0 i1 => ?_, fun i j i0 ij j1 => ?_, by rw [e _ _ (by omega) (by omega) (by omega) (by omega), r7]; exact h6', fun i i0 i1 => ?_⟩
  · rw [r6] at i1
    rw [e _ _ (by omega) (by omega) (by omega) (by omega), hr _ (by omega) (by omega), hr 0 (by omega) (by omega)]
    exact h4 i i0 i1
  · rw [r6] at j1
    rw [hr _ (by omega) (by omega), hr _ (by omega) (by omega)]
    exact h5 i j i0 ij j1
  · rw [r7] at i1
    rw [e (33 + 10) i (by omega) (by omega) (by omega) (by omega), e (33 + 11) i (by omega) (by omega) (by omega) (by omega), hr (176 + 2 * i) (by omega) (by omega), hr (177 + 2 * i) (by omega) (by omega)]
    exact h7 i i0 i1
def dfz : Cz := (0, ((fun _ => none), none))
def hdz (Cs : List Cz) (i : Nat) : Int := (Cs.getD i dfz).1
def Vsz (Cs : List Cz) (i : Nat) : (Int → Int) → Option Int := (Cs.getD i dfz).2.1
def Vtz (Cs : List Cz) (i : Nat) (kn : Int → Int) : Option Int := match (Cs.getD i dfz).2.2 with
  | none => some 1
  | some V => V kn
theorem getDz {Cs : List Cz} {i : Nat} (h : i < Cs.length) : Cs[i]? = some (Cs.getD i dfz) := by
  rw [List.getD_eq_getElem?_getD, List.getElem?_eq_getElem h]
  rfl
theorem lcells_kd {cl ng : Nat} : sm_kd (kk0 ++ (Ls ++ lcells (Ls.length + 114) cl ng)) (Ls.length + 115) = some (20, (cl * 4, [])) ∧ sm_kd (kk0 ++ (Ls ++ lcells (Ls.length + 114) cl ng)) (Ls.length + 116) = some (20, (ng, [])) := by
  have eL : (kk0 ++ Ls).length + 32 = Ls.length + 114 := by rw [List.length_append, kk0_len]; omega
  have h1 := kd_new (K := kk0 ++ Ls) (E := lcells (Ls.length + 114) cl ng) (i := 1) rfl
  have h2 := kd_new (K := kk0 ++ Ls) (E := lcells (Ls.length + 114) cl ng) (i := 2) rfl
  rw [eL, List.append_assoc] at h1 h2
  exact ⟨h1, h2⟩
/-- the new law -/
theorem LB.new {Cs : List Cz} {ng : Nat} (hc : Cs.length ≤ 12 ∧ ng ≤ 400) (h0 : H2 (Ls.length + 114) 0 = Cs.length) (hF : CFs (H2 (Ls.length + 115)) (H2 (Ls.length + 116)) Cs ng) (hs : ∀ i : Int, 0 ≤ i → i < ng → 0 ≤ sm_shr (H2 (Ls.length + 116) i) 4 ∧ sm_shr (H2 (Ls.length + 116) i) 4 ≤ 1000) : LB (kk0 ++ (Ls ++ lcells (Ls.length + 114) Cs.length ng)) H2 (Ls.length + 114) Cs.length (hdz Cs) (Vsz Cs) (Vtz Cs) := by
  refine ⟨Ls.length + 115, Ls.length + 116, ng, 0, [], [], ⟨lk_kd, lcells_kd.1, lcells_kd.2⟩, ⟨hc.2, hc.1, by omega, by omega, by omega⟩, h0, fun i i0 i1 => by have := hs i i0 i1; omega, fun i hi => ?_⟩
  obtain ⟨h1, h2, h3, h4, h5, h6, h7⟩ := hF i _ (getDz hi)
  refine ⟨h1, h3, fun h kn hk => ?_, fun h => h5 h, fun h kn => ?_, fun h kn hk => ?_⟩
  · obtain ⟨l, hl, hp⟩ := h4 h
    exact (hp.2.2 kn hk).up hl
  · unfold Vtz
    cases hv : (Cs.getD i dfz).2.2 with
    | none => rfl
    | some V =>
      obtain ⟨l, hl, hp⟩ := h7 V hv
      have := hp.2.1
      omega
  · unfold Vtz
    cases hv : (Cs.getD i dfz).2.2 with
    | none => have := h6 hv; omega
    | some V =>
      obtain ⟨l, hl, hp⟩ := h7 V hv
      exact (hp.2.2 kn hk).up hl
theorem LM.new {Cs : List Cz} {r : Int → Int} {j c : Int} (hc : Cs.length ≤ 12) (hc4 : c ≤ 400) (h1 : r (220 + 900 * j + 1) = Cs.length) (hF : RFs (fun k => r (220 + 900 * j + 2 + k)) (fun k => r (220 + 900 * j + 98 + 2 * k)) (fun k => r (220 + 900 * j + 98 + 2 * k + 1)) Cs c) (hs : ∀ i : Int, 0 ≤ i → i < 400 → -100000000 ≤ r (220 + 900 * j + 98 + 2 * i + 1) ∧ r (220 + 900 * j + 98 + 2 * i + 1) ≤ 100000000) : LM r j Cs.length (hdz Cs) (Vsz Cs) (Vtz Cs) := by
  refine ⟨h1, hc, hs, fun i hi => ?_⟩
  obtain ⟨k1, k2, k3, k3', k4, k6, k7, k8⟩ := hF i _ (getDz hi)
  simp only [] at k1 k3 k3' k4 k6 k7
  have e3 : 220 + 900 * j + 2 + (8 * (i : Int) + 3) = 220 + 900 * j + 2 + 8 * i + 3 := by omega
  have e4 : 220 + 900 * j + 2 + (8 * (i : Int) + 4) = 220 + 900 * j + 2 + 8 * i + 4 := by omega
  have e5 : 220 + 900 * j + 2 + (8 * (i : Int) + 5) = 220 + 900 * j + 2 + 8 * i + 5 := by omega
  have e6 : 220 + 900 * j + 2 + (8 * (i : Int) + 6) = 220 + 900 * j + 2 + 8 * i + 6 := by omega
  rw [e3, e4] at k3 k4
  rw [e5, e6] at k3' k6 k7
  refine ⟨k1, by omega, by omega, fun h kn hk => ?_, fun h kn => ?_, fun h kn hk => ?_⟩
  · obtain ⟨l, hl, hp⟩ := k4 h
    exact (hp.2.2 kn hk).up hl
  · unfold Vtz
    cases hv : (Cs.getD i dfz).2.2 with
    | none => rfl
    | some V =>
      obtain ⟨l, hl, hp⟩ := k7 V hv
      have := hp.2.1
      omega
  · unfold Vtz
    cases hv : (Cs.getD i dfz).2.2 with
    | none => have := k6 hv; omega
    | some V =>
      obtain ⟨l, hl, hp⟩ := k7 V hv
      exact (hp.2.2 kn hk).up hl
theorem Inv.lp (h : Inv p92 p93 Ls H a b rm own) (hP : LPw Ls H Ls' H2) : ∃ own', Inv p92 p93 Ls' H2 a b rm own' := by
  obtain ⟨Cs, ng, rfl, ⟨c1, c2, c3⟩, hS2, ⟨f1, f2, f3⟩, ⟨g1, g2, g3⟩, ⟨c, d0, d1, d2, d3, d4⟩, ⟨q1, q2⟩, e⟩ := hP
  obtain ⟨⟨hS, hH⟩, hX, hq, hI, ⟨hs1, hs2⟩, ⟨hD, oa, ob⟩, -, hc1, hc2⟩ := h
  have hlt := hD.lt
  have j0 : 0 ≤ H 82 1 := hH.2.2.2.1.2.1
  have n6 : H 82 1 ≤ 6 := hH.2.2.2.1.2.2
  have eL : (kk0 ++ Ls).length + 32 = Ls.length + 114 := by rw [List.length_append, kk0_len]; omega
  have eK : kk0 ++ (Ls ++ lcells (Ls.length + 114) Cs.length ng) = (kk0 ++ Ls) ++ lcells (Ls.length + 114) Cs.length ng := by rw [List.append_assoc]
  refine ⟨fun x => if Ls.length + 114 ≤ x ∧ x ≤ Ls.length + 116 then 1 else own x, ?_⟩
  generalize hown : (fun x => if Ls.length + 114 ≤ x ∧ x ≤ Ls.length + 116 then 1 else own x) = own'
  have oo : ∀ x : Nat, x < Ls.length + 114 → own' x = own x := fun x hx => by rw [← hown]; simp only []; rw [if_neg (by omega)]
  have on : ∀ x : Nat, Ls.length + 114 ≤ x → x ≤ Ls.length + 116 → own' x = 1 := fun x h1 h2 => by rw [← hown]; simp only []; rw [if_pos ⟨h1, h2⟩]
  have er : ∀ (x : Nat) (i : Int), 114 ≤ x → x < (kk0 ++ Ls).length + 32 → H2 x i = H x i := fun x i h1 h2 => e x i (by omega)
  have eo : ∀ x : Nat, 114 ≤ x → x < (kk0 ++ Ls).length + 32 → own' x = own x := fun x _ x1 => oo x (by omega)
  have hH2 : HR H2 33 (H2 82) := hH.law (fun x i h1 h2 h3 h4 => e x i (by omega)) f2 f3 c3 (fun i i1 i2 => d4 i i1 (by omega) (by omega))
  have hX2 : XL own' (kk0 ++ (Ls ++ lcells (Ls.length + 114) Cs.length ng)) H2 41 (H2 82) (H2 82 1) := by
    intro t t0 t1
    by_cases ht : t = H 82 1
    · subst ht
      rw [f1, Int.toNat_natCast]
      refine ⟨Cs.length, hdz Cs, Vsz Cs, Vtz Cs, LB.new ⟨c1, c2⟩ g1 g2 g3, LM.new c1 d0 d1 d2 (fun i i0 i1 => ?_), fun q f g hk => ?_⟩
      · by_cases hi : i < c
        · have := (d3 i i0 hi).2; omega
        · rw [d4 _ (by omega) (by omega) (by omega)]
          exact hs1 _ (by omega) (by omega)
      · rw [lk_kd] at hk
        cases hk
        exact ⟨on _ (by omega) (by omega), on _ (by omega) (by omega), on _ (by omega) (by omega)⟩
    · rw [e 41 t (by omega), eK]
      exact (hX t t0 (by omega)).step (fun x x0 x1 x2 => by rw [eo x x0 x1]; exact x2) (fun x i x0 x1 _ => er x i x0 x1) (fun i i0 i1 => d4 i (by omega) (by omega) (by omega))
  refine ⟨⟨hS2, hH2⟩, hX2, fun t ht => ?_, fun k' k0 k1 => ?_, ⟨fun i i0 i1 => ?_, fun k' k0 k1 i i0 i1 => ?_⟩, ⟨(hD.ext).same (fun i hi => e _ _ (by omega)), by rw [oo a (by omega)]; exact oa, by rw [oo b (by omega)]; exact ob⟩, ?_, ?_, ?_⟩
  · by_cases hj : (t : Int) = H 82 1
    · rw [hj, f1, Int.toNat_natCast]
      unfold sm_lawq
      rw [if_neg (by omega), lk_kd]
      rfl
    · rw [e 41 t (by omega), eK]
      exact lawq_app (hq t ht)
  · rw [eK]
    exact (hI k' k0 k1).step k0 (fun x x0 x1 _ => eo x x0 x1) (e _ _ (by omega)) (e _ _ (by omega)) (fun i i0 i1 => e _ _ (by omega)) (fun x i x0 x1 _ => er x i x0 x1)
  · by_cases hA : 220 + 900 * H 82 1 + 1 ≤ i ∧ i < 220 + 900 * H 82 1 + 2 + 8 * (Cs.length : Int)
    · by_cases hA1 : i = 220 + 900 * H 82 1 + 1
      · rw [hA1, d1]; omega
      · have hm : ((i - (220 + 900 * H 82 1 + 2)) / 8).toNat < Cs.length := by omega
        have hmi : (((i - (220 + 900 * H 82 1 + 2)) / 8).toNat : Int) = (i - (220 + 900 * H 82 1 + 2)) / 8 := by omega
        obtain ⟨k1, k2, k3, k3', k4, k6, k7, k8, k9, k10⟩ := d2 _ _ (getDz hm)
        simp only [] at k1 k3 k3' k8 k9 k10
        rw [hmi] at k1 k3 k3' k8 k9 k10
        generalize hM : (i - (220 + 900 * H 82 1 + 2)) / 8 = M at *
        have hi8 : i = 220 + 900 * H 82 1 + 2 + (8 * M) ∨ i = 220 + 900 * H 82 1 + 2 + (8 * M + 1) ∨ i = 220 + 900 * H 82 1 + 2 + (8 * M + 2) ∨ i = 220 + 900 * H 82 1 + 2 + (8 * M + 3) ∨ i = 220 + 900 * H 82 1 + 2 + (8 * M + 4) ∨ i = 220 + 900 * H 82 1 + 2 + (8 * M + 5) ∨ i = 220 + 900 * H 82 1 + 2 + (8 * M + 6) ∨ i = 220 + 900 * H 82 1 + 2 + (8 * M + 7) := by omega
        rcases hi8 with hh | hh | hh | hh | hh | hh | hh | hh <;> rw [hh] <;> omega
    · by_cases hB : 220 + 900 * H 82 1 + 98 ≤ i ∧ i < 220 + 900 * H 82 1 + 98 + 2 * c
      · have hM := d3 ((i - (220 + 900 * H 82 1 + 98)) / 2) (by omega) (by omega)
        generalize hMM : (i - (220 + 900 * H 82 1 + 98)) / 2 = M at *
        have hi2 : i = 220 + 900 * H 82 1 + 98 + 2 * M ∨ i = 220 + 900 * H 82 1 + 98 + 2 * M + 1 := by omega
        rcases hi2 with hh | hh <;> rw [hh] <;> omega
      · rw [d4 i (by omega) hA hB]
        exact hs1 i i0 i1
  · show -100000000 ≤ H2 83 (5620 * k' + i) ∧ H2 83 (5620 * k' + i) ≤ 100000000
    rw [e 83 _ (by omega)]
    exact hs2 k' k0 k1 i i0 i1
  · obtain ⟨tw, hL⟩ := hX2.lo hH2.2.2.2.2.1.2
    exact ⟨tw, hL, Or.inl q1, Or.inl q2⟩
  · rw [← hc1]; funext i; exact e _ _ (by omega)
  · rw [← hc2]; funext i; exact e _ _ (by omega)
end INV4
