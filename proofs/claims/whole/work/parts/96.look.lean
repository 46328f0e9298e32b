/-! the class's drives: explore, the first of the shortest -/
section LOOK
variable {d : Nat} {Ls Ls' : sm_K} {G G' G0 : sm_H} {Q : sm_O → Prop} {tw : Int → (Int → Int) → Option Int} {a b rm : Nat} {m bg : Int} {VP : Int → Nat → Int × Int → Prop} {fmt : Bool} {L : Nat} {xs : Nat → Int32}
theorem PC.same59 (h : PC Ls G tw) (e : ∀ x i, x ≠ 59 → G' x i = G x i) : PC Ls G' tw := by
  obtain ⟨h1, h2, ⟨h3, h4, h5⟩, h6, h7, h8⟩ := h
  have er : ∀ x : Nat, x ≠ 59 → G' x = G x := fun x hx => by funext i; exact e x i hx
  have e82 := er 82 (by omega)
  refine ⟨?_, h2.congr (fun a i h => e a i (by omega)), ⟨?_, ?_, ?_⟩, ?_, ?_, ?_⟩
  · rw [e82]; exact h1.same (fun x k1 k2 => er x (by omega)) (fun i _ => rfl)
  · rw [e82, er 53 (by omega)]; exact h3
  · rw [er 53 (by omega)]; exact h4
  · unfold la at h5 ⊢
    rw [e82, er 41 (by omega), er 53 (by omega)]; exact h5
  · rw [er 53 (by omega)]; exact h6
  · intro c l c0 c1 l0 l1
    rw [e82] at c1 l1 ⊢
    rw [er 55 (by omega), er 56 (by omega)]
    exact h7 c l c0 c1 l0 l1
  · intro c q h l
    rw [e82, er 58 (by omega)]
    exact h8 c q h l
/-- what stands behind exploring -/
def Done (Ls' : sm_K) (r : Int → Int) (tw : Int → (Int → Int) → Option Int) (m : Int) (VP : Int → Nat → Int × Int → Prop) (a b rm : Nat) (bg : Int) (G' : sm_H) (sl : List Int) : Prop := (PC Ls' G' tw ∧ PSt G' ∧ DA Ls' G' a b rm ∧ G' 82 = r ∧ G' 59 8 = m ∧ sd r (r 0).toNat ≤ rm ∧ rm ≤ 100000) ∧ (sl.Nodup ∧ (∀ t ∈ sl, 0 ≤ t ∧ t < sd r (r 0).toNat) ∧ bg ∈ sl) ∧ (∀ t ∈ sl, VP t (r 0).toNat (G' a t, G' b t) ∧ ∀ c : Nat, c < (r 0).toNat → Em r tw m t c ≠ -1 → Em r tw m t c ∈ sl) ∧ (∀ t ∈ sl, ∃ j, t ∈ wlk (Em r tw m) (r 0).toNat j bg)
theorem b_explore (hV : VPok (G 82) tw m VP) (hm : m = 0 ∨ m = 1) (hP : PC Ls G tw) (hS : PSt G) (hW : PW G (st (G 82) bg)) (h2 : G 53 2 = sd (G 82) (G 82 0).toNat) (hbg : 0 ≤ bg ∧ bg < sd (G 82) (G 82 0).toNat) (hD : DV Ls G a b rm) (h8 : G 59 8 = m) (hLC : ¬ LC Ls G a ∧ ¬ LC Ls G b) (hQ : ∀ Ls' G' a' b' rm' sl, Grow Ls Ls' a b rm a' b' rm' → Done Ls' (G 82) tw m VP a' b' rm' bg G' sl → (∀ x i, ¬ (Dt a' b' x i ∨ (x = 59 ∧ (i = 6 ∨ i = 7))) → G' x i = G x i) → Q (kk0 ++ Ls', (G', some (.inl sl.length)))) : Ru (st_S fmt L xs) (d + 6) 4 [.inr (.inr 59), .inl bg] (kk0 ++ Ls) G Q := by
  have rn := hP.rn
  have hN := hP.N5 (k := (G 82 0).toNat) (by omega)
  have hl := hP.lnk
  have key : Ru (st_S fmt L xs) (d + 5) 5 [.inr (.inr 59)] (kk0 ++ Ls) G (fun o => Bx (st_S fmt L xs) (d + 5) 4 (4, ([some (.inr (.inr 59)), some (.inl bg), none, none, none, none, none], (o.2.2.toList ++ [], (o.1, o.2.1)))) Q) := by
    refine b_forget hD h2 hN (fun Ls' G1 a' b' rm' hG hDA hrm hz e1 => ?_)
    have hab : 114 ≤ a' ∧ 114 ≤ b' ∧ a' ≠ b' := ⟨hDA.2.2.2.2.1, hDA.2.2.2.2.2, hDA.2.2.2.1⟩
    have e82 : G1 82 = G 82 := by funext i; exact e1 _ _ (by omega)
    have e41 : G1 41 = G 41 := by funext i; exact e1 _ _ (by omega)
    -- the law's cells are others
    have hPL : PC Ls' G tw ∧ (¬ LC Ls' G a' ∧ ¬ LC Ls' G b') := by
      rcases hG with ⟨rfl, rfl, rfl, rfl⟩ | ⟨rfl, rfl, rfl, -⟩
      · exact ⟨hP, hLC⟩
      · refine ⟨hP.ext, fun h => ?_, fun h => ?_⟩
        · have := (LC.lt hP.2.1 h).2; omega
        · have := (LC.lt hP.2.1 h).2; omega
    have hP1 : PC Ls' G1 tw := hPL.1.dr hPL.2 ⟨hab.1, hab.2.1⟩ (fun x i h => e1 x i (by omega)) (fun x hx => by have := LC.of hPL.1.2.1 hx; omega)
    have hS1 : PSt G1 := hS.dr ⟨hab.1, hab.2.1⟩ (fun x i h => e1 x i (by omega))
    have hLC1 : ¬ LC Ls' G1 a' ∧ ¬ LC Ls' G1 b' := ⟨fun h => hPL.2.1 ((LC.same e82 e41).mp h), fun h => hPL.2.2 ((LC.same e82 e41).mp h)⟩
    have hW1 : PW G1 (st (G1 82) bg) := by
      rw [e82]
      refine ⟨fun c c0 c1 => ?_, ?_, ?_⟩
      · rw [e82] at c1; rw [e1 _ _ (by omega)]; exact hW.1 c c0 c1
      · rw [e82, e1 _ _ (by omega)]; exact hW.2.1
      · rw [e82]; exact hW.2.2
    have h81 : G1 59 8 = m := by rw [e1 _ _ (by omega)]; exact h8
    -- the first one is opened
    have e2f : ∀ (x : Nat) (i : Int), ¬ (x = 59 ∧ i = 9) → sm_u G1 59 9 0 x i = G1 x i := fun x i h => ev_u4 h
    have v9 : sm_u G1 59 9 0 59 9 = 0 := ev_u1
    have hP2 : PC Ls' (sm_u G1 59 9 0) tw := hP1.same59 (fun x i h => e2f x i (by omega))
    have key2 : Ru (st_S fmt L xs) (d + 5) 6 [.inr (.inr 59), .inl bg] (kk0 ++ Ls') (sm_u G1 59 9 0) (fun o => Bx (st_S fmt L xs) (d + 5) 4 (16, ([some (.inr (.inr 59)), some (.inl bg), some (.inl 1), none, none, none, none], (o.2.2.toList ++ [], (o.1, o.2.1)))) Q) := by
      have e822 : sm_u G1 59 9 0 82 = G 82 := by rw [← e82]; funext i; exact e2f _ _ (by omega)
      refine b_open (a := a') (b := b') (rm := rm') (m := m) hP2 (by
        rw [e822]
        rw [e82] at hW1
        refine ⟨fun c c0 c1 => ?_, ?_, ?_⟩
        · rw [e2f _ _ (by omega)]; rw [e822, ← e82] at c1; exact hW1.1 c c0 c1
        · rw [e822, e2f _ _ (by omega), ← e82]
          have q := hW1.2.1
          rw [e82] at q ⊢
          exact q
        · have q := hW1.2.2
          rw [e82] at q
          rw [e822]; exact q) (hDA.same (fun i hi => e2f _ _ (by omega))) (by rw [e2f _ _ (by omega)]; exact h81) hm ⟨hbg.1, by omega⟩ (by rw [v9]; omega) (fun G3 f1 f2 f3 f4 f5 f6 => ?_)
      rw [v9] at f3 f4 f5 f6
      rw [e822] at f1 f2
      have e3 : ∀ x i, ¬ (((x = a' ∨ x = b') ∧ i = bg) ∨ ((x = 63 ∨ x = 64) ∧ i = 0) ∨ (x = 59 ∧ i = 9)) → G3 x i = G1 x i := fun x i h => by rw [f6 x i h, e2f x i (by omega)]
      have e823 : G3 82 = G 82 := by rw [← e82]; funext i; exact e3 _ _ (by omega)
      have hP3 : PC Ls' G3 tw := hP1.dr hLC1 ⟨hab.1, hab.2.1⟩ (fun x i h => e3 x i (by omega)) (fun x hx => by have := LC.of hP1.2.1 hx; omega)
      have hS3 : PSt G3 := hS1.dr ⟨hab.1, hab.2.1⟩ (fun x i h => e3 x i (by omega))
      have hV0 := hV.1 bg hbg.1 hbg.2
      have hv1 := (hV.2.2.2 _ _ _ hV0).1
      have hX : EX Ls' G1 tw m VP a' b' bg G3 [(bg, 0)] [bg] := by
        refine ⟨⟨hP3, hS3, fun x i h => e3 x i (by unfold Dt at h; omega)⟩, by rw [f5]; rfl, ⟨⟨by rw [e82]; exact hbg, f3, ?_, fun c hc => by omega, ?_⟩, ⟨f4, by omega⟩, trivial⟩, ⟨by simp, fun x hx => by simp at hx; rw [hx]; simp⟩, ⟨by simp, fun t ht => by rw [List.mem_singleton] at ht; rw [ht, e82]; exact hbg, fun t t0 t1 => ?_⟩, fun t ht hx => ?_, fun t ht => ⟨0, by rw [List.mem_singleton] at ht; simp [wlk, ht]⟩, by simp⟩
        · have : (G3 a' bg, G3 b' bg) = inm (G 82) m bg := Prod.ext f1 f2
          rw [this]; exact hV0
        · have := lfs_b hl rn.2 (s := bg)
          rw [e82]; simpa using this
        · rw [e82] at t1
          by_cases ht : t = bg
          · rw [ht]
            exact ⟨fun _ => by simp, fun _ => by rw [f1]; omega⟩
          · rw [e3 _ _ (by omega), hz t t0 t1]
            exact ⟨fun h => absurd rfl h, fun h => by rw [List.mem_singleton] at h; exact absurd h ht⟩
        · rw [List.mem_singleton] at ht
          exact absurd ht.symm (hx (bg, 0) (by simp))
      have q := b_expl (d := d) (Ls := Ls') (Q := Q) (fmt := fmt) (L := L) (xs := xs) (G0 := G1) (a := a') (b := b') (rm := rm') (bg := bg) (VP := VP) (by rw [e82]; exact hV) hm hDA h81 (by rw [e82]; exact hrm.1) (by rw [e82]; exact hN.2) hLC1 (fun G4 sl hE => by
        have hfr := hE.1.2.2
        have e824 : G4 82 = G 82 := by rw [← e82]; funext i; exact hfr _ _ (by unfold Dt Pt; omega)
        obtain ⟨⟨p1, p2, p3⟩, h9, -, -, ⟨l1, l2, l3⟩, c1, r1, b1⟩ := hE
        rw [e82] at l2 c1 r1
        refine hQ Ls' G4 a' b' rm' sl hG ⟨⟨p1, p2, hDA.same (fun i hi => hfr _ _ (by unfold Dt Pt; omega)), e824, by rw [hfr _ _ (by unfold Dt Pt; omega)]; exact h81, hrm.1, hrm.2⟩, ⟨l1, l2, b1⟩, fun t ht => c1 t ht (fun x hx => by simp at hx), r1⟩ (fun x i h => ?_)
        rw [hfr x i (fun q => h (Or.inl q)), e1 x i (fun q => h (by unfold Dt; omega))]) (6 * ((sd (G1 82) (G1 82 0).toNat).toNat - 1) + ((G1 82 0).toNat + 1)) [(bg, 0)] [bg] G3 0 none none none hX (by simp [mes]) (by omega) (by rw [e82]; omega)
      have e1' : ((([bg] : List Int).length : Nat) : Int) = 1 := rfl
      rw [e1'] at q
      simp (disch := omega) only [x4_0, x4_1, x4_4, x4_5, x4_6, x4_7, x4_8, x4_11, x4_12, x4_13, x4_16, x4_17, x4_19, x4_21, x4_24, x4_25, x4_28, x4_31, x4_32, x4_35, x4_36, x4_39, x4_40, x4_41, x4_42, x4_44, x4_45, x4_48, x4_49, x4_52, x4_53, x4_54, x4_55, x4_57, x4_59, x4_60, x4_63, x4_66, x4_69, x4_70, x4_72, x4_75, x4_78, x4_79, x4_82, x4_83, x4_86, x4_87, x4_88, x4_89, x4_90, x4_91, x4_92, x4_93, x4_94, x4_97, x4_99, x4_102, x4_103, x4_106, x4_108, x4_111, x4_112, x4_115, x4_116, x4_119, x4_122, x4_123, x4_126, x4_129, x4_132, x4_135, x4_136, x4_139, x4_142, x4_144, x4_146, x4_148, x4_151, x4_154, x4_155, x4_158, x4_159, x4_162, x4_163, x4_164, x4_165, x4_168, x4_171, x4_172, x4_175, x4_178, x4_181, x4_182, x4_183, x4_184, x4_187, x4_189, x4_190, x4_193, x4_194, x4_196, x4_198, x4_199, x4_202, x4_203, x4_206, x4_207, x4_208, x4_209, x4_212, x4_215, x4_216, x4_219, x4_221, x4_224, x4_227, x4_228, x4_230, x4_233, x4_236, x4_239, x4_240, ct_c, ct_z, cat_I, cat_J, cat_A, lq_I, lq_A, lq_n, Nat.reduceAdd, Nat.reduceLeDiff, true_and, and_true, true_or, or_true, ev_b, eq_self, Option.toList_some, Option.toList_none, List.cons_append, List.nil_append, rc32, rc33, n34, n35, n36, n37, n38, n39, n40, n41, n42, n43, n44, n45, n46, rc47, n48, n49, rc50, n51, n52, rc53, n54, n55, n56, n57, n58, rc59, n60, n61, n62, n63, n64, n65, rc66, n67, n68, rc69, n70, n71, rc72, n73, n74, n75, n76, n77, n78, n79, rc80, n81, n82, n83, n84, n85, n86, n87, n88, n89, n90, n91, n92, n93, n94, n95, n96, n97, n98, n99, n100, n101, n102, n103, n104, n105, n106, n107, n108, n109, n110, n111, n112, n113, g32_0, g32_1, g32_2, g32_3, g32_4, g32_5, g32_6, g32_7, g32_8, g32_9, g32_10, g32_11, g32_12, g32_13, g32_14, g32_15, g32_16, g32_17, g33_0, g33_1, g33_2, g33_3, g33_4, g33_5, g33_6, g33_7, g33_8, g33_9, g33_10, g33_11, g33_12, g33_13, g33_14, g33_15, g33_16, g33_17, g33_18, g47_0, g47_1, g47_2, g47_3, g47_4, g47_5, g47_6, g47_7, g47_8, g47_9, g47_10, g50_0, g50_1, g50_2, g53_0, g53_1, g53_2, g53_3, g53_4, g53_5, g53_6, g53_7, g53_8, g53_9, g53_10, g53_11, g59_0, g59_1, g59_2, g59_3, g59_4, g59_5, g59_6, g59_7, g59_8, g59_9, g59_10, g59_11, g59_12, g66_0, g66_1, g66_2, g66_3, g66_4, g66_5, g69_0, g69_1, g69_2, g69_3, g72_0, g72_1, g72_2, g80_0, g80_1, g80_2, g80_3, g80_4, g80_5, g80_6, g80_7, g80_8, g80_9, g80_10, g80_11, g80_12, g80_13, g80_14, g80_15, g80_16, g80_17, g80_18, g80_19, g80_20, g80_21, g80_22, g80_23, g80_24, g80_25, g80_26, g80_27, g80_28, g80_29, g80_30, g80_31, g80_32, g80_33, g80_34, g80_35, g80_36, g80_37, g80_38, g80_39, g80_40, g80_41, g80_42, g80_43, g80_44, g80_45, g80_46, g80_47, g80_48, g80_49, g80_50, g80_51, g80_52, g80_53, g80_54, g80_55, g80_56, g80_57, g80_58, g80_59, g80_60, g80_61, p32_3, p32_14, p32_15, p32_17, p33_0, p33_5, p33_6, p33_8, p33_11, p33_13, p33_14, p33_16, p47_0, p47_1, p47_2, p47_3, p47_4, p47_5, p47_6, p47_7, p47_10, p50_2, p53_1, p53_2, p53_3, p53_5, p53_6, p53_7, p59_0, p59_1, p59_2, p59_3, p59_6, p59_7, p59_8, p59_9, p66_0, p66_1, p66_4, p66_5, p69_0, p69_1, p80_0, p80_1, p80_6, p80_8, p80_10, p80_11, p80_12, p80_13, p80_14, p80_15, p80_16, p80_17, p80_19, p80_22, p80_25, p80_26, p80_29, p80_32, p80_33, p80_34, p80_37, p80_38, p80_39, p80_47, p80_48, p80_50, p80_51, p80_59, p80_61, l34, l35, l36, l37, l38, l39, l40, l41, l42, l43, l44, l45, l46, l48, l49, l51, l52, l54, l55, l56, l57, l58, l60, l61, l62, l63, l64, l65, l67, l68, l70, l71, l73, l74, l75, l76, l77, l78, l79, l81, l82, l83, l84, l85, l86, l87, l88, l89, l90, l91, l92, l93, l94, l95, l96, l97, l98, l99, l100, l101, l102, l103, l104, l105, l106, l107, l108, l109, l110, l111, l112, l113, s34, s35, s36, s37, s38, s39, s40, s42, s43, s44, s46, s48, s49, s51, s52, s54, s55, s56, s57, s58, s60, s61, s62, s63, s64, s65, s67, s68, s70, s71, s73, s74, s75, s76, s77, s78, s79, s81, s82, s83, s84, s85, s86, s87, s88, s89, s90, s91, s92, s93, s94, s95, s96, s97, s98, s99, s100, s101, s102, s103, s104, s105, s106, s107, s108, s109, s110, s111, s112, s113, sw_id, sq_id, ev_u1, ev_u2, ev_u3, ↓ok_imp, ↓no_imp, ↓ok_and, Int.reduceAdd, Int.reduceSub, Int.reduceMul, Int.reduceNeg, false_implies, true_implies, not_true_eq_false, not_false_eq_true]
      exact q
    simp (disch := omega) only [x4_0, x4_1, x4_4, x4_5, x4_6, x4_7, x4_8, x4_11, x4_12, x4_13, x4_17, x4_18, x4_19, x4_21, x4_24, x4_25, x4_28, x4_31, x4_32, x4_35, x4_36, x4_39, x4_40, x4_41, x4_42, x4_44, x4_45, x4_48, x4_49, x4_52, x4_53, x4_54, x4_55, x4_57, x4_59, x4_60, x4_63, x4_66, x4_69, x4_70, x4_72, x4_75, x4_78, x4_79, x4_82, x4_83, x4_86, x4_87, x4_88, x4_89, x4_90, x4_91, x4_92, x4_93, x4_94, x4_97, x4_99, x4_102, x4_103, x4_106, x4_108, x4_111, x4_112, x4_115, x4_116, x4_119, x4_122, x4_123, x4_126, x4_129, x4_132, x4_135, x4_136, x4_139, x4_142, x4_144, x4_146, x4_148, x4_151, x4_154, x4_155, x4_158, x4_159, x4_162, x4_163, x4_164, x4_165, x4_168, x4_171, x4_172, x4_175, x4_178, x4_181, x4_182, x4_183, x4_184, x4_187, x4_189, x4_190, x4_193, x4_194, x4_196, x4_198, x4_199, x4_202, x4_203, x4_206, x4_207, x4_208, x4_209, x4_212, x4_215, x4_216, x4_219, x4_221, x4_224, x4_227, x4_228, x4_230, x4_233, x4_236, x4_239, x4_240, ct_c, ct_z, cat_I, cat_J, cat_A, lq_I, lq_A, lq_n, Nat.reduceAdd, Nat.reduceLeDiff, true_and, and_true, true_or, or_true, ev_b, eq_self, Option.toList_some, Option.toList_none, List.cons_append, List.nil_append, rc32, rc33, n34, n35, n36, n37, n38, n39, n40, n41, n42, n43, n44, n45, n46, rc47, n48, n49, rc50, n51, n52, rc53, n54, n55, n56, n57, n58, rc59, n60, n61, n62, n63, n64, n65, rc66, n67, n68, rc69, n70, n71, rc72, n73, n74, n75, n76, n77, n78, n79, rc80, n81, n82, n83, n84, n85, n86, n87, n88, n89, n90, n91, n92, n93, n94, n95, n96, n97, n98, n99, n100, n101, n102, n103, n104, n105, n106, n107, n108, n109, n110, n111, n112, n113, g32_0, g32_1, g32_2, g32_3, g32_4, g32_5, g32_6, g32_7, g32_8, g32_9, g32_10, g32_11, g32_12, g32_13, g32_14, g32_15, g32_16, g32_17, g33_0, g33_1, g33_2, g33_3, g33_4, g33_5, g33_6, g33_7, g33_8, g33_9, g33_10, g33_11, g33_12, g33_13, g33_14, g33_15, g33_16, g33_17, g33_18, g47_0, g47_1, g47_2, g47_3, g47_4, g47_5, g47_6, g47_7, g47_8, g47_9, g47_10, g50_0, g50_1, g50_2, g53_0, g53_1, g53_2, g53_3, g53_4, g53_5, g53_6, g53_7, g53_8, g53_9, g53_10, g53_11, g59_0, g59_1, g59_2, g59_3, g59_4, g59_5, g59_6, g59_7, g59_8, g59_9, g59_10, g59_11, g59_12, g66_0, g66_1, g66_2, g66_3, g66_4, g66_5, g69_0, g69_1, g69_2, g69_3, g72_0, g72_1, g72_2, g80_0, g80_1, g80_2, g80_3, g80_4, g80_5, g80_6, g80_7, g80_8, g80_9, g80_10, g80_11, g80_12, g80_13, g80_14, g80_15, g80_16, g80_17, g80_18, g80_19, g80_20, g80_21, g80_22, g80_23, g80_24, g80_25, g80_26, g80_27, g80_28, g80_29, g80_30, g80_31, g80_32, g80_33, g80_34, g80_35, g80_36, g80_37, g80_38, g80_39, g80_40, g80_41, g80_42, g80_43, g80_44, g80_45, g80_46, g80_47, g80_48, g80_49, g80_50, g80_51, g80_52, g80_53, g80_54, g80_55, g80_56, g80_57, g80_58, g80_59, g80_60, g80_61, p32_3, p32_14, p32_15, p32_17, p33_0, p33_5, p33_6, p33_8, p33_11, p33_13, p33_14, p33_16, p47_0, p47_1, p47_2, p47_3, p47_4, p47_5, p47_6, p47_7, p47_10, p50_2, p53_1, p53_2, p53_3, p53_5, p53_6, p53_7, p59_0, p59_1, p59_2, p59_3, p59_6, p59_7, p59_8, p59_9, p66_0, p66_1, p66_4, p66_5, p69_0, p69_1, p80_0, p80_1, p80_6, p80_8, p80_10, p80_11, p80_12, p80_13, p80_14, p80_15, p80_16, p80_17, p80_19, p80_22, p80_25, p80_26, p80_29, p80_32, p80_33, p80_34, p80_37, p80_38, p80_39, p80_47, p80_48, p80_50, p80_51, p80_59, p80_61, l34, l35, l36, l37, l38, l39, l40, l41, l42, l43, l44, l45, l46, l48, l49, l51, l52, l54, l55, l56, l57, l58, l60, l61, l62, l63, l64, l65, l67, l68, l70, l71, l73, l74, l75, l76, l77, l78, l79, l81, l82, l83, l84, l85, l86, l87, l88, l89, l90, l91, l92, l93, l94, l95, l96, l97, l98, l99, l100, l101, l102, l103, l104, l105, l106, l107, l108, l109, l110, l111, l112, l113, s34, s35, s36, s37, s38, s39, s40, s42, s43, s44, s46, s48, s49, s51, s52, s54, s55, s56, s57, s58, s60, s61, s62, s63, s64, s65, s67, s68, s70, s71, s73, s74, s75, s76, s77, s78, s79, s81, s82, s83, s84, s85, s86, s87, s88, s89, s90, s91, s92, s93, s94, s95, s96, s97, s98, s99, s100, s101, s102, s103, s104, s105, s106, s107, s108, s109, s110, s111, s112, s113, sw_id, sq_id, ev_u1, ev_u2, ev_u3, ↓ok_imp, ↓no_imp, ↓ok_and, Int.reduceAdd, Int.reduceSub, Int.reduceMul, Int.reduceNeg, false_implies, true_implies, not_true_eq_false, not_false_eq_true]
    exact key2
  simp (disch := omega) only [r4, x4_0, x4_1, x4_5, x4_6, x4_7, x4_8, x4_11, x4_12, x4_13, x4_16, x4_17, x4_18, x4_19, x4_21, x4_24, x4_25, x4_28, x4_31, x4_32, x4_35, x4_36, x4_39, x4_40, x4_41, x4_42, x4_44, x4_45, x4_48, x4_49, x4_52, x4_53, x4_54, x4_55, x4_57, x4_59, x4_60, x4_63, x4_66, x4_69, x4_70, x4_72, x4_75, x4_78, x4_79, x4_82, x4_83, x4_86, x4_87, x4_88, x4_89, x4_90, x4_91, x4_92, x4_93, x4_94, x4_97, x4_99, x4_102, x4_103, x4_106, x4_108, x4_111, x4_112, x4_115, x4_116, x4_119, x4_122, x4_123, x4_126, x4_129, x4_132, x4_135, x4_136, x4_139, x4_142, x4_144, x4_146, x4_148, x4_151, x4_154, x4_155, x4_158, x4_159, x4_162, x4_163, x4_164, x4_165, x4_168, x4_171, x4_172, x4_175, x4_178, x4_181, x4_182, x4_183, x4_184, x4_187, x4_189, x4_190, x4_193, x4_194, x4_196, x4_198, x4_199, x4_202, x4_203, x4_206, x4_207, x4_208, x4_209, x4_212, x4_215, x4_216, x4_219, x4_221, x4_224, x4_227, x4_228, x4_230, x4_233, x4_236, x4_239, x4_240, ct_c, ct_z, cat_I, cat_J, cat_A, lq_I, lq_A, lq_n, Nat.reduceAdd, Nat.reduceLeDiff, true_and, and_true, true_or, or_true, ev_b, eq_self, Option.toList_some, Option.toList_none, List.cons_append, List.nil_append, rc32, rc33, n34, n35, n36, n37, n38, n39, n40, n41, n42, n43, n44, n45, n46, rc47, n48, n49, rc50, n51, n52, rc53, n54, n55, n56, n57, n58, rc59, n60, n61, n62, n63, n64, n65, rc66, n67, n68, rc69, n70, n71, rc72, n73, n74, n75, n76, n77, n78, n79, rc80, n81, n82, n83, n84, n85, n86, n87, n88, n89, n90, n91, n92, n93, n94, n95, n96, n97, n98, n99, n100, n101, n102, n103, n104, n105, n106, n107, n108, n109, n110, n111, n112, n113, g32_0, g32_1, g32_2, g32_3, g32_4, g32_5, g32_6, g32_7, g32_8, g32_9, g32_10, g32_11, g32_12, g32_13, g32_14, g32_15, g32_16, g32_17, g33_0, g33_1, g33_2, g33_3, g33_4, g33_5, g33_6, g33_7, g33_8, g33_9, g33_10, g33_11, g33_12, g33_13, g33_14, g33_15, g33_16, g33_17, g33_18, g47_0, g47_1, g47_2, g47_3, g47_4, g47_5, g47_6, g47_7, g47_8, g47_9, g47_10, g50_0, g50_1, g50_2, g53_0, g53_1, g53_2, g53_3, g53_4, g53_5, g53_6, g53_7, g53_8, g53_9, g53_10, g53_11, g59_0, g59_1, g59_2, g59_3, g59_4, g59_5, g59_6, g59_7, g59_8, g59_9, g59_10, g59_11, g59_12, g66_0, g66_1, g66_2, g66_3, g66_4, g66_5, g69_0, g69_1, g69_2, g69_3, g72_0, g72_1, g72_2, g80_0, g80_1, g80_2, g80_3, g80_4, g80_5, g80_6, g80_7, g80_8, g80_9, g80_10, g80_11, g80_12, g80_13, g80_14, g80_15, g80_16, g80_17, g80_18, g80_19, g80_20, g80_21, g80_22, g80_23, g80_24, g80_25, g80_26, g80_27, g80_28, g80_29, g80_30, g80_31, g80_32, g80_33, g80_34, g80_35, g80_36, g80_37, g80_38, g80_39, g80_40, g80_41, g80_42, g80_43, g80_44, g80_45, g80_46, g80_47, g80_48, g80_49, g80_50, g80_51, g80_52, g80_53, g80_54, g80_55, g80_56, g80_57, g80_58, g80_59, g80_60, g80_61, p32_3, p32_14, p32_15, p32_17, p33_0, p33_5, p33_6, p33_8, p33_11, p33_13, p33_14, p33_16, p47_0, p47_1, p47_2, p47_3, p47_4, p47_5, p47_6, p47_7, p47_10, p50_2, p53_1, p53_2, p53_3, p53_5, p53_6, p53_7, p59_0, p59_1, p59_2, p59_3, p59_6, p59_7, p59_8, p59_9, p66_0, p66_1, p66_4, p66_5, p69_0, p69_1, p80_0, p80_1, p80_6, p80_8, p80_10, p80_11, p80_12, p80_13, p80_14, p80_15, p80_16, p80_17, p80_19, p80_22, p80_25, p80_26, p80_29, p80_32, p80_33, p80_34, p80_37, p80_38, p80_39, p80_47, p80_48, p80_50, p80_51, p80_59, p80_61, l34, l35, l36, l37, l38, l39, l40, l41, l42, l43, l44, l45, l46, l48, l49, l51, l52, l54, l55, l56, l57, l58, l60, l61, l62, l63, l64, l65, l67, l68, l70, l71, l73, l74, l75, l76, l77, l78, l79, l81, l82, l83, l84, l85, l86, l87, l88, l89, l90, l91, l92, l93, l94, l95, l96, l97, l98, l99, l100, l101, l102, l103, l104, l105, l106, l107, l108, l109, l110, l111, l112, l113, s34, s35, s36, s37, s38, s39, s40, s42, s43, s44, s46, s48, s49, s51, s52, s54, s55, s56, s57, s58, s60, s61, s62, s63, s64, s65, s67, s68, s70, s71, s73, s74, s75, s76, s77, s78, s79, s81, s82, s83, s84, s85, s86, s87, s88, s89, s90, s91, s92, s93, s94, s95, s96, s97, s98, s99, s100, s101, s102, s103, s104, s105, s106, s107, s108, s109, s110, s111, s112, s113, sw_id, sq_id, ev_u1, ev_u2, ev_u3, ↓ok_imp, ↓no_imp, ↓ok_and, Int.reduceAdd, Int.reduceSub, Int.reduceMul, Int.reduceNeg, false_implies, true_implies, not_true_eq_false, not_false_eq_true]
  exact key
end LOOK
