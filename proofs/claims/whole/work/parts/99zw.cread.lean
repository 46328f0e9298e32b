/-! a LAW, as the class reads it -/
section CREAD
variable {d : Nat} {Q : sm_O → Prop} {K E Ls : sm_K} {H : sm_H} {S : sm_E} {L : sm_L} {T : Int → Int} {n : Int}
theorem y268_7 {a N : Nat} {xs : List Nat} (h : sm_kd K a = some (20, (N, xs))) : Bx S d 268 (7, (L, ([.inr (.inr a)], (K, H)))) Q ↔ Bx S d 268 (10, (L, ([.inr (.inr (K.length + 32))], (K ++ [(20, (N, []))], (fun a' i => if a' = K.length + 32 then H a i else H a' i))))) Q := bx_inl (rfl : sm_at 268 7 = some (.invokevirtual 316)) (fun _ => by
  show sm_clone 7 L [.inr (.inr a)] K H = _
  simp [sm_clone, h, sm_nx])
theorem y268_10 {a N : Nat} {xs : List Nat} (h : sm_kd K a = some (20, (N, xs))) : Bx S d 268 (10, (L, ([.inr (.inr a)], (K, H)))) Q ↔ Bx S d 268 (13, (L, ([.inr (.inr a)], (K, H)))) Q := bx_inl (rfl : sm_at 268 10 = some (.checkcast 317)) (fun _ => by
  show (match sm_ar K H 20 a with
      | some _ => if (14 : Nat) = 14 ∧ (317 : Nat) = 317 then sm_nx (10 + 3) L [.inr (.inr a)] K H else none
      | none => none) = _
  simp [sm_ar, h, sm_nx])
theorem kd_last {c : sm_C} : sm_kd (K ++ [c]) (K.length + 32) = some c := by
  unfold sm_kd
  rw [if_neg (by omega), show K.length + 32 - 32 = K.length by omega, List.getElem?_append_right (Nat.le_refl _), Nat.sub_self]
  rfl
theorem b_copy {a N : Nat} {m : Int} (hk : sm_kd K a = some (20, (N, []))) (hN : N ≤ 400) (hlen : ∀ κ : Int → Prop, wlen S K a κ ↔ κ (N : Int)) (hm : 0 ≤ m ∧ m ≤ N) (hQ : ∀ H' : sm_H, (∀ x i, x ≠ K.length + 32 → H' x i = H x i) → (∀ i : Int, 0 ≤ i → i < m → H' (K.length + 32) i = H a i) → Q (K ++ [(20, (m.toNat, []))], (H', some (.inr (.inr (K.length + 32)))))) : Ru S (d + 1) 268 [.inr (.inr a), .inl m] K H Q := by
  have hlt := kd_lt hk
  by_cases e : m = N
  · have fin := hQ (fun a' i => if a' = K.length + 32 then H a i else H a' i) (fun x i hx => if_neg hx) (fun i _ _ => if_pos rfl)
    have eN : m.toNat = N := by omega
    rw [eN] at fin
    simp (disch := omega) only [r268, x268_0, x268_1, x268_2, x268_3, x268_6, x268_13, x268_14, x268_15, x268_17, x268_18, x268_19, x268_20, x268_21, x268_22, x268_23, x268_24, x268_25, x268_28, x268_31, x268_32, ct_c, ct_z, cat_I, cat_J, cat_A, lq_I, lq_A, lq_n, Nat.reduceAdd, Nat.reduceLeDiff, true_and, and_true, true_or, or_true, ev_b, eq_self, Option.toList_some, Option.toList_none, List.cons_append, List.nil_append, hlen, y268_7 hk, y268_10 (kd_last (K := K) (c := (20, (N, []))))]
    simpa [e] using fin
  · have hz : ∀ (x : Nat) (i : Int), x ≠ K.length + 32 → sm_z H (K.length + 32) x i = H x i := fun x i h => by unfold sm_z; rw [if_neg h]
    have k1 : sm_kd (K ++ [(20, (m.toNat, []))]) a = some (20, (N, [])) := kd_app hk
    have k2 : sm_kd (K ++ [(20, (m.toNat, []))]) (K.length + 32) = some (20, (m.toNat, [])) := kd_last
    have hlen2 : ∀ κ : Int → Prop, wlen S (K ++ [(20, (m.toNat, []))]) a κ ↔ κ (N : Int) := by
      intro κ
      have e2 : sm_len S (K ++ [(20, (m.toNat, []))]) a = some N := by
        unfold sm_len
        rw [if_neg (by omega), if_neg (by omega), if_neg (by omega), k1]
        rfl
      unfold wlen
      rw [e2]
      exact ⟨fun h => h.2, fun h => ⟨by omega, h⟩⟩
    have fin := hQ (sm_cp (sm_z H (K.length + 32)) a 0 (K.length + 32) 0 m) (fun x i hx => by unfold sm_cp; rw [if_neg (fun h => hx h.1), hz _ _ hx]) (fun i i0 i1 => by unfold sm_cp; rw [if_pos ⟨rfl, i0, by omega⟩, hz _ _ (by omega)]; congr 1; omega)
    have hcp : ∀ κ : sm_H → Prop, wcp (K ++ [(20, (m.toNat, []))]) (sm_z H (K.length + 32)) a 0 (K.length + 32) 0 m κ ↔ κ (sm_cp (sm_z H (K.length + 32)) a 0 (K.length + 32) 0 m) := by
      intro κ
      unfold wcp
      rw [k1, k2]
      exact ⟨fun h => h.2, fun h => ⟨⟨rfl, Or.inl rfl, by omega, by omega, hm.1, by omega, by omega, fun h' => by cases h'⟩, h⟩⟩
    have emin : (if m < (N : Int) then m else (N : Int)) = m := by rw [if_pos (by omega)]
    simp (disch := omega) only [r268, x268_0, x268_1, x268_2, x268_3, x268_6, x268_13, x268_14, x268_15, x268_17, x268_18, x268_19, x268_20, x268_21, x268_22, x268_23, x268_24, x268_25, x268_28, x268_31, x268_32, ct_c, ct_z, cat_I, cat_J, cat_A, lq_I, lq_A, lq_n, Nat.reduceAdd, Nat.reduceLeDiff, true_and, and_true, true_or, or_true, ev_b, eq_self, Option.toList_some, Option.toList_none, List.cons_append, List.nil_append, hlen, hlen2, emin, hcp]
    simpa [e, show 0 ≤ m ∧ m ≤ 10000000 by omega] using fin
/-- the cells of a new Law at La -/
def lcells (La cl ng : Nat) : sm_K := [(4, (3, [0, La + 1, La + 2])), (20, (cl * 4, [])), (20, (ng, []))]
theorem ld_mid {P : sm_K} {fs : List Nat} : sm_kd (P ++ (4, (3, fs)) :: E) (P.length + 32) = some (4, (3, fs)) := by
  unfold sm_kd
  rw [if_neg (by omega), show P.length + 32 - 32 = P.length by omega, List.getElem?_append_right (Nat.le_refl _), Nat.sub_self]
  rfl
theorem ln_put {P : sm_K} {fs : List Nat} {k x : Nat} (hk : sm_ft 4 k = 3 ∧ sm_fin 4 k = true) {κ : sm_K → sm_H → Prop} : wptf 4 2 4 k (P ++ (4, (3, fs)) :: E) H (P.length + 32) (.inr (.inr x)) κ ↔ κ (P ++ (4, (3, fs.set k x)) :: E) H := by
  unfold wptf
  rw [ld_mid]
  simp only
  rw [if_pos ⟨trivial, fun _ => ⟨trivial, trivial⟩⟩]
  unfold sm_wr
  simp only [hk.1]
  rw [show P.length + 32 - 32 = P.length by omega, List.set_append_right _ _ (Nat.le_refl _), Nat.sub_self]
  exact Iff.rfl
theorem ln_int {P : sm_K} {fs : List Nat} {x : Int} {κ : sm_K → sm_H → Prop} : wptf 4 2 4 0 (P ++ (4, (3, fs)) :: E) H (P.length + 32) (.inl x) κ ↔ κ (P ++ (4, (3, fs)) :: E) (sm_u H (P.length + 32) 0 x) := by
  unfold wptf
  rw [ld_mid]
  exact Iff.rfl
theorem b_lawInit {P : sm_K} {cl : Int} {f g : Nat} : Ru S (d + 1) 37 [.inr (.inr (P.length + 32)), .inl cl, .inr (.inr f), .inr (.inr g)] (P ++ (4, (3, [0, 0, 0])) :: E) H Q ↔ Q (P ++ (4, (3, [0, f, g])) :: E, (sm_u H (P.length + 32) 0 cl, none)) := by
  have p1 := fun (fs : List Nat) (x : Nat) (H : sm_H) (κ : sm_K → sm_H → Prop) => ln_put (P := P) (E := E) (fs := fs) (H := H) (κ := κ) (k := 1) (x := x) (by decide)
  have p2 := fun (fs : List Nat) (x : Nat) (H : sm_H) (κ : sm_K → sm_H → Prop) => ln_put (P := P) (E := E) (fs := fs) (H := H) (κ := κ) (k := 2) (x := x) (by decide)
  simp (disch := omega) only [r37, x37_0, x37_1, x37_4, x37_5, x37_6, x37_9, x37_10, x37_11, x37_14, x37_15, x37_16, x37_19, ct_c, ct_z, cat_I, cat_J, cat_A, lq_I, lq_A, lq_n, Nat.reduceAdd, Nat.reduceLeDiff, true_and, and_true, true_or, or_true, ev_b, eq_self, Option.toList_some, Option.toList_none, List.cons_append, List.nil_append, ln_int, p1, p2, List.set]
  simp
theorem c_mk {x1 x2 : Option sm_V} {cl ng : Nat} (h7 : H 47 7 = cl) (h10 : H 47 10 = ng) (hc : cl ≤ 12) (hg : ng ≤ 400) (hQ : ∀ H' : sm_H, (∀ x i, ¬ (Ls.length + 114 ≤ x ∧ x ≤ Ls.length + 116) → H' x i = H x i) → H' (Ls.length + 114) 0 = cl → (∀ i : Int, 0 ≤ i → i < (cl : Int) * 4 → H' (Ls.length + 115) i = H 48 i) → (∀ i : Int, 0 ≤ i → i < ng → H' (Ls.length + 116) i = H 49 i) → Q (kk0 ++ (Ls ++ lcells (Ls.length + 114) cl ng), (H', some (.inr (.inr (Ls.length + 114)))))) : Bx S (d + 1) 69 (76, ([some (.inr (.inr 47)), x1, x2], ([], (kk0 ++ Ls, H)))) Q := by
  have eL : (kk0 ++ Ls).length + 32 = Ls.length + 114 := by rw [List.length_append, kk0_len]; omega
  have hz : ∀ (x : Nat) (i : Int), x ≠ Ls.length + 114 → sm_z H (Ls.length + 114) x i = H x i := fun x i h => by unfold sm_z; rw [if_neg h]
  have e1 : ((kk0 ++ Ls) ++ [(4, (3, List.replicate 3 0))] : sm_K) = kk0 ++ (Ls ++ [(4, (3, [0, 0, 0]))]) := by rw [List.append_assoc]; rfl
  have eL1 : (kk0 ++ (Ls ++ [(4, (3, [0, 0, 0]))]) : sm_K).length + 32 = Ls.length + 115 := by simp [kk0_len]; omega
  have kA : Ru S (d + 1) 268 [.inr (.inr 48), .inl ((cl : Int) * 4)] (kk0 ++ (Ls ++ [(4, (3, [0, 0, 0]))])) (sm_z H (Ls.length + 114)) (fun o => Bx S (d + 1) 69 (97, ([some (.inr (.inr 47)), x1, x2], (o.2.2.toList ++ [.inl (cl : Int), .inr (.inr (Ls.length + 114)), .inr (.inr (Ls.length + 114))], (o.1, o.2.1)))) Q) := by
    refine b_copy (N := 48) rfl (by omega) (fun κ => n48) (by omega) (fun H2 f1 f2 => ?_)
    rw [eL1] at f1 f2 ⊢
    have e2 : (kk0 ++ (Ls ++ [(4, (3, [0, 0, 0]))]) ++ [(20, (((cl : Int) * 4).toNat, []))] : sm_K) = kk0 ++ (Ls ++ [(4, (3, [0, 0, 0])), (20, (cl * 4, []))]) := by
      rw [List.append_assoc, List.append_assoc, show ((cl : Int) * 4).toNat = cl * 4 by omega]; rfl
    have eL2 : (kk0 ++ (Ls ++ [(4, (3, [0, 0, 0])), (20, (cl * 4, []))]) : sm_K).length + 32 = Ls.length + 116 := by simp [kk0_len]; omega
    have g10 : H2 47 10 = (ng : Int) := by rw [f1 _ _ (by omega), hz _ _ (by omega)]; exact h10
    have kB : Ru S (d + 1) 268 [.inr (.inr 49), .inl (ng : Int)] (kk0 ++ (Ls ++ [(4, (3, [0, 0, 0])), (20, (cl * 4, []))])) H2 (fun o => Bx S (d + 1) 69 (108, ([some (.inr (.inr 47)), x1, x2], (o.2.2.toList ++ [.inr (.inr (Ls.length + 115)), .inl (cl : Int), .inr (.inr (Ls.length + 114)), .inr (.inr (Ls.length + 114))], (o.1, o.2.1)))) Q) := by
      refine b_copy (N := 400) rfl (by omega) (fun κ => n49) (by omega) (fun H3 f3 f4 => ?_)
      rw [eL2] at f3 f4 ⊢
      have e3 : (kk0 ++ (Ls ++ [(4, (3, [0, 0, 0])), (20, (cl * 4, []))]) ++ [(20, (((ng : Int)).toNat, []))] : sm_K) = (kk0 ++ Ls) ++ (4, (3, [0, 0, 0])) :: [(20, (cl * 4, [])), (20, (ng, []))] := by
        rw [List.append_assoc, List.append_assoc, List.append_assoc, show ((ng : Int)).toNat = ng by omega]; rfl
      have hli := fun Q => b_lawInit (S := S) (d := d) (Q := Q) (H := H3) (P := kk0 ++ Ls) (E := [(20, (cl * 4, [])), (20, (ng, []))]) (cl := (cl : Int)) (f := Ls.length + 115) (g := Ls.length + 116)
      rw [eL] at hli
      have e4 : ((kk0 ++ Ls) ++ (4, (3, [0, Ls.length + 115, Ls.length + 116])) :: [(20, (cl * 4, [])), (20, (ng, []))] : sm_K) = kk0 ++ (Ls ++ lcells (Ls.length + 114) cl ng) := by rw [List.append_assoc]; rfl
      have fin := hQ (sm_u H3 (Ls.length + 114) 0 (cl : Int)) (fun x i hx => by rw [ev_u2 (by omega), f3 _ _ (by omega), f1 _ _ (by omega), hz _ _ (by omega)]) ev_u1 (fun i i0 i1 => by rw [ev_u2 (by omega), f3 _ _ (by omega), f2 i i0 i1, hz _ _ (by omega)]) (fun i i0 i1 => by rw [ev_u2 (by omega), f4 i i0 i1, f1 _ _ (by omega), hz _ _ (by omega)])
      rw [← e4] at fin
      rw [e3]
      simp (disch := omega) only [x69_0, x69_1, x69_2, x69_5, x69_6, x69_7, x69_10, x69_11, x69_12, x69_15, x69_16, x69_17, x69_20, x69_21, x69_22, x69_25, x69_26, x69_27, x69_30, x69_31, x69_32, x69_35, x69_36, x69_40, x69_43, x69_45, x69_48, x69_49, x69_50, x69_53, x69_56, x69_59, x69_60, x69_61, x69_64, x69_65, x69_66, x69_69, x69_70, x69_73, x69_76, x69_79, x69_80, x69_81, x69_84, x69_85, x69_88, x69_89, x69_92, x69_93, x69_94, x69_97, x69_98, x69_101, x69_102, x69_105, x69_108, x69_111, x69_112, x69_113, x69_115, x69_118, x69_121, x69_124, x69_125, x69_128, x69_131, x69_132, x69_133, x69_136, x69_139, x69_140, ct_c, ct_z, cat_I, cat_J, cat_A, lq_I, lq_A, lq_n, Nat.reduceAdd, Nat.reduceLeDiff, true_and, and_true, true_or, or_true, ev_b, eq_self, Option.toList_some, Option.toList_none, List.cons_append, List.nil_append, hli]
      simpa using fin
    rw [e2]
    simp (disch := omega) only [x69_0, x69_1, x69_2, x69_5, x69_6, x69_7, x69_10, x69_11, x69_12, x69_15, x69_16, x69_17, x69_20, x69_21, x69_22, x69_25, x69_26, x69_27, x69_30, x69_31, x69_32, x69_35, x69_36, x69_40, x69_43, x69_45, x69_48, x69_49, x69_50, x69_53, x69_56, x69_59, x69_60, x69_61, x69_64, x69_65, x69_66, x69_69, x69_70, x69_73, x69_76, x69_79, x69_80, x69_81, x69_84, x69_85, x69_88, x69_89, x69_92, x69_93, x69_94, x69_97, x69_98, x69_101, x69_102, x69_105, x69_111, x69_112, x69_113, x69_115, x69_118, x69_121, x69_124, x69_125, x69_128, x69_131, x69_132, x69_133, x69_136, x69_139, x69_140, ct_c, ct_z, cat_I, cat_J, cat_A, lq_I, lq_A, lq_n, Nat.reduceAdd, Nat.reduceLeDiff, true_and, and_true, true_or, or_true, ev_b, eq_self, Option.toList_some, Option.toList_none, List.cons_append, List.nil_append, rc32, rc33, n34, n35, n36, n37, n38, n39, n40, n41, n42, n43, n44, n45, n46, rc47, n48, n49, rc50, n51, n52, rc53, n54, n55, n56, n57, n58, rc59, n60, n61, n62, n63, n64, n65, rc66, n67, n68, rc69, n70, n71, rc72, n73, n74, n75, n76, n77, n78, n79, rc80, n81, n82, n83, n84, n85, n86, n87, n88, n89, n90, n91, n92, n93, n94, n95, n96, n97, n98, n99, n100, n101, n102, n103, n104, n105, n106, n107, n108, n109, n110, n111, n112, n113, g32_0, g32_1, g32_2, g32_3, g32_4, g32_5, g32_6, g32_7, g32_8, g32_9, g32_10, g32_11, g32_12, g32_13, g32_14, g32_15, g32_16, g32_17, g33_0, g33_1, g33_2, g33_3, g33_4, g33_5, g33_6, g33_7, g33_8, g33_9, g33_10, g33_11, g33_12, g33_13, g33_14, g33_15, g33_16, g33_17, g33_18, g47_0, g47_1, g47_2, g47_3, g47_4, g47_5, g47_6, g47_7, g47_8, g47_9, g47_10, g50_0, g50_1, g50_2, g53_0, g53_1, g53_2, g53_3, g53_4, g53_5, g53_6, g53_7, g53_8, g53_9, g53_10, g53_11, g59_0, g59_1, g59_2, g59_3, g59_4, g59_5, g59_6, g59_7, g59_8, g59_9, g59_10, g59_11, g59_12, g66_0, g66_1, g66_2, g66_3, g66_4, g66_5, g69_0, g69_1, g69_2, g69_3, g72_0, g72_1, g72_2, g80_0, g80_1, g80_2, g80_3, g80_4, g80_5, g80_6, g80_7, g80_8, g80_9, g80_10, g80_11, g80_12, g80_13, g80_14, g80_15, g80_16, g80_17, g80_18, g80_19, g80_20, g80_21, g80_22, g80_23, g80_24, g80_25, g80_26, g80_27, g80_28, g80_29, g80_30, g80_31, g80_32, g80_33, g80_34, g80_35, g80_36, g80_37, g80_38, g80_39, g80_40, g80_41, g80_42, g80_43, g80_44, g80_45, g80_46, g80_47, g80_48, g80_49, g80_50, g80_51, g80_52, g80_53, g80_54, g80_55, g80_56, g80_57, g80_58, g80_59, g80_60, g80_61, p32_3, p32_14, p32_15, p32_17, p33_0, p33_5, p33_6, p33_8, p33_11, p33_13, p33_14, p33_16, p47_0, p47_1, p47_2, p47_3, p47_4, p47_5, p47_6, p47_7, p47_10, p50_2, p53_1, p53_2, p53_3, p53_5, p53_6, p53_7, p59_0, p59_1, p59_2, p59_3, p59_6, p59_7, p59_8, p59_9, p66_0, p66_1, p66_4, p66_5, p69_0, p69_1, p80_0, p80_1, p80_6, p80_8, p80_10, p80_11, p80_12, p80_13, p80_14, p80_15, p80_16, p80_17, p80_19, p80_22, p80_25, p80_26, p80_29, p80_32, p80_33, p80_34, p80_37, p80_38, p80_39, p80_47, p80_48, p80_50, p80_51, p80_59, p80_61, l34, l35, l36, l37, l38, l39, l40, l41, l42, l43, l44, l45, l46, l48, l49, l51, l52, l54, l55, l56, l57, l58, l60, l61, l62, l63, l64, l65, l67, l68, l70, l71, l73, l74, l75, l76, l77, l78, l79, l81, l82, l83, l84, l85, l86, l87, l88, l89, l90, l91, l92, l93, l94, l95, l96, l97, l98, l99, l100, l101, l102, l103, l104, l105, l106, l107, l108, l109, l110, l111, l112, l113, s34, s35, s36, s37, s38, s39, s40, s42, s43, s44, s46, s48, s49, s51, s52, s54, s55, s56, s57, s58, s60, s61, s62, s63, s64, s65, s67, s68, s70, s71, s73, s74, s75, s76, s77, s78, s79, s81, s82, s83, s84, s85, s86, s87, s88, s89, s90, s91, s92, s93, s94, s95, s96, s97, s98, s99, s100, s101, s102, s103, s104, s105, s106, s107, s108, s109, s110, s111, s112, s113, g10]
    simpa using kB
  have g7 : sm_z H (Ls.length + 114) 47 7 = (cl : Int) := by rw [hz _ _ (by omega)]; exact h7
  simp (disch := omega) only [x69_76, eL, e1]
  simp (disch := omega) only [x69_0, x69_1, x69_2, x69_5, x69_6, x69_7, x69_10, x69_11, x69_12, x69_15, x69_16, x69_17, x69_20, x69_21, x69_22, x69_25, x69_26, x69_27, x69_30, x69_31, x69_32, x69_35, x69_36, x69_40, x69_43, x69_45, x69_48, x69_49, x69_50, x69_53, x69_56, x69_59, x69_60, x69_61, x69_64, x69_65, x69_66, x69_69, x69_70, x69_73, x69_79, x69_80, x69_81, x69_84, x69_85, x69_88, x69_89, x69_92, x69_93, x69_94, x69_98, x69_101, x69_102, x69_105, x69_108, x69_111, x69_112, x69_113, x69_115, x69_118, x69_121, x69_124, x69_125, x69_128, x69_131, x69_132, x69_133, x69_136, x69_139, x69_140, ct_c, ct_z, cat_I, cat_J, cat_A, lq_I, lq_A, lq_n, Nat.reduceAdd, Nat.reduceLeDiff, true_and, and_true, true_or, or_true, ev_b, eq_self, Option.toList_some, Option.toList_none, List.cons_append, List.nil_append, rc32, rc33, n34, n35, n36, n37, n38, n39, n40, n41, n42, n43, n44, n45, n46, rc47, n48, n49, rc50, n51, n52, rc53, n54, n55, n56, n57, n58, rc59, n60, n61, n62, n63, n64, n65, rc66, n67, n68, rc69, n70, n71, rc72, n73, n74, n75, n76, n77, n78, n79, rc80, n81, n82, n83, n84, n85, n86, n87, n88, n89, n90, n91, n92, n93, n94, n95, n96, n97, n98, n99, n100, n101, n102, n103, n104, n105, n106, n107, n108, n109, n110, n111, n112, n113, g32_0, g32_1, g32_2, g32_3, g32_4, g32_5, g32_6, g32_7, g32_8, g32_9, g32_10, g32_11, g32_12, g32_13, g32_14, g32_15, g32_16, g32_17, g33_0, g33_1, g33_2, g33_3, g33_4, g33_5, g33_6, g33_7, g33_8, g33_9, g33_10, g33_11, g33_12, g33_13, g33_14, g33_15, g33_16, g33_17, g33_18, g47_0, g47_1, g47_2, g47_3, g47_4, g47_5, g47_6, g47_7, g47_8, g47_9, g47_10, g50_0, g50_1, g50_2, g53_0, g53_1, g53_2, g53_3, g53_4, g53_5, g53_6, g53_7, g53_8, g53_9, g53_10, g53_11, g59_0, g59_1, g59_2, g59_3, g59_4, g59_5, g59_6, g59_7, g59_8, g59_9, g59_10, g59_11, g59_12, g66_0, g66_1, g66_2, g66_3, g66_4, g66_5, g69_0, g69_1, g69_2, g69_3, g72_0, g72_1, g72_2, g80_0, g80_1, g80_2, g80_3, g80_4, g80_5, g80_6, g80_7, g80_8, g80_9, g80_10, g80_11, g80_12, g80_13, g80_14, g80_15, g80_16, g80_17, g80_18, g80_19, g80_20, g80_21, g80_22, g80_23, g80_24, g80_25, g80_26, g80_27, g80_28, g80_29, g80_30, g80_31, g80_32, g80_33, g80_34, g80_35, g80_36, g80_37, g80_38, g80_39, g80_40, g80_41, g80_42, g80_43, g80_44, g80_45, g80_46, g80_47, g80_48, g80_49, g80_50, g80_51, g80_52, g80_53, g80_54, g80_55, g80_56, g80_57, g80_58, g80_59, g80_60, g80_61, p32_3, p32_14, p32_15, p32_17, p33_0, p33_5, p33_6, p33_8, p33_11, p33_13, p33_14, p33_16, p47_0, p47_1, p47_2, p47_3, p47_4, p47_5, p47_6, p47_7, p47_10, p50_2, p53_1, p53_2, p53_3, p53_5, p53_6, p53_7, p59_0, p59_1, p59_2, p59_3, p59_6, p59_7, p59_8, p59_9, p66_0, p66_1, p66_4, p66_5, p69_0, p69_1, p80_0, p80_1, p80_6, p80_8, p80_10, p80_11, p80_12, p80_13, p80_14, p80_15, p80_16, p80_17, p80_19, p80_22, p80_25, p80_26, p80_29, p80_32, p80_33, p80_34, p80_37, p80_38, p80_39, p80_47, p80_48, p80_50, p80_51, p80_59, p80_61, l34, l35, l36, l37, l38, l39, l40, l41, l42, l43, l44, l45, l46, l48, l49, l51, l52, l54, l55, l56, l57, l58, l60, l61, l62, l63, l64, l65, l67, l68, l70, l71, l73, l74, l75, l76, l77, l78, l79, l81, l82, l83, l84, l85, l86, l87, l88, l89, l90, l91, l92, l93, l94, l95, l96, l97, l98, l99, l100, l101, l102, l103, l104, l105, l106, l107, l108, l109, l110, l111, l112, l113, s34, s35, s36, s37, s38, s39, s40, s42, s43, s44, s46, s48, s49, s51, s52, s54, s55, s56, s57, s58, s60, s61, s62, s63, s64, s65, s67, s68, s70, s71, s73, s74, s75, s76, s77, s78, s79, s81, s82, s83, s84, s85, s86, s87, s88, s89, s90, s91, s92, s93, s94, s95, s96, s97, s98, s99, s100, s101, s102, s103, s104, s105, s106, s107, s108, s109, s110, s111, s112, s113, g7, sw_id]
  simpa using kA
end CREAD
