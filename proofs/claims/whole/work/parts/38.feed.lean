/-! bytes on the tape -/
def byt (x s : Int) : Int := sm_and (sm_shr x s) 255
theorem byt_r {x s : Int} : 0 ≤ byt x s ∧ byt x s ≤ 255 := by
  unfold byt sm_and
  generalize Int32.ofInt (sm_shr x s) = y
  have h : (y &&& Int32.ofInt 255).toInt = ((y.toBitVec &&& 255#32).toNat : Int) := by
    rw [← Int32.toInt_toBitVec, Int32.toBitVec_and]
    have e : (Int32.ofInt 255).toBitVec = 255#32 := rfl
    rw [e, BitVec.toInt_eq_toNat_cond, if_pos]
    have := BitVec.toNat_and y.toBitVec 255#32
    rw [this]
    have h2 : y.toBitVec.toNat &&& (255#32).toNat ≤ 255 := Nat.and_le_right
    omega
  rw [h, BitVec.toNat_and]
  have h2 : y.toBitVec.toNat &&& (255#32).toNat ≤ 255 := Nat.and_le_right
  omega
theorem b255 : ∀ i : Fin 32, 8 ≤ i.val → (255#32)[i.val] = false := by decide
theorem byt_u {x s : Int} (hs : s = 0 ∨ s = 8 ∨ s = 16 ∨ s = 24) : sm_and (sm_ushr x s) 255 = byt x s := by
  unfold byt sm_and sm_ushr sm_shr
  rw [Int32.ofInt_toInt, Int32.ofInt_toInt]
  congr 1
  generalize Int32.ofInt x = y
  apply Int32.toBitVec_inj.1
  have e : (Int32.ofInt 255).toBitVec = 255#32 := rfl
  rcases hs with rfl | rfl | rfl | rfl
  · rw [Int32.toBitVec_and, Int32.toBitVec_and, e]
    ext i hi
    simp
  · rw [Int32.toBitVec_and, Int32.toBitVec_and, e]
    ext i hi
    simp
    by_cases h8 : i < 8
    · rw [BitVec.getElem_sshiftRight, dif_pos (show 8 + i < 32 by omega), BitVec.getLsbD_eq_getElem]
    · rw [show (255#32)[i] = false from b255 ⟨i, hi⟩ (by show 8 ≤ i; omega)]
      simp
  · rw [Int32.toBitVec_and, Int32.toBitVec_and, e]
    ext i hi
    simp
    by_cases h8 : i < 8
    · rw [BitVec.getElem_sshiftRight, dif_pos (show 16 + i < 32 by omega), BitVec.getLsbD_eq_getElem]
    · rw [show (255#32)[i] = false from b255 ⟨i, hi⟩ (by show 8 ≤ i; omega)]
      simp
  · rw [Int32.toBitVec_and, Int32.toBitVec_and, e]
    ext i hi
    simp
    by_cases h8 : i < 8
    · rw [BitVec.getElem_sshiftRight, dif_pos (show 24 + i < 32 by omega), BitVec.getLsbD_eq_getElem]
    · rw [show (255#32)[i] = false from b255 ⟨i, hi⟩ (by show 8 ≤ i; omega)]
      simp
/-- four bytes of a number behind place n of row a -/
def fr (H : sm_H) (a : Nat) (n x : Int) : sm_H := sm_u (sm_u (sm_u (sm_u H a n (byt x 24)) a (n + 1) (byt x 16)) a (n + 2) (byt x 8)) a (n + 3) (byt x 0)
theorem ok_imp {p q : Prop} (h : p) : (p → q) ↔ q := ⟨fun f => f h, fun f _ => f⟩
theorem no_imp {p q : Prop} (h : ¬ p) : (p → q) ↔ True := ⟨fun _ => trivial, fun _ f => absurd f h⟩
theorem ok_and {p q : Prop} (h : p) : (p ∧ q) ↔ q := ⟨fun f => f.2, fun f => ⟨h, f⟩⟩
section FEED
variable {d : Nat} {Ls : sm_K} {H H2 : sm_H} {S : sm_E} {Q : sm_O → Prop}
theorem b_tape {x : Int} (hn : 0 ≤ H 32 3 ∧ H 32 3 + 4 ≤ 400) : Ru S (d + 1) 97 [.inr (.inr 32), .inl x] (kk0 ++ Ls) H Q ↔ Q (kk0 ++ Ls, (sm_u (fr H 46 (H 32 3) x) 32 3 (H 32 3 + 4), none)) := by
  simp (disch := omega) only [r97, x97_0, x97_2, x97_3, x97_4, x97_7, x97_8, x97_11, x97_14, x97_17, x97_18, x97_21, x97_22, x97_25, x97_26, x97_27, x97_28, x97_31, x97_32, x97_33, x97_34, x97_35, x97_38, x97_39, x97_40, x97_43, x97_46, x97_49, ct_c, ct_z, cat_I, cat_J, cat_A, lq_I, lq_A, lq_n, Nat.reduceAdd, Nat.reduceLeDiff, true_and, and_true, true_or, or_true, ev_b, eq_self, Option.toList_some, Option.toList_none, List.cons_append, List.nil_append, rc32, rc33, n34, n35, n36, n37, n38, n39, n40, n41, n42, n43, n44, n45, n46, rc47, n48, n49, rc50, n51, n52, rc53, n54, n55, n56, n57, n58, rc59, n60, n61, n62, n63, n64, n65, rc66, n67, n68, rc69, n70, n71, rc72, n73, n74, n75, n76, n77, n78, n79, rc80, n81, n82, n83, n84, n85, n86, n87, n88, n89, n90, n91, n92, n93, n94, n95, n96, n97, n98, n99, n100, n101, n102, n103, n104, n105, n106, n107, n108, n109, n110, n111, n112, n113, g32_0, g32_1, g32_2, g32_3, g32_4, g32_5, g32_6, g32_7, g32_8, g32_9, g32_10, g32_11, g32_12, g32_13, g32_14, g32_15, g32_16, g32_17, g33_0, g33_1, g33_2, g33_3, g33_4, g33_5, g33_6, g33_7, g33_8, g33_9, g33_10, g33_11, g33_12, g33_13, g33_14, g33_15, g33_16, g33_17, g33_18, g47_0, g47_1, g47_2, g47_3, g47_4, g47_5, g47_6, g47_7, g47_8, g47_9, g47_10, g50_0, g50_1, g50_2, g53_0, g53_1, g53_2, g53_3, g53_4, g53_5, g53_6, g53_7, g53_8, g53_9, g53_10, g53_11, g59_0, g59_1, g59_2, g59_3, g59_4, g59_5, g59_6, g59_7, g59_8, g59_9, g59_10, g59_11, g59_12, g66_0, g66_1, g66_2, g66_3, g66_4, g66_5, g69_0, g69_1, g69_2, g69_3, g72_0, g72_1, g72_2, g80_0, g80_1, g80_2, g80_3, g80_4, g80_5, g80_6, g80_7, g80_8, g80_9, g80_10, g80_11, g80_12, g80_13, g80_14, g80_15, g80_16, g80_17, g80_18, g80_19, g80_20, g80_21, g80_22, g80_23, g80_24, g80_25, g80_26, g80_27, g80_28, g80_29, g80_30, g80_31, g80_32, g80_33, g80_34, g80_35, g80_36, g80_37, g80_38, g80_39, g80_40, g80_41, g80_42, g80_43, g80_44, g80_45, g80_46, g80_47, g80_48, g80_49, g80_50, g80_51, g80_52, g80_53, g80_54, g80_55, g80_56, g80_57, g80_58, g80_59, g80_60, g80_61, p32_3, p32_14, p32_15, p32_17, p33_0, p33_5, p33_6, p33_8, p33_11, p33_13, p33_14, p33_16, p47_0, p47_1, p47_2, p47_3, p47_4, p47_5, p47_6, p47_7, p47_10, p50_2, p53_1, p53_2, p53_3, p53_5, p53_6, p53_7, p59_0, p59_1, p59_2, p59_3, p59_6, p59_7, p59_8, p59_9, p66_0, p66_1, p66_4, p66_5, p69_0, p69_1, p80_0, p80_1, p80_6, p80_8, p80_10, p80_11, p80_12, p80_13, p80_14, p80_15, p80_16, p80_17, p80_19, p80_22, p80_25, p80_26, p80_29, p80_32, p80_33, p80_34, p80_37, p80_38, p80_39, p80_47, p80_48, p80_50, p80_51, p80_59, p80_61, l34, l35, l36, l37, l38, l39, l40, l41, l42, l43, l44, l45, l46, l48, l49, l51, l52, l54, l55, l56, l57, l58, l60, l61, l62, l63, l64, l65, l67, l68, l70, l71, l73, l74, l75, l76, l77, l78, l79, l81, l82, l83, l84, l85, l86, l87, l88, l89, l90, l91, l92, l93, l94, l95, l96, l97, l98, l99, l100, l101, l102, l103, l104, l105, l106, l107, l108, l109, l110, l111, l112, l113, s34, s35, s36, s37, s38, s39, s40, s42, s43, s44, s46, s48, s49, s51, s52, s54, s55, s56, s57, s58, s60, s61, s62, s63, s64, s65, s67, s68, s70, s71, s73, s74, s75, s76, s77, s78, s79, s81, s82, s83, s84, s85, s86, s87, s88, s89, s90, s91, s92, s93, s94, s95, s96, s97, s98, s99, s100, s101, s102, s103, s104, s105, s106, s107, s108, s109, s110, s111, s112, s113, sw_id, ev_u1, ev_u2, ev_u3, byt_u, ↓ok_imp, ↓no_imp, ↓ok_and, Int.reduceSub, Int.reduceNeg, Int.reduceAdd]
  refine iff_of_eq (congrArg (fun h => Q (kk0 ++ Ls, (h, none))) ?_)
  funext a i
  simp only [fr, sm_u]
  grind
theorem m_four {x : Int} (hn : 0 ≤ H 80 10 ∧ H 80 10 + 4 ≤ 400) : Ru S (d + 1) 166 [.inr (.inr 80), .inl x] (kk0 ++ Ls) H Q ↔ Q (kk0 ++ Ls, (sm_u (fr H 86 (H 80 10) x) 80 10 (H 80 10 + 4), none)) := by
  have eb : ∀ s, sm_and (sm_shr x s) 255 = byt x s := fun _ => rfl
  simp (disch := omega) only [r166, x166_0, x166_2, x166_3, x166_4, x166_7, x166_8, x166_11, x166_12, x166_15, x166_16, x166_17, x166_18, x166_21, x166_22, x166_23, x166_24, x166_25, x166_28, x166_29, x166_30, x166_33, x166_36, x166_39, ct_c, ct_z, cat_I, cat_J, cat_A, lq_I, lq_A, lq_n, Nat.reduceAdd, Nat.reduceLeDiff, true_and, and_true, true_or, or_true, ev_b, eq_self, Option.toList_some, Option.toList_none, List.cons_append, List.nil_append, rc32, rc33, n34, n35, n36, n37, n38, n39, n40, n41, n42, n43, n44, n45, n46, rc47, n48, n49, rc50, n51, n52, rc53, n54, n55, n56, n57, n58, rc59, n60, n61, n62, n63, n64, n65, rc66, n67, n68, rc69, n70, n71, rc72, n73, n74, n75, n76, n77, n78, n79, rc80, n81, n82, n83, n84, n85, n86, n87, n88, n89, n90, n91, n92, n93, n94, n95, n96, n97, n98, n99, n100, n101, n102, n103, n104, n105, n106, n107, n108, n109, n110, n111, n112, n113, g32_0, g32_1, g32_2, g32_3, g32_4, g32_5, g32_6, g32_7, g32_8, g32_9, g32_10, g32_11, g32_12, g32_13, g32_14, g32_15, g32_16, g32_17, g33_0, g33_1, g33_2, g33_3, g33_4, g33_5, g33_6, g33_7, g33_8, g33_9, g33_10, g33_11, g33_12, g33_13, g33_14, g33_15, g33_16, g33_17, g33_18, g47_0, g47_1, g47_2, g47_3, g47_4, g47_5, g47_6, g47_7, g47_8, g47_9, g47_10, g50_0, g50_1, g50_2, g53_0, g53_1, g53_2, g53_3, g53_4, g53_5, g53_6, g53_7, g53_8, g53_9, g53_10, g53_11, g59_0, g59_1, g59_2, g59_3, g59_4, g59_5, g59_6, g59_7, g59_8, g59_9, g59_10, g59_11, g59_12, g66_0, g66_1, g66_2, g66_3, g66_4, g66_5, g69_0, g69_1, g69_2, g69_3, g72_0, g72_1, g72_2, g80_0, g80_1, g80_2, g80_3, g80_4, g80_5, g80_6, g80_7, g80_8, g80_9, g80_10, g80_11, g80_12, g80_13, g80_14, g80_15, g80_16, g80_17, g80_18, g80_19, g80_20, g80_21, g80_22, g80_23, g80_24, g80_25, g80_26, g80_27, g80_28, g80_29, g80_30, g80_31, g80_32, g80_33, g80_34, g80_35, g80_36, g80_37, g80_38, g80_39, g80_40, g80_41, g80_42, g80_43, g80_44, g80_45, g80_46, g80_47, g80_48, g80_49, g80_50, g80_51, g80_52, g80_53, g80_54, g80_55, g80_56, g80_57, g80_58, g80_59, g80_60, g80_61, p32_3, p32_14, p32_15, p32_17, p33_0, p33_5, p33_6, p33_8, p33_11, p33_13, p33_14, p33_16, p47_0, p47_1, p47_2, p47_3, p47_4, p47_5, p47_6, p47_7, p47_10, p50_2, p53_1, p53_2, p53_3, p53_5, p53_6, p53_7, p59_0, p59_1, p59_2, p59_3, p59_6, p59_7, p59_8, p59_9, p66_0, p66_1, p66_4, p66_5, p69_0, p69_1, p80_0, p80_1, p80_6, p80_8, p80_10, p80_11, p80_12, p80_13, p80_14, p80_15, p80_16, p80_17, p80_19, p80_22, p80_25, p80_26, p80_29, p80_32, p80_33, p80_34, p80_37, p80_38, p80_39, p80_47, p80_48, p80_50, p80_51, p80_59, p80_61, l34, l35, l36, l37, l38, l39, l40, l41, l42, l43, l44, l45, l46, l48, l49, l51, l52, l54, l55, l56, l57, l58, l60, l61, l62, l63, l64, l65, l67, l68, l70, l71, l73, l74, l75, l76, l77, l78, l79, l81, l82, l83, l84, l85, l86, l87, l88, l89, l90, l91, l92, l93, l94, l95, l96, l97, l98, l99, l100, l101, l102, l103, l104, l105, l106, l107, l108, l109, l110, l111, l112, l113, s34, s35, s36, s37, s38, s39, s40, s42, s43, s44, s46, s48, s49, s51, s52, s54, s55, s56, s57, s58, s60, s61, s62, s63, s64, s65, s67, s68, s70, s71, s73, s74, s75, s76, s77, s78, s79, s81, s82, s83, s84, s85, s86, s87, s88, s89, s90, s91, s92, s93, s94, s95, s96, s97, s98, s99, s100, s101, s102, s103, s104, s105, s106, s107, s108, s109, s110, s111, s112, s113, sw_id, ev_u1, ev_u2, ev_u3, eb, ↓ok_imp, ↓no_imp, ↓ok_and, Int.reduceSub, Int.reduceNeg, Int.reduceAdd]
  refine iff_of_eq (congrArg (fun h => Q (kk0 ++ Ls, (h, none))) ?_)
  funext a i
  simp only [fr, sm_u]
  grind
def bb (x k : Int) : Int := if k = 0 then byt x 24 else if k = 1 then byt x 16 else if k = 2 then byt x 8 else byt x 0
theorem bb_r {x k : Int} : 0 ≤ bb x k ∧ bb x k ≤ 255 := by
  unfold bb
  repeat' split
  all_goals exact byt_r
theorem fr_at {a a' : Nat} {n x i : Int} : fr H a n x a' i = if a' = a ∧ n ≤ i ∧ i < n + 4 then bb x (i - n) else H a' i := by
  simp only [fr, sm_u, bb]
  grind
theorem fr_u {a b : Nat} {n x j v : Int} (h : a ≠ b) : fr (sm_u H b j v) a n x = sm_u (fr H a n x) b j v := by
  funext a' i
  simp only [fr, sm_u]
  grind
theorem u_u {a : Nat} {j v w : Int} : sm_u (sm_u H a j v) a j w = sm_u H a j w := by
  funext a' i
  simp only [sm_u]
  grind
theorem fr_2 {a b : Nat} {n x j : Int} (h : b ≠ a) : fr H a n x b j = H b j := by rw [fr_at, if_neg (by omega)]
def fr5 (H : sm_H) (a : Nat) (n x1 x2 x3 x4 x5 : Int) : sm_H := fr (fr (fr (fr (fr H a n x1) a (n + 4) x2) a (n + 8) x3) a (n + 12) x4) a (n + 16) x5
theorem b_feed {x1 x2 x3 x4 x5 : Int} (hn : 0 ≤ H 32 3 ∧ H 32 3 ≤ 400) : Ru S (d + 2) 96 [.inr (.inr 32), .inl x1, .inl x2, .inl x3, .inl x4, .inl x5] (kk0 ++ Ls) H Q ↔ (380 < H 32 3 → Q (kk0 ++ Ls, (H, some (.inl (-1))))) ∧ (H 32 3 ≤ 380 → Q (kk0 ++ Ls, (sm_u (fr5 H 46 (H 32 3) x1 x2 x3 x4 x5) 32 3 (H 32 3 + 20), some (.inl (H 32 3 + 20))))) := by
  by_cases h : H 32 3 ≤ 380
  · simp (disch := first | omega | (simp (disch := omega) only [ev_u1, ev_u2, ev_u3, fr_2]; omega)) only [r96, x96_0, x96_1, x96_4, x96_6, x96_7, x96_10, x96_13, x96_14, x96_15, x96_16, x96_17, x96_20, x96_21, x96_22, x96_25, x96_26, x96_27, x96_30, x96_31, x96_33, x96_36, x96_37, x96_39, x96_42, x96_43, x96_46, ct_c, ct_z, cat_I, cat_J, cat_A, lq_I, lq_A, lq_n, Nat.reduceAdd, Nat.reduceLeDiff, true_and, and_true, true_or, or_true, ev_b, eq_self, Option.toList_some, Option.toList_none, List.cons_append, List.nil_append, rc32, rc33, n34, n35, n36, n37, n38, n39, n40, n41, n42, n43, n44, n45, n46, rc47, n48, n49, rc50, n51, n52, rc53, n54, n55, n56, n57, n58, rc59, n60, n61, n62, n63, n64, n65, rc66, n67, n68, rc69, n70, n71, rc72, n73, n74, n75, n76, n77, n78, n79, rc80, n81, n82, n83, n84, n85, n86, n87, n88, n89, n90, n91, n92, n93, n94, n95, n96, n97, n98, n99, n100, n101, n102, n103, n104, n105, n106, n107, n108, n109, n110, n111, n112, n113, g32_0, g32_1, g32_2, g32_3, g32_4, g32_5, g32_6, g32_7, g32_8, g32_9, g32_10, g32_11, g32_12, g32_13, g32_14, g32_15, g32_16, g32_17, g33_0, g33_1, g33_2, g33_3, g33_4, g33_5, g33_6, g33_7, g33_8, g33_9, g33_10, g33_11, g33_12, g33_13, g33_14, g33_15, g33_16, g33_17, g33_18, g47_0, g47_1, g47_2, g47_3, g47_4, g47_5, g47_6, g47_7, g47_8, g47_9, g47_10, g50_0, g50_1, g50_2, g53_0, g53_1, g53_2, g53_3, g53_4, g53_5, g53_6, g53_7, g53_8, g53_9, g53_10, g53_11, g59_0, g59_1, g59_2, g59_3, g59_4, g59_5, g59_6, g59_7, g59_8, g59_9, g59_10, g59_11, g59_12, g66_0, g66_1, g66_2, g66_3, g66_4, g66_5, g69_0, g69_1, g69_2, g69_3, g72_0, g72_1, g72_2, g80_0, g80_1, g80_2, g80_3, g80_4, g80_5, g80_6, g80_7, g80_8, g80_9, g80_10, g80_11, g80_12, g80_13, g80_14, g80_15, g80_16, g80_17, g80_18, g80_19, g80_20, g80_21, g80_22, g80_23, g80_24, g80_25, g80_26, g80_27, g80_28, g80_29, g80_30, g80_31, g80_32, g80_33, g80_34, g80_35, g80_36, g80_37, g80_38, g80_39, g80_40, g80_41, g80_42, g80_43, g80_44, g80_45, g80_46, g80_47, g80_48, g80_49, g80_50, g80_51, g80_52, g80_53, g80_54, g80_55, g80_56, g80_57, g80_58, g80_59, g80_60, g80_61, p32_3, p32_14, p32_15, p32_17, p33_0, p33_5, p33_6, p33_8, p33_11, p33_13, p33_14, p33_16, p47_0, p47_1, p47_2, p47_3, p47_4, p47_5, p47_6, p47_7, p47_10, p50_2, p53_1, p53_2, p53_3, p53_5, p53_6, p53_7, p59_0, p59_1, p59_2, p59_3, p59_6, p59_7, p59_8, p59_9, p66_0, p66_1, p66_4, p66_5, p69_0, p69_1, p80_0, p80_1, p80_6, p80_8, p80_10, p80_11, p80_12, p80_13, p80_14, p80_15, p80_16, p80_17, p80_19, p80_22, p80_25, p80_26, p80_29, p80_32, p80_33, p80_34, p80_37, p80_38, p80_39, p80_47, p80_48, p80_50, p80_51, p80_59, p80_61, l34, l35, l36, l37, l38, l39, l40, l41, l42, l43, l44, l45, l46, l48, l49, l51, l52, l54, l55, l56, l57, l58, l60, l61, l62, l63, l64, l65, l67, l68, l70, l71, l73, l74, l75, l76, l77, l78, l79, l81, l82, l83, l84, l85, l86, l87, l88, l89, l90, l91, l92, l93, l94, l95, l96, l97, l98, l99, l100, l101, l102, l103, l104, l105, l106, l107, l108, l109, l110, l111, l112, l113, s34, s35, s36, s37, s38, s39, s40, s42, s43, s44, s46, s48, s49, s51, s52, s54, s55, s56, s57, s58, s60, s61, s62, s63, s64, s65, s67, s68, s70, s71, s73, s74, s75, s76, s77, s78, s79, s81, s82, s83, s84, s85, s86, s87, s88, s89, s90, s91, s92, s93, s94, s95, s96, s97, s98, s99, s100, s101, s102, s103, s104, s105, s106, s107, s108, s109, s110, s111, s112, s113, sw_id, ev_u1, ev_u2, ev_u3, ↓ok_imp, ↓no_imp, ↓ok_and, b_tape, fr_u, u_u, fr_2]
    simp only [fr5, Int.add_assoc, Int.reduceAdd]
  · simp (disch := omega) only [r96, x96_0, x96_1, x96_4, x96_6, x96_7, x96_10, x96_13, x96_14, x96_15, x96_16, x96_17, x96_20, x96_21, x96_22, x96_25, x96_26, x96_27, x96_30, x96_31, x96_33, x96_36, x96_37, x96_39, x96_42, x96_43, x96_46, ct_c, ct_z, cat_I, cat_J, cat_A, lq_I, lq_A, lq_n, Nat.reduceAdd, Nat.reduceLeDiff, true_and, and_true, true_or, or_true, ev_b, eq_self, Option.toList_some, Option.toList_none, List.cons_append, List.nil_append, rc32, rc33, n34, n35, n36, n37, n38, n39, n40, n41, n42, n43, n44, n45, n46, rc47, n48, n49, rc50, n51, n52, rc53, n54, n55, n56, n57, n58, rc59, n60, n61, n62, n63, n64, n65, rc66, n67, n68, rc69, n70, n71, rc72, n73, n74, n75, n76, n77, n78, n79, rc80, n81, n82, n83, n84, n85, n86, n87, n88, n89, n90, n91, n92, n93, n94, n95, n96, n97, n98, n99, n100, n101, n102, n103, n104, n105, n106, n107, n108, n109, n110, n111, n112, n113, g32_0, g32_1, g32_2, g32_3, g32_4, g32_5, g32_6, g32_7, g32_8, g32_9, g32_10, g32_11, g32_12, g32_13, g32_14, g32_15, g32_16, g32_17, g33_0, g33_1, g33_2, g33_3, g33_4, g33_5, g33_6, g33_7, g33_8, g33_9, g33_10, g33_11, g33_12, g33_13, g33_14, g33_15, g33_16, g33_17, g33_18, g47_0, g47_1, g47_2, g47_3, g47_4, g47_5, g47_6, g47_7, g47_8, g47_9, g47_10, g50_0, g50_1, g50_2, g53_0, g53_1, g53_2, g53_3, g53_4, g53_5, g53_6, g53_7, g53_8, g53_9, g53_10, g53_11, g59_0, g59_1, g59_2, g59_3, g59_4, g59_5, g59_6, g59_7, g59_8, g59_9, g59_10, g59_11, g59_12, g66_0, g66_1, g66_2, g66_3, g66_4, g66_5, g69_0, g69_1, g69_2, g69_3, g72_0, g72_1, g72_2, g80_0, g80_1, g80_2, g80_3, g80_4, g80_5, g80_6, g80_7, g80_8, g80_9, g80_10, g80_11, g80_12, g80_13, g80_14, g80_15, g80_16, g80_17, g80_18, g80_19, g80_20, g80_21, g80_22, g80_23, g80_24, g80_25, g80_26, g80_27, g80_28, g80_29, g80_30, g80_31, g80_32, g80_33, g80_34, g80_35, g80_36, g80_37, g80_38, g80_39, g80_40, g80_41, g80_42, g80_43, g80_44, g80_45, g80_46, g80_47, g80_48, g80_49, g80_50, g80_51, g80_52, g80_53, g80_54, g80_55, g80_56, g80_57, g80_58, g80_59, g80_60, g80_61, p32_3, p32_14, p32_15, p32_17, p33_0, p33_5, p33_6, p33_8, p33_11, p33_13, p33_14, p33_16, p47_0, p47_1, p47_2, p47_3, p47_4, p47_5, p47_6, p47_7, p47_10, p50_2, p53_1, p53_2, p53_3, p53_5, p53_6, p53_7, p59_0, p59_1, p59_2, p59_3, p59_6, p59_7, p59_8, p59_9, p66_0, p66_1, p66_4, p66_5, p69_0, p69_1, p80_0, p80_1, p80_6, p80_8, p80_10, p80_11, p80_12, p80_13, p80_14, p80_15, p80_16, p80_17, p80_19, p80_22, p80_25, p80_26, p80_29, p80_32, p80_33, p80_34, p80_37, p80_38, p80_39, p80_47, p80_48, p80_50, p80_51, p80_59, p80_61, l34, l35, l36, l37, l38, l39, l40, l41, l42, l43, l44, l45, l46, l48, l49, l51, l52, l54, l55, l56, l57, l58, l60, l61, l62, l63, l64, l65, l67, l68, l70, l71, l73, l74, l75, l76, l77, l78, l79, l81, l82, l83, l84, l85, l86, l87, l88, l89, l90, l91, l92, l93, l94, l95, l96, l97, l98, l99, l100, l101, l102, l103, l104, l105, l106, l107, l108, l109, l110, l111, l112, l113, s34, s35, s36, s37, s38, s39, s40, s42, s43, s44, s46, s48, s49, s51, s52, s54, s55, s56, s57, s58, s60, s61, s62, s63, s64, s65, s67, s68, s70, s71, s73, s74, s75, s76, s77, s78, s79, s81, s82, s83, s84, s85, s86, s87, s88, s89, s90, s91, s92, s93, s94, s95, s96, s97, s98, s99, s100, s101, s102, s103, s104, s105, s106, s107, s108, s109, s110, s111, s112, s113, sw_id, ↓ok_imp, ↓no_imp, ↓ok_and]
theorem m_feed {x1 x2 x3 x4 x5 : Int} (hn : 0 ≤ H 80 10 ∧ H 80 10 ≤ 400) : Ru S (d + 2) 167 [.inr (.inr 80), .inl x1, .inl x2, .inl x3, .inl x4, .inl x5] (kk0 ++ Ls) H Q ↔ (380 < H 80 10 → Q (kk0 ++ Ls, (sm_u H 80 0 0, some (.inl (-1))))) ∧ (H 80 10 ≤ 380 → Q (kk0 ++ Ls, (sm_u (fr5 (sm_u H 80 0 0) 86 (H 80 10) x1 x2 x3 x4 x5) 80 10 (H 80 10 + 20), some (.inl (H 80 10 + 20))))) := by
  by_cases h : H 80 10 ≤ 380
  · simp (disch := first | omega | (simp (disch := omega) only [ev_u1, ev_u2, ev_u3, fr_2]; omega)) only [r167, x167_0, x167_1, x167_2, x167_5, x167_6, x167_9, x167_11, x167_12, x167_15, x167_18, x167_19, x167_20, x167_21, x167_22, x167_25, x167_26, x167_27, x167_30, x167_31, x167_32, x167_35, x167_36, x167_38, x167_41, x167_42, x167_44, x167_47, x167_48, x167_51, ct_c, ct_z, cat_I, cat_J, cat_A, lq_I, lq_A, lq_n, Nat.reduceAdd, Nat.reduceLeDiff, true_and, and_true, true_or, or_true, ev_b, eq_self, Option.toList_some, Option.toList_none, List.cons_append, List.nil_append, rc32, rc33, n34, n35, n36, n37, n38, n39, n40, n41, n42, n43, n44, n45, n46, rc47, n48, n49, rc50, n51, n52, rc53, n54, n55, n56, n57, n58, rc59, n60, n61, n62, n63, n64, n65, rc66, n67, n68, rc69, n70, n71, rc72, n73, n74, n75, n76, n77, n78, n79, rc80, n81, n82, n83, n84, n85, n86, n87, n88, n89, n90, n91, n92, n93, n94, n95, n96, n97, n98, n99, n100, n101, n102, n103, n104, n105, n106, n107, n108, n109, n110, n111, n112, n113, g32_0, g32_1, g32_2, g32_3, g32_4, g32_5, g32_6, g32_7, g32_8, g32_9, g32_10, g32_11, g32_12, g32_13, g32_14, g32_15, g32_16, g32_17, g33_0, g33_1, g33_2, g33_3, g33_4, g33_5, g33_6, g33_7, g33_8, g33_9, g33_10, g33_11, g33_12, g33_13, g33_14, g33_15, g33_16, g33_17, g33_18, g47_0, g47_1, g47_2, g47_3, g47_4, g47_5, g47_6, g47_7, g47_8, g47_9, g47_10, g50_0, g50_1, g50_2, g53_0, g53_1, g53_2, g53_3, g53_4, g53_5, g53_6, g53_7, g53_8, g53_9, g53_10, g53_11, g59_0, g59_1, g59_2, g59_3, g59_4, g59_5, g59_6, g59_7, g59_8, g59_9, g59_10, g59_11, g59_12, g66_0, g66_1, g66_2, g66_3, g66_4, g66_5, g69_0, g69_1, g69_2, g69_3, g72_0, g72_1, g72_2, g80_0, g80_1, g80_2, g80_3, g80_4, g80_5, g80_6, g80_7, g80_8, g80_9, g80_10, g80_11, g80_12, g80_13, g80_14, g80_15, g80_16, g80_17, g80_18, g80_19, g80_20, g80_21, g80_22, g80_23, g80_24, g80_25, g80_26, g80_27, g80_28, g80_29, g80_30, g80_31, g80_32, g80_33, g80_34, g80_35, g80_36, g80_37, g80_38, g80_39, g80_40, g80_41, g80_42, g80_43, g80_44, g80_45, g80_46, g80_47, g80_48, g80_49, g80_50, g80_51, g80_52, g80_53, g80_54, g80_55, g80_56, g80_57, g80_58, g80_59, g80_60, g80_61, p32_3, p32_14, p32_15, p32_17, p33_0, p33_5, p33_6, p33_8, p33_11, p33_13, p33_14, p33_16, p47_0, p47_1, p47_2, p47_3, p47_4, p47_5, p47_6, p47_7, p47_10, p50_2, p53_1, p53_2, p53_3, p53_5, p53_6, p53_7, p59_0, p59_1, p59_2, p59_3, p59_6, p59_7, p59_8, p59_9, p66_0, p66_1, p66_4, p66_5, p69_0, p69_1, p80_0, p80_1, p80_6, p80_8, p80_10, p80_11, p80_12, p80_13, p80_14, p80_15, p80_16, p80_17, p80_19, p80_22, p80_25, p80_26, p80_29, p80_32, p80_33, p80_34, p80_37, p80_38, p80_39, p80_47, p80_48, p80_50, p80_51, p80_59, p80_61, l34, l35, l36, l37, l38, l39, l40, l41, l42, l43, l44, l45, l46, l48, l49, l51, l52, l54, l55, l56, l57, l58, l60, l61, l62, l63, l64, l65, l67, l68, l70, l71, l73, l74, l75, l76, l77, l78, l79, l81, l82, l83, l84, l85, l86, l87, l88, l89, l90, l91, l92, l93, l94, l95, l96, l97, l98, l99, l100, l101, l102, l103, l104, l105, l106, l107, l108, l109, l110, l111, l112, l113, s34, s35, s36, s37, s38, s39, s40, s42, s43, s44, s46, s48, s49, s51, s52, s54, s55, s56, s57, s58, s60, s61, s62, s63, s64, s65, s67, s68, s70, s71, s73, s74, s75, s76, s77, s78, s79, s81, s82, s83, s84, s85, s86, s87, s88, s89, s90, s91, s92, s93, s94, s95, s96, s97, s98, s99, s100, s101, s102, s103, s104, s105, s106, s107, s108, s109, s110, s111, s112, s113, sw_id, ev_u1, ev_u2, ev_u3, ↓ok_imp, ↓no_imp, ↓ok_and, m_four, u_u, fr_2]
    simp (disch := omega) only [fr5, fr_u, u_u, Int.add_assoc, Int.reduceAdd]
  · simp (disch := omega) only [r167, x167_0, x167_1, x167_2, x167_5, x167_6, x167_9, x167_11, x167_12, x167_15, x167_18, x167_19, x167_20, x167_21, x167_22, x167_25, x167_26, x167_27, x167_30, x167_31, x167_32, x167_35, x167_36, x167_38, x167_41, x167_42, x167_44, x167_47, x167_48, x167_51, ct_c, ct_z, cat_I, cat_J, cat_A, lq_I, lq_A, lq_n, Nat.reduceAdd, Nat.reduceLeDiff, true_and, and_true, true_or, or_true, ev_b, eq_self, Option.toList_some, Option.toList_none, List.cons_append, List.nil_append, rc32, rc33, n34, n35, n36, n37, n38, n39, n40, n41, n42, n43, n44, n45, n46, rc47, n48, n49, rc50, n51, n52, rc53, n54, n55, n56, n57, n58, rc59, n60, n61, n62, n63, n64, n65, rc66, n67, n68, rc69, n70, n71, rc72, n73, n74, n75, n76, n77, n78, n79, rc80, n81, n82, n83, n84, n85, n86, n87, n88, n89, n90, n91, n92, n93, n94, n95, n96, n97, n98, n99, n100, n101, n102, n103, n104, n105, n106, n107, n108, n109, n110, n111, n112, n113, g32_0, g32_1, g32_2, g32_3, g32_4, g32_5, g32_6, g32_7, g32_8, g32_9, g32_10, g32_11, g32_12, g32_13, g32_14, g32_15, g32_16, g32_17, g33_0, g33_1, g33_2, g33_3, g33_4, g33_5, g33_6, g33_7, g33_8, g33_9, g33_10, g33_11, g33_12, g33_13, g33_14, g33_15, g33_16, g33_17, g33_18, g47_0, g47_1, g47_2, g47_3, g47_4, g47_5, g47_6, g47_7, g47_8, g47_9, g47_10, g50_0, g50_1, g50_2, g53_0, g53_1, g53_2, g53_3, g53_4, g53_5, g53_6, g53_7, g53_8, g53_9, g53_10, g53_11, g59_0, g59_1, g59_2, g59_3, g59_4, g59_5, g59_6, g59_7, g59_8, g59_9, g59_10, g59_11, g59_12, g66_0, g66_1, g66_2, g66_3, g66_4, g66_5, g69_0, g69_1, g69_2, g69_3, g72_0, g72_1, g72_2, g80_0, g80_1, g80_2, g80_3, g80_4, g80_5, g80_6, g80_7, g80_8, g80_9, g80_10, g80_11, g80_12, g80_13, g80_14, g80_15, g80_16, g80_17, g80_18, g80_19, g80_20, g80_21, g80_22, g80_23, g80_24, g80_25, g80_26, g80_27, g80_28, g80_29, g80_30, g80_31, g80_32, g80_33, g80_34, g80_35, g80_36, g80_37, g80_38, g80_39, g80_40, g80_41, g80_42, g80_43, g80_44, g80_45, g80_46, g80_47, g80_48, g80_49, g80_50, g80_51, g80_52, g80_53, g80_54, g80_55, g80_56, g80_57, g80_58, g80_59, g80_60, g80_61, p32_3, p32_14, p32_15, p32_17, p33_0, p33_5, p33_6, p33_8, p33_11, p33_13, p33_14, p33_16, p47_0, p47_1, p47_2, p47_3, p47_4, p47_5, p47_6, p47_7, p47_10, p50_2, p53_1, p53_2, p53_3, p53_5, p53_6, p53_7, p59_0, p59_1, p59_2, p59_3, p59_6, p59_7, p59_8, p59_9, p66_0, p66_1, p66_4, p66_5, p69_0, p69_1, p80_0, p80_1, p80_6, p80_8, p80_10, p80_11, p80_12, p80_13, p80_14, p80_15, p80_16, p80_17, p80_19, p80_22, p80_25, p80_26, p80_29, p80_32, p80_33, p80_34, p80_37, p80_38, p80_39, p80_47, p80_48, p80_50, p80_51, p80_59, p80_61, l34, l35, l36, l37, l38, l39, l40, l41, l42, l43, l44, l45, l46, l48, l49, l51, l52, l54, l55, l56, l57, l58, l60, l61, l62, l63, l64, l65, l67, l68, l70, l71, l73, l74, l75, l76, l77, l78, l79, l81, l82, l83, l84, l85, l86, l87, l88, l89, l90, l91, l92, l93, l94, l95, l96, l97, l98, l99, l100, l101, l102, l103, l104, l105, l106, l107, l108, l109, l110, l111, l112, l113, s34, s35, s36, s37, s38, s39, s40, s42, s43, s44, s46, s48, s49, s51, s52, s54, s55, s56, s57, s58, s60, s61, s62, s63, s64, s65, s67, s68, s70, s71, s73, s74, s75, s76, s77, s78, s79, s81, s82, s83, s84, s85, s86, s87, s88, s89, s90, s91, s92, s93, s94, s95, s96, s97, s98, s99, s100, s101, s102, s103, s104, s105, s106, s107, s108, s109, s110, s111, s112, s113, sw_id, ev_u3, ↓ok_imp, ↓no_imp, ↓ok_and]
theorem fr5_at {a a' : Nat} {n x1 x2 x3 x4 x5 i : Int} (h : ¬ (a' = a ∧ n ≤ i ∧ i < n + 20)) : fr5 H a n x1 x2 x3 x4 x5 a' i = H a' i := by
  unfold fr5
  rw [fr_at, if_neg (by omega), fr_at, if_neg (by omega), fr_at, if_neg (by omega), fr_at, if_neg (by omega), fr_at, if_neg (by omega)]
theorem fr5_eq {H' : sm_H} {a a' : Nat} {n x1 x2 x3 x4 x5 i : Int} (h : n ≤ i ∧ i < n + 20) : fr5 H a n x1 x2 x3 x4 x5 a i = fr5 H' a' n x1 x2 x3 x4 x5 a' i ∧ 0 ≤ fr5 H' a' n x1 x2 x3 x4 x5 a' i ∧ fr5 H' a' n x1 x2 x3 x4 x5 a' i ≤ 255 := by
  unfold fr5
  rw [fr_at, fr_at (a := a')]
  by_cases h1 : n + 16 ≤ i
  · rw [if_pos (by omega), if_pos (by omega)]; exact ⟨rfl, bb_r⟩
  rw [if_neg (by omega), if_neg (by omega), fr_at, fr_at (a := a')]
  by_cases h2 : n + 12 ≤ i
  · rw [if_pos (by omega), if_pos (by omega)]; exact ⟨rfl, bb_r⟩
  rw [if_neg (by omega), if_neg (by omega), fr_at, fr_at (a := a')]
  by_cases h3 : n + 8 ≤ i
  · rw [if_pos (by omega), if_pos (by omega)]; exact ⟨rfl, bb_r⟩
  rw [if_neg (by omega), if_neg (by omega), fr_at, fr_at (a := a')]
  by_cases h4 : n + 4 ≤ i
  · rw [if_pos (by omega), if_pos (by omega)]; exact ⟨rfl, bb_r⟩
  rw [if_neg (by omega), if_neg (by omega), fr_at, fr_at (a := a')]
  rw [if_pos (by omega), if_pos (by omega)]; exact ⟨rfl, bb_r⟩
theorem s_feed (hS : SR H) (hH : HR H 33 (H 82)) {x1 x2 x3 x4 x5 : Int} : Sim S (d + 2) Ls H 96 167 [.inl x1, .inl x2, .inl x3, .inl x4, .inl x5] (Good H) := by
  have h4 : H 32 3 = H 80 10 := hS.1.1
  have h4' := hS.1.2
  unfold Sim
  rw [b_feed (by omega)]
  refine ⟨fun h => ⟨_, _, rfl, ?_⟩, fun h => ⟨_, _, rfl, ?_⟩⟩
  · rw [m_feed h4']
    exact ⟨fun _ => s_fin rfl (good_read hS hH), fun h' => by omega⟩
  · have e0 : sm_u (fr5 H 46 (H 32 3) x1 x2 x3 x4 x5) 32 3 (H 32 3 + 20) 80 10 = H 80 10 := by rw [ev_u4 (by omega), fr5_at (by omega)]
    rw [m_feed (by rw [e0]; exact h4'), e0, ← h4]
    refine ⟨fun h' => by omega, fun _ => s_fin rfl ?_⟩
    have e : ∀ a i, ¬ ((a = 32 ∧ i = 3) ∨ (a = 80 ∧ i = 0) ∨ (a = 80 ∧ i = 10) ∨ a = 46 ∨ a = 86) → sm_u (fr5 (sm_u (sm_u (fr5 H 46 (H 32 3) x1 x2 x3 x4 x5) 32 3 (H 32 3 + 20)) 80 0 0) 86 (H 32 3) x1 x2 x3 x4 x5) 80 10 (H 32 3 + 20) a i = H a i := fun a i h => by simp (disch := omega) only [ev_u4, fr5_at]
    refine ⟨⟨?_, ?_, ?_, ?_, ?_, ?_, ?_, ?_, ?_⟩, hH.same (fun a h1 h2 => by funext i; exact e a i (by omega)) (fun i hi => e _ _ (by omega)), fun a h => by funext i; exact e a i (by omega), ⟨e _ _ (by omega), e _ _ (by omega), fun i hi => e _ _ (by omega)⟩, fun k hk => e _ _ (by omega), fun k hk => e _ _ (by omega), Or.inr ⟨e _ _ (by omega), fun i hi => e _ _ (by omega)⟩, Or.inr ⟨e _ _ (by omega), fun i hi => e _ _ (by omega)⟩⟩
    · simp (disch := omega) only [ev_u1, ev_u2, ev_u3, fr5_at, true_and]; omega
    · intro g g0 g1
      rw [ev_u1] at g1
      rw [ev_u2 (by omega), ev_u2 (by omega)]
      by_cases hg : g < H 32 3
      · have q := hS.2.1 g g0 (by omega)
        simp (disch := omega) only [ev_u4, fr5_at]
        exact q
      · rw [fr5_at (a := 86) (by omega), ev_u2 (by omega), ev_u2 (by omega)]
        exact fr5_eq (by omega)
    · rw [e _ _ (by omega), e _ _ (by omega)]; exact hS.2.2.1
    · rw [e _ _ (by omega), e _ _ (by omega)]; exact hS.2.2.2.1
    · rw [e _ _ (by omega), e _ _ (by omega)]; exact hS.2.2.2.2.1
    · intro k k1 k2; rw [e _ _ (by omega), e _ _ (by omega)]; exact hS.2.2.2.2.2.1 k k1 k2
    · rw [e _ _ (by omega), e _ _ (by omega)]; exact hS.2.2.2.2.2.2.1
    · intro c c0 c1; rw [e _ _ (by omega)] at c1; rw [e _ _ (by omega), e _ _ (by omega)]; exact hS.2.2.2.2.2.2.2.1 c c0 c1
    · rw [e _ _ (by omega)]; exact hS.2.2.2.2.2.2.2.2
end FEED
