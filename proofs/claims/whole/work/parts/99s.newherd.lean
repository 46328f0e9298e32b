/-! a new Herd -/
section NEWHERD
variable {d : Nat} {S : sm_E} {P E : sm_K} {H : sm_H} {Q : sm_O → Prop} {fs : List Nat}
theorem kd_mid : sm_kd (P ++ (2, (19, fs)) :: E) (P.length + 32) = some (2, (19, fs)) := by
  unfold sm_kd
  rw [if_neg (by omega), show P.length + 32 - 32 = P.length by omega, List.getElem?_append_right (Nat.le_refl _), Nat.sub_self]
  rfl
theorem hn_put {k x : Nat} (hk : sm_ft 2 k = 3 ∧ sm_fin 2 k = true) {κ : sm_K → sm_H → Prop} : wptf 2 2 2 k (P ++ (2, (19, fs)) :: E) H (P.length + 32) (.inr (.inr x)) κ ↔ κ (P ++ (2, (19, fs.set k x)) :: E) H := by
  unfold wptf
  rw [kd_mid]
  simp only
  rw [if_pos ⟨trivial, fun _ => ⟨trivial, trivial⟩⟩]
  unfold sm_wr
  simp only [hk.1]
  rw [show P.length + 32 - 32 = P.length by omega, List.set_append_right _ _ (Nat.le_refl _), Nat.sub_self]
  exact Iff.rfl
theorem hn_int {x : Int} {κ : sm_K → sm_H → Prop} : wptf 2 2 2 13 (P ++ (2, (19, fs)) :: E) H (P.length + 32) (.inl x) κ ↔ κ (P ++ (2, (19, fs)) :: E) (sm_u H (P.length + 32) 13 x) := by
  unfold wptf
  rw [kd_mid]
  exact Iff.rfl
/-- the cells of a new Herd at b -/
def hcells (b : Nat) : sm_K := [(2, (19, hfin b)), (20, (25, [])), (20, (45, [])), (20, (5, [])), (20, (5, [])), (20, (5, [])), (20, (120, [])), (20, (5, [])), (34, (6, [])), (20, (5, [])), (20, (20, [])), (20, (20, []))]
theorem b_newHerd (hQ : ∀ H', (∀ x i, ¬ (P.length + 32 ≤ x ∧ x ≤ P.length + 32 + 11) → H' x i = H x i) → (∀ i, H' (P.length + 32 + 8) i = 0) → Q (P ++ hcells (P.length + 32), (H', none))) : Ru S (d + 2) 14 [.inr (.inr (P.length + 32))] (P ++ [(2, (19, List.replicate 19 0))]) H Q := by
  have hr : List.replicate 19 0 = [0, 0, 0, 0, 0, 0, 0, 0, 0, 0, 0, 0, 0, 0, 0, 0, 0, 0, 0] := rfl
  rw [hr]
  have p1 := fun (E : sm_K) (fs : List Nat) (x : Nat) (H : sm_H) (κ : sm_K → sm_H → Prop) => hn_put (P := P) (E := E) (fs := fs) (H := H) (κ := κ) (k := 1) (x := x) (by decide)
  have p2 := fun (E : sm_K) (fs : List Nat) (x : Nat) (H : sm_H) (κ : sm_K → sm_H → Prop) => hn_put (P := P) (E := E) (fs := fs) (H := H) (κ := κ) (k := 2) (x := x) (by decide)
  have p3 := fun (E : sm_K) (fs : List Nat) (x : Nat) (H : sm_H) (κ : sm_K → sm_H → Prop) => hn_put (P := P) (E := E) (fs := fs) (H := H) (κ := κ) (k := 3) (x := x) (by decide)
  have p4 := fun (E : sm_K) (fs : List Nat) (x : Nat) (H : sm_H) (κ : sm_K → sm_H → Prop) => hn_put (P := P) (E := E) (fs := fs) (H := H) (κ := κ) (k := 4) (x := x) (by decide)
  have p7 := fun (E : sm_K) (fs : List Nat) (x : Nat) (H : sm_H) (κ : sm_K → sm_H → Prop) => hn_put (P := P) (E := E) (fs := fs) (H := H) (κ := κ) (k := 7) (x := x) (by decide)
  have p9 := fun (E : sm_K) (fs : List Nat) (x : Nat) (H : sm_H) (κ : sm_K → sm_H → Prop) => hn_put (P := P) (E := E) (fs := fs) (H := H) (κ := κ) (k := 9) (x := x) (by decide)
  have p10 := fun (E : sm_K) (fs : List Nat) (x : Nat) (H : sm_H) (κ : sm_K → sm_H → Prop) => hn_put (P := P) (E := E) (fs := fs) (H := H) (κ := κ) (k := 10) (x := x) (by decide)
  have p12 := fun (E : sm_K) (fs : List Nat) (x : Nat) (H : sm_H) (κ : sm_K → sm_H → Prop) => hn_put (P := P) (E := E) (fs := fs) (H := H) (κ := κ) (k := 12) (x := x) (by decide)
  have p15 := fun (E : sm_K) (fs : List Nat) (x : Nat) (H : sm_H) (κ : sm_K → sm_H → Prop) => hn_put (P := P) (E := E) (fs := fs) (H := H) (κ := κ) (k := 15) (x := x) (by decide)
  have p17 := fun (E : sm_K) (fs : List Nat) (x : Nat) (H : sm_H) (κ : sm_K → sm_H → Prop) => hn_put (P := P) (E := E) (fs := fs) (H := H) (κ := κ) (k := 17) (x := x) (by decide)
  have p18 := fun (E : sm_K) (fs : List Nat) (x : Nat) (H : sm_H) (κ : sm_K → sm_H → Prop) => hn_put (P := P) (E := E) (fs := fs) (H := H) (κ := κ) (k := 18) (x := x) (by decide)
  have pi := fun (E : sm_K) (fs : List Nat) (x : Int) (H : sm_H) (κ : sm_K → sm_H → Prop) => hn_int (P := P) (E := E) (fs := fs) (H := H) (κ := κ) (x := x)
  have key := hQ (sm_z (sm_z (sm_z (sm_u (sm_z (sm_z (sm_z (sm_z (sm_z (sm_z (sm_z (sm_z H (P.length + 1 + 32)) (P.length + 2 + 32)) (P.length + 3 + 32)) (P.length + 4 + 32)) (P.length + 5 + 32)) (P.length + 6 + 32)) (P.length + 7 + 32)) (P.length + 8 + 32)) (P.length + 32) 13 (-1)) (P.length + 9 + 32)) (P.length + 10 + 32)) (P.length + 11 + 32)) (fun x i hx => by
    have hz : ∀ (H : sm_H) (a : Nat), x ≠ a → sm_z H a x i = H x i := fun H a h => by unfold sm_z; rw [if_neg h]
    rw [hz _ _ (by omega), hz _ _ (by omega), hz _ _ (by omega), ev_u2 (by omega), hz _ _ (by omega), hz _ _ (by omega), hz _ _ (by omega), hz _ _ (by omega), hz _ _ (by omega), hz _ _ (by omega), hz _ _ (by omega), hz _ _ (by omega)]) (fun i => by
    have hz : ∀ (H : sm_H) (a : Nat), P.length + 32 + 8 ≠ a → sm_z H a (P.length + 32 + 8) i = H (P.length + 32 + 8) i := fun H a h => by unfold sm_z; rw [if_neg h]
    rw [hz _ _ (by omega), hz _ _ (by omega), hz _ _ (by omega), ev_u2 (by omega)]
    unfold sm_z
    rw [if_pos (by omega)])
  have e : ∀ k : Nat, P.length + 32 + k = P.length + k + 32 := fun k => by omega
  unfold hcells hfin at key
  simp only [e] at key
  simp (disch := omega) only [r14, x14_0, x14_1, x14_4, x14_5, x14_7, x14_9, x14_12, x14_13, x14_15, x14_17, x14_20, x14_21, x14_22, x14_24, x14_27, x14_28, x14_29, x14_31, x14_34, x14_35, x14_36, x14_38, x14_41, x14_42, x14_44, x14_46, x14_49, x14_50, x14_51, x14_53, x14_56, x14_57, x14_59, x14_62, x14_65, x14_66, x14_67, x14_70, x14_71, x14_72, x14_74, x14_77, x14_78, x14_80, x14_82, x14_85, x14_86, x14_88, x14_90, x14_93, ct_c, ct_z, cat_I, cat_J, cat_A, lq_I, lq_A, lq_n, Nat.reduceAdd, Nat.reduceLeDiff, true_and, and_true, true_or, or_true, ev_b, eq_self, Option.toList_some, Option.toList_none, List.cons_append, List.nil_append, rc32, rc33, n34, n35, n36, n37, n38, n39, n40, n41, n42, n43, n44, n45, n46, rc47, n48, n49, rc50, n51, n52, rc53, n54, n55, n56, n57, n58, rc59, n60, n61, n62, n63, n64, n65, rc66, n67, n68, rc69, n70, n71, rc72, n73, n74, n75, n76, n77, n78, n79, rc80, n81, n82, n83, n84, n85, n86, n87, n88, n89, n90, n91, n92, n93, n94, n95, n96, n97, n98, n99, n100, n101, n102, n103, n104, n105, n106, n107, n108, n109, n110, n111, n112, n113, g32_0, g32_1, g32_2, g32_3, g32_4, g32_5, g32_6, g32_7, g32_8, g32_9, g32_10, g32_11, g32_12, g32_13, g32_14, g32_15, g32_16, g32_17, g33_0, g33_1, g33_2, g33_3, g33_4, g33_5, g33_6, g33_7, g33_8, g33_9, g33_10, g33_11, g33_12, g33_13, g33_14, g33_15, g33_16, g33_17, g33_18, g47_0, g47_1, g47_2, g47_3, g47_4, g47_5, g47_6, g47_7, g47_8, g47_9, g47_10, g50_0, g50_1, g50_2, g53_0, g53_1, g53_2, g53_3, g53_4, g53_5, g53_6, g53_7, g53_8, g53_9, g53_10, g53_11, g59_0, g59_1, g59_2, g59_3, g59_4, g59_5, g59_6, g59_7, g59_8, g59_9, g59_10, g59_11, g59_12, g66_0, g66_1, g66_2, g66_3, g66_4, g66_5, g69_0, g69_1, g69_2, g69_3, g72_0, g72_1, g72_2, g80_0, g80_1, g80_2, g80_3, g80_4, g80_5, g80_6, g80_7, g80_8, g80_9, g80_10, g80_11, g80_12, g80_13, g80_14, g80_15, g80_16, g80_17, g80_18, g80_19, g80_20, g80_21, g80_22, g80_23, g80_24, g80_25, g80_26, g80_27, g80_28, g80_29, g80_30, g80_31, g80_32, g80_33, g80_34, g80_35, g80_36, g80_37, g80_38, g80_39, g80_40, g80_41, g80_42, g80_43, g80_44, g80_45, g80_46, g80_47, g80_48, g80_49, g80_50, g80_51, g80_52, g80_53, g80_54, g80_55, g80_56, g80_57, g80_58, g80_59, g80_60, g80_61, p32_3, p32_14, p32_15, p32_17, p33_0, p33_5, p33_6, p33_8, p33_11, p33_13, p33_14, p33_16, p47_0, p47_1, p47_2, p47_3, p47_4, p47_5, p47_6, p47_7, p47_10, p50_2, p53_1, p53_2, p53_3, p53_5, p53_6, p53_7, p59_0, p59_1, p59_2, p59_3, p59_6, p59_7, p59_8, p59_9, p66_0, p66_1, p66_4, p66_5, p69_0, p69_1, p80_0, p80_1, p80_6, p80_8, p80_10, p80_11, p80_12, p80_13, p80_14, p80_15, p80_16, p80_17, p80_19, p80_22, p80_25, p80_26, p80_29, p80_32, p80_33, p80_34, p80_37, p80_38, p80_39, p80_47, p80_48, p80_50, p80_51, p80_59, p80_61, l34, l35, l36, l37, l38, l39, l40, l41, l42, l43, l44, l45, l46, l48, l49, l51, l52, l54, l55, l56, l57, l58, l60, l61, l62, l63, l64, l65, l67, l68, l70, l71, l73, l74, l75, l76, l77, l78, l79, l81, l82, l83, l84, l85, l86, l87, l88, l89, l90, l91, l92, l93, l94, l95, l96, l97, l98, l99, l100, l101, l102, l103, l104, l105, l106, l107, l108, l109, l110, l111, l112, l113, s34, s35, s36, s37, s38, s39, s40, s42, s43, s44, s46, s48, s49, s51, s52, s54, s55, s56, s57, s58, s60, s61, s62, s63, s64, s65, s67, s68, s70, s71, s73, s74, s75, s76, s77, s78, s79, s81, s82, s83, s84, s85, s86, s87, s88, s89, s90, s91, s92, s93, s94, s95, s96, s97, s98, s99, s100, s101, s102, s103, s104, s105, s106, s107, s108, s109, s110, s111, s112, s113, sw_id, sq_id, ev_u1, ev_u2, ev_u3, ↓ok_imp, ↓no_imp, ↓ok_and, Int.reduceAdd, Int.reduceSub, Int.reduceMul, Int.reduceNeg, false_implies, true_implies, not_true_eq_false, not_false_eq_true, p1, p2, p3, p4, p7, p9, p10, p12, p15, p17, p18, pi, List.append_assoc, List.length_append, List.length_cons, List.length_nil, List.set, Int.reduceToNat, Nat.zero_add, Nat.reduceAdd, Int.reduceLE]
  exact key
end NEWHERD
