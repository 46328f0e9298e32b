/-! slips: numbers alone, and both sides -/
/-- one more way to come to a cell -/
def rc (s : Int × Int) (p : Int × Int) (k : Int) : Int × Int := if p.1 + k < s.1 then (p.1 + k, p.2) else if p.1 + k = s.1 then (s.1, if s.2 + p.2 ≤ 1000000000 then s.2 + p.2 else 1000000000) else s
/-- a cell of the table, out of those before it -/
def w0 (b i j : Int) : Int × Int := if i + j = 0 then (0, 1) else (b, 0)
def w1 (T : Int → Int → Int × Int) (i j : Int) (s : Int × Int) : Int × Int := if 0 < i then rc s (T (i - 1) j) 1 else s
def w2 (T : Int → Int → Int × Int) (i j : Int) (s : Int × Int) : Int × Int := if 0 < j then rc s (T i (j - 1)) 1 else s
def w3 (hd nt : Int → Int) (T : Int → Int → Int × Int) (i j : Int) (s : Int × Int) : Int × Int := if 0 < i ∧ 0 < j then rc s (T (i - 1) (j - 1)) (if hd (i - 1) = nt (j - 1) then 0 else 1) else s
def w4 (hd nt : Int → Int) (T : Int → Int → Int × Int) (i j : Int) (s : Int × Int) : Int × Int := if (1 < i ∧ 1 < j) ∧ hd (i - 1) = nt (j - 2) ∧ hd (i - 2) = nt (j - 1) then rc s (T (i - 2) (j - 2)) 1 else s
def ws (hd nt : Int → Int) (b : Int) (T : Int → Int → Int × Int) (i j : Int) : Int × Int := w4 hd nt T i j (w3 hd nt T i j (w2 T i j (w1 T i j (w0 b i j))))
theorem ws_congr {hd nt : Int → Int} {b : Int} {T T' : Int → Int → Int × Int} {i j : Int} (h : ∀ i' j' : Int, 0 ≤ i' → 0 ≤ j' → i' ≤ i → j' ≤ j → i' + j' < i + j → T i' j' = T' i' j') (i0 : 0 ≤ i) (j0 : 0 ≤ j) : ws hd nt b T i j = ws hd nt b T' i j := by
  have h1 : ∀ s, w1 T i j s = w1 T' i j s := fun s => by
    unfold w1
    split
    · rw [h _ _ (by omega) (by omega) (by omega) (by omega) (by omega)]
    · rfl
  have h2 : ∀ s, w2 T i j s = w2 T' i j s := fun s => by
    unfold w2
    split
    · rw [h _ _ (by omega) (by omega) (by omega) (by omega) (by omega)]
    · rfl
  have h3 : ∀ s, w3 hd nt T i j s = w3 hd nt T' i j s := fun s => by
    unfold w3
    split
    · rw [h _ _ (by omega) (by omega) (by omega) (by omega) (by omega)]
    · rfl
  have h4 : ∀ s, w4 hd nt T i j s = w4 hd nt T' i j s := fun s => by
    unfold w4
    split
    · rw [h _ _ (by omega) (by omega) (by omega) (by omega) (by omega)]
    · rfl
  unfold ws
  rw [h1, h2, h3, h4]
def sp (hd nt : Int → Int) (b : Int) : Nat → Int → Int → Int × Int
  | 0, _, _ => (0, 1)
  | f + 1, i, j => ws hd nt b (sp hd nt b f) i j
def spv (hd nt : Int → Int) (b i j : Int) : Int × Int := sp hd nt b (i + j + 1).toNat i j
theorem sp_fuel {hd nt : Int → Int} {b : Int} : ∀ (f g : Nat) (i j : Int), 0 ≤ i → 0 ≤ j → i + j < f → i + j < g → sp hd nt b f i j = sp hd nt b g i j
  | 0, _, _, _, _, _, h, _ => by omega
  | _ + 1, 0, _, _, _, _, _, h => by omega
  | f + 1, g + 1, i, j, i0, j0, h1, h2 => by
    unfold sp
    exact ws_congr (fun i' j' a b _ _ c => sp_fuel f g i' j' a b (by omega) (by omega)) i0 j0
theorem spv_eq {hd nt : Int → Int} {b i j : Int} (i0 : 0 ≤ i) (j0 : 0 ≤ j) : spv hd nt b i j = ws hd nt b (spv hd nt b) i j := by
  unfold spv
  rw [show (i + j + 1).toNat = (i + j).toNat + 1 by omega]
  show ws hd nt b (sp hd nt b (i + j).toNat) i j = _
  exact ws_congr (fun i' j' a b' _ _ c => sp_fuel _ _ i' j' a b' (by omega) (by omega)) i0 j0
theorem rc_r {s p : Int × Int} {k x : Int} (hk : 0 ≤ k) (hs : 0 ≤ s.1 ∧ 0 ≤ s.2 ∧ s.2 ≤ 1000000000) (hp : 0 ≤ p.1 ∧ 0 ≤ p.2 ∧ p.2 ≤ 1000000000) : 0 ≤ (rc s p k).1 ∧ 0 ≤ (rc s p k).2 ∧ (rc s p k).2 ≤ 1000000000 ∧ (rc s p k).1 ≤ s.1 ∧ (rc s p k).1 ≤ p.1 + k := by
  unfold rc
  split
  · simp; omega
  · split
    · split <;> simp <;> omega
    · simp; omega
/-- what stands in a cell of the table -/
def okc (i j : Int) (s : Int × Int) : Prop := (0 ≤ s.1 ∧ s.1 ≤ i + j) ∧ 0 ≤ s.2 ∧ s.2 ≤ 1000000000
theorem ws_ok {hd nt : Int → Int} {T : Int → Int → Int × Int} {i j : Int} (i0 : 0 ≤ i) (j0 : 0 ≤ j) (h : ∀ i' j' : Int, 0 ≤ i' → 0 ≤ j' → i' ≤ i → j' ≤ j → i' + j' < i + j → okc i' j' (T i' j')) (hij : i + j ≤ 36) : okc i j (ws hd nt 1000 T i j) ∧ ws hd nt 37 T i j = ws hd nt 1000 T i j := by
  by_cases hz : i + j = 0
  · have e1 : i = 0 := by omega
    have e2 : j = 0 := by omega
    subst e1 e2
    simp [ws, w0, w1, w2, w3, w4, okc]
  · have hw0 : ∀ b, w0 b i j = (b, 0) := fun b => by unfold w0; rw [if_neg hz]
    have h12 : okc i j (w2 T i j (w1 T i j (1000, 0))) ∧ w2 T i j (w1 T i j (37, 0)) = w2 T i j (w1 T i j (1000, 0)) := by
      unfold w1 w2
      by_cases hi : 0 < i
      · have hp := h (i - 1) j (by omega) (by omega) (by omega) (by omega) (by omega)
        obtain ⟨⟨p1, p2⟩, p3, p4⟩ := hp
        have e : ∀ b : Int, 36 < b → rc (b, 0) (T (i - 1) j) 1 = ((T (i - 1) j).1 + 1, (T (i - 1) j).2) := fun b hb => by unfold rc; rw [if_pos (by simp; omega)]
        rw [if_pos hi, if_pos hi, e 37 (by omega), e 1000 (by omega)]
        refine ⟨?_, rfl⟩
        split
        · rename_i hj
          obtain ⟨⟨q1, q2⟩, q3, q4⟩ := h i (j - 1) (by omega) (by omega) (by omega) (by omega) (by omega)
          have := rc_r (x := 0) (s := ((T (i - 1) j).1 + 1, (T (i - 1) j).2)) (p := T i (j - 1)) (k := 1) (by omega) (by simp; omega) ⟨q1, q3, q4⟩
          unfold okc; omega
        · unfold okc; simp; omega
      · have hj : 0 < j := by omega
        rw [if_neg hi, if_neg hi, if_pos hj, if_pos hj]
        obtain ⟨⟨p1, p2⟩, p3, p4⟩ := h i (j - 1) (by omega) (by omega) (by omega) (by omega) (by omega)
        have e : ∀ b : Int, 36 < b → rc (b, 0) (T i (j - 1)) 1 = ((T i (j - 1)).1 + 1, (T i (j - 1)).2) := fun b hb => by unfold rc; rw [if_pos (by simp; omega)]
        rw [e 37 (by omega), e 1000 (by omega)]
        exact ⟨by unfold okc; simp; omega, rfl⟩
    unfold ws
    rw [hw0, hw0, h12.2]
    refine ⟨?_, rfl⟩
    obtain ⟨hs, -⟩ := h12
    generalize w2 T i j (w1 T i j (1000, 0)) = s at hs
    have h3 : okc i j (w3 hd nt T i j s) := by
      unfold w3
      split
      · rename_i hij
        obtain ⟨⟨q1, q2⟩, q3, q4⟩ := h (i - 1) (j - 1) (by omega) (by omega) (by omega) (by omega) (by omega)
        obtain ⟨⟨s1, s2⟩, s3, s4⟩ := hs
        have := rc_r (x := 0) (s := s) (p := T (i - 1) (j - 1)) (k := if hd (i - 1) = nt (j - 1) then 0 else 1) (by split <;> omega) ⟨s1, s3, s4⟩ ⟨q1, q3, q4⟩
        unfold okc; omega
      · exact hs
    unfold w4
    split
    · obtain ⟨⟨q1, q2⟩, q3, q4⟩ := h (i - 2) (j - 2) (by omega) (by omega) (by omega) (by omega) (by omega)
      obtain ⟨⟨s1, s2⟩, s3, s4⟩ := h3
      have := rc_r (x := 0) (s := w3 hd nt T i j s) (p := T (i - 2) (j - 2)) (k := 1) (by omega) ⟨s1, s3, s4⟩ ⟨q1, q3, q4⟩
      unfold okc; omega
    · exact h3
theorem spv_ok {hd nt : Int → Int} : ∀ (f : Nat) (i j : Int), 0 ≤ i → 0 ≤ j → i + j < f → i + j ≤ 36 → okc i j (spv hd nt 1000 i j) ∧ spv hd nt 37 i j = spv hd nt 1000 i j
  | 0, _, _, _, _, _, _ => by omega
  | f + 1, i, j, i0, j0, hf, hij => by
    have ih := fun i' j' a b c => spv_ok (hd := hd) (nt := nt) f i' j' a b c
    rw [spv_eq (b := 37) i0 j0, spv_eq (b := 1000) i0 j0]
    have := ws_ok (hd := hd) (nt := nt) (T := spv hd nt 1000) i0 j0 (fun i' j' a b _ _ c => (ih i' j' a b (by omega) (by omega)).1) hij
    refine ⟨this.1, ?_⟩
    rw [← this.2]
    exact ws_congr (fun i' j' a b _ _ c => (ih i' j' a b (by omega) (by omega)).2) i0 j0
theorem cmp_le {x y : Int} : (sm_cmp x y ≤ 0) ↔ x ≤ y := by
  unfold sm_cmp
  split
  · omega
  · split <;> omega
theorem cmp_ge {x y : Int} : (0 ≤ sm_cmp x y) ↔ y ≤ x := by
  unfold sm_cmp
  split
  · omega
  · split <;> omega
section SLIPS
variable {d : Nat} {Ls : sm_K} {H H0 : sm_H} {S : sm_E} {Q : sm_O → Prop}
theorem j_min {a b : Int} {K : sm_K} : Ru S (d + 1) 258 [.inl a, .inl b] K H Q ↔ Q (K, (H, some (.inl (if a ≤ b then a else b)))) := by
  by_cases h : a ≤ b
  · rw [if_pos h]
    simp (disch := omega) only [r258, x258_0, x258_1, x258_2, x258_5, x258_6, x258_9, x258_10, ct_c, ct_z, cat_I, cat_J, cat_A, lq_I, lq_A, lq_n, Nat.reduceAdd, Nat.reduceLeDiff, true_and, and_true, true_or, or_true, ev_b, eq_self, Option.toList_some, Option.toList_none, List.cons_append, List.nil_append, ↓ok_imp, ↓no_imp, ↓ok_and]
  · rw [if_neg h]
    simp (disch := omega) only [r258, x258_0, x258_1, x258_2, x258_5, x258_6, x258_9, x258_10, ct_c, ct_z, cat_I, cat_J, cat_A, lq_I, lq_A, lq_n, Nat.reduceAdd, Nat.reduceLeDiff, true_and, and_true, true_or, or_true, ev_b, eq_self, Option.toList_some, Option.toList_none, List.cons_append, List.nil_append, ↓ok_imp, ↓no_imp, ↓ok_and]
/-- a cell at x of the rows a, b is s; all else is as in H0 -/
def CS (H0 H : sm_H) (a b : Nat) (x : Int) (s : Int × Int) : Prop := H a x = s.1 ∧ H b x = s.2 ∧ ∀ a' i, ¬ ((a' = a ∨ a' = b) ∧ i = x) → H a' i = H0 a' i
theorem b_reach {x y k : Int} {s p : Int × Int} (hC : CS H0 H 70 71 x s) (hx : 0 ≤ x ∧ x < 325) (hy : 0 ≤ y ∧ y < 325) (hxy : y ≠ x) (hp : H0 70 y = p.1 ∧ H0 71 y = p.2) (hk : 0 ≤ k ∧ k ≤ 1) (hs1 : 0 ≤ s.1 ∧ s.1 ≤ 100000) (hs2 : 0 ≤ s.2 ∧ s.2 ≤ 1000000000) (hp1 : 0 ≤ p.1 ∧ p.1 ≤ 100000) (hp2 : 0 ≤ p.2 ∧ p.2 ≤ 1000000000) (hQ : ∀ H', CS H0 H' 70 71 x (rc s p k) → Q (kk0 ++ Ls, (H', none))) : Ru S (d + 2) 44 [.inr (.inr 69), .inl x, .inl y, .inl k] (kk0 ++ Ls) H Q := by
  obtain ⟨c1, c2, c3⟩ := hC
  have g1 : H 70 y = p.1 := by rw [c3 _ _ (by omega)]; exact hp.1
  have g2 : H 71 y = p.2 := by rw [c3 _ _ (by omega)]; exact hp.2
  unfold rc at hQ
  by_cases h1 : p.1 + k < s.1
  · rw [if_pos h1] at hQ
    simp (disch := omega) only [r44, x44_0, x44_1, x44_4, x44_5, x44_6, x44_7, x44_8, x44_10, x44_12, x44_13, x44_16, x44_17, x44_18, x44_21, x44_22, x44_25, x44_26, x44_28, x44_29, x44_30, x44_33, x44_34, x44_35, x44_38, x44_39, x44_40, x44_41, x44_44, x44_46, x44_47, x44_50, x44_51, x44_52, x44_55, x44_56, x44_59, x44_60, x44_62, x44_63, x44_66, x44_67, x44_68, x44_69, x44_72, x44_73, x44_74, x44_75, x44_78, x44_79, ct_c, ct_z, cat_I, cat_J, cat_A, lq_I, lq_A, lq_n, Nat.reduceAdd, Nat.reduceLeDiff, true_and, and_true, true_or, or_true, ev_b, eq_self, Option.toList_some, Option.toList_none, List.cons_append, List.nil_append, rc32, rc33, n34, n35, n36, n37, n38, n39, n40, n41, n42, n43, n44, n45, n46, rc47, n48, n49, rc50, n51, n52, rc53, n54, n55, n56, n57, n58, rc59, n60, n61, n62, n63, n64, n65, rc66, n67, n68, rc69, n70, n71, rc72, n73, n74, n75, n76, n77, n78, n79, rc80, n81, n82, n83, n84, n85, n86, n87, n88, n89, n90, n91, n92, n93, n94, n95, n96, n97, n98, n99, n100, n101, n102, n103, n104, n105, n106, n107, n108, n109, n110, n111, n112, n113, g32_0, g32_1, g32_2, g32_3, g32_4, g32_5, g32_6, g32_7, g32_8, g32_9, g32_10, g32_11, g32_12, g32_13, g32_14, g32_15, g32_16, g32_17, g33_0, g33_1, g33_2, g33_3, g33_4, g33_5, g33_6, g33_7, g33_8, g33_9, g33_10, g33_11, g33_12, g33_13, g33_14, g33_15, g33_16, g33_17, g33_18, g47_0, g47_1, g47_2, g47_3, g47_4, g47_5, g47_6, g47_7, g47_8, g47_9, g47_10, g50_0, g50_1, g50_2, g53_0, g53_1, g53_2, g53_3, g53_4, g53_5, g53_6, g53_7, g53_8, g53_9, g53_10, g53_11, g59_0, g59_1, g59_2, g59_3, g59_4, g59_5, g59_6, g59_7, g59_8, g59_9, g59_10, g59_11, g59_12, g66_0, g66_1, g66_2, g66_3, g66_4, g66_5, g69_0, g69_1, g69_2, g69_3, g72_0, g72_1, g72_2, g80_0, g80_1, g80_2, g80_3, g80_4, g80_5, g80_6, g80_7, g80_8, g80_9, g80_10, g80_11, g80_12, g80_13, g80_14, g80_15, g80_16, g80_17, g80_18, g80_19, g80_20, g80_21, g80_22, g80_23, g80_24, g80_25, g80_26, g80_27, g80_28, g80_29, g80_30, g80_31, g80_32, g80_33, g80_34, g80_35, g80_36, g80_37, g80_38, g80_39, g80_40, g80_41, g80_42, g80_43, g80_44, g80_45, g80_46, g80_47, g80_48, g80_49, g80_50, g80_51, g80_52, g80_53, g80_54, g80_55, g80_56, g80_57, g80_58, g80_59, g80_60, g80_61, p32_3, p32_14, p32_15, p32_17, p33_0, p33_5, p33_6, p33_8, p33_11, p33_13, p33_14, p33_16, p47_0, p47_1, p47_2, p47_3, p47_4, p47_5, p47_6, p47_7, p47_10, p50_2, p53_1, p53_2, p53_3, p53_5, p53_6, p53_7, p59_0, p59_1, p59_2, p59_3, p59_6, p59_7, p59_8, p59_9, p66_0, p66_1, p66_4, p66_5, p69_0, p69_1, p80_0, p80_1, p80_6, p80_8, p80_10, p80_11, p80_12, p80_13, p80_14, p80_15, p80_16, p80_17, p80_19, p80_22, p80_25, p80_26, p80_29, p80_32, p80_33, p80_34, p80_37, p80_38, p80_39, p80_47, p80_48, p80_50, p80_51, p80_59, p80_61, l34, l35, l36, l37, l38, l39, l40, l41, l42, l43, l44, l45, l46, l48, l49, l51, l52, l54, l55, l56, l57, l58, l60, l61, l62, l63, l64, l65, l67, l68, l70, l71, l73, l74, l75, l76, l77, l78, l79, l81, l82, l83, l84, l85, l86, l87, l88, l89, l90, l91, l92, l93, l94, l95, l96, l97, l98, l99, l100, l101, l102, l103, l104, l105, l106, l107, l108, l109, l110, l111, l112, l113, s34, s35, s36, s37, s38, s39, s40, s42, s43, s44, s46, s48, s49, s51, s52, s54, s55, s56, s57, s58, s60, s61, s62, s63, s64, s65, s67, s68, s70, s71, s73, s74, s75, s76, s77, s78, s79, s81, s82, s83, s84, s85, s86, s87, s88, s89, s90, s91, s92, s93, s94, s95, s96, s97, s98, s99, s100, s101, s102, s103, s104, s105, s106, s107, s108, s109, s110, s111, s112, s113, sw_id, sq_id, ev_u1, ev_u2, ev_u3, ↓ok_imp, ↓no_imp, ↓ok_and, Int.reduceAdd, Int.reduceSub, Int.reduceMul, Int.reduceNeg, false_implies, true_implies, not_true_eq_false, not_false_eq_true, c1, g1, g2]
    refine hQ _ ⟨?_, ?_, fun a' i h => ?_⟩
    · rw [ev_u2 (by omega), ev_u1]
    · rw [ev_u1]
    · simp (disch := omega) only [ev_u4]; exact c3 a' i h
  · rw [if_neg h1] at hQ
    by_cases h2 : p.1 + k = s.1
    · rw [if_pos h2] at hQ
      simp (disch := omega) only [r44, x44_0, x44_1, x44_4, x44_5, x44_6, x44_7, x44_8, x44_10, x44_12, x44_13, x44_16, x44_17, x44_18, x44_21, x44_22, x44_25, x44_26, x44_28, x44_29, x44_30, x44_33, x44_34, x44_35, x44_38, x44_39, x44_40, x44_41, x44_44, x44_46, x44_47, x44_50, x44_51, x44_52, x44_55, x44_56, x44_59, x44_60, x44_62, x44_63, x44_66, x44_67, x44_68, x44_69, x44_72, x44_73, x44_74, x44_75, x44_78, x44_79, ct_c, ct_z, cat_I, cat_J, cat_A, lq_I, lq_A, lq_n, Nat.reduceAdd, Nat.reduceLeDiff, true_and, and_true, true_or, or_true, ev_b, eq_self, Option.toList_some, Option.toList_none, List.cons_append, List.nil_append, rc32, rc33, n34, n35, n36, n37, n38, n39, n40, n41, n42, n43, n44, n45, n46, rc47, n48, n49, rc50, n51, n52, rc53, n54, n55, n56, n57, n58, rc59, n60, n61, n62, n63, n64, n65, rc66, n67, n68, rc69, n70, n71, rc72, n73, n74, n75, n76, n77, n78, n79, rc80, n81, n82, n83, n84, n85, n86, n87, n88, n89, n90, n91, n92, n93, n94, n95, n96, n97, n98, n99, n100, n101, n102, n103, n104, n105, n106, n107, n108, n109, n110, n111, n112, n113, g32_0, g32_1, g32_2, g32_3, g32_4, g32_5, g32_6, g32_7, g32_8, g32_9, g32_10, g32_11, g32_12, g32_13, g32_14, g32_15, g32_16, g32_17, g33_0, g33_1, g33_2, g33_3, g33_4, g33_5, g33_6, g33_7, g33_8, g33_9, g33_10, g33_11, g33_12, g33_13, g33_14, g33_15, g33_16, g33_17, g33_18, g47_0, g47_1, g47_2, g47_3, g47_4, g47_5, g47_6, g47_7, g47_8, g47_9, g47_10, g50_0, g50_1, g50_2, g53_0, g53_1, g53_2, g53_3, g53_4, g53_5, g53_6, g53_7, g53_8, g53_9, g53_10, g53_11, g59_0, g59_1, g59_2, g59_3, g59_4, g59_5, g59_6, g59_7, g59_8, g59_9, g59_10, g59_11, g59_12, g66_0, g66_1, g66_2, g66_3, g66_4, g66_5, g69_0, g69_1, g69_2, g69_3, g72_0, g72_1, g72_2, g80_0, g80_1, g80_2, g80_3, g80_4, g80_5, g80_6, g80_7, g80_8, g80_9, g80_10, g80_11, g80_12, g80_13, g80_14, g80_15, g80_16, g80_17, g80_18, g80_19, g80_20, g80_21, g80_22, g80_23, g80_24, g80_25, g80_26, g80_27, g80_28, g80_29, g80_30, g80_31, g80_32, g80_33, g80_34, g80_35, g80_36, g80_37, g80_38, g80_39, g80_40, g80_41, g80_42, g80_43, g80_44, g80_45, g80_46, g80_47, g80_48, g80_49, g80_50, g80_51, g80_52, g80_53, g80_54, g80_55, g80_56, g80_57, g80_58, g80_59, g80_60, g80_61, p32_3, p32_14, p32_15, p32_17, p33_0, p33_5, p33_6, p33_8, p33_11, p33_13, p33_14, p33_16, p47_0, p47_1, p47_2, p47_3, p47_4, p47_5, p47_6, p47_7, p47_10, p50_2, p53_1, p53_2, p53_3, p53_5, p53_6, p53_7, p59_0, p59_1, p59_2, p59_3, p59_6, p59_7, p59_8, p59_9, p66_0, p66_1, p66_4, p66_5, p69_0, p69_1, p80_0, p80_1, p80_6, p80_8, p80_10, p80_11, p80_12, p80_13, p80_14, p80_15, p80_16, p80_17, p80_19, p80_22, p80_25, p80_26, p80_29, p80_32, p80_33, p80_34, p80_37, p80_38, p80_39, p80_47, p80_48, p80_50, p80_51, p80_59, p80_61, l34, l35, l36, l37, l38, l39, l40, l41, l42, l43, l44, l45, l46, l48, l49, l51, l52, l54, l55, l56, l57, l58, l60, l61, l62, l63, l64, l65, l67, l68, l70, l71, l73, l74, l75, l76, l77, l78, l79, l81, l82, l83, l84, l85, l86, l87, l88, l89, l90, l91, l92, l93, l94, l95, l96, l97, l98, l99, l100, l101, l102, l103, l104, l105, l106, l107, l108, l109, l110, l111, l112, l113, s34, s35, s36, s37, s38, s39, s40, s42, s43, s44, s46, s48, s49, s51, s52, s54, s55, s56, s57, s58, s60, s61, s62, s63, s64, s65, s67, s68, s70, s71, s73, s74, s75, s76, s77, s78, s79, s81, s82, s83, s84, s85, s86, s87, s88, s89, s90, s91, s92, s93, s94, s95, s96, s97, s98, s99, s100, s101, s102, s103, s104, s105, s106, s107, s108, s109, s110, s111, s112, s113, sw_id, sq_id, ev_u1, ev_u2, ev_u3, ↓ok_imp, ↓no_imp, ↓ok_and, Int.reduceAdd, Int.reduceSub, Int.reduceMul, Int.reduceNeg, false_implies, true_implies, not_true_eq_false, not_false_eq_true, c1, c2, g1, g2, j_min]
      refine hQ _ ⟨?_, ?_, fun a' i h => ?_⟩
      · rw [ev_u2 (by omega), c1]
      · rw [ev_u1]
        show _ = if s.2 + p.2 ≤ 1000000000 then s.2 + p.2 else 1000000000
        split <;> split <;> omega
      · simp (disch := omega) only [ev_u4]; exact c3 a' i h
    · rw [if_neg h2] at hQ
      simp (disch := omega) only [r44, x44_0, x44_1, x44_4, x44_5, x44_6, x44_7, x44_8, x44_10, x44_12, x44_13, x44_16, x44_17, x44_18, x44_21, x44_22, x44_25, x44_26, x44_28, x44_29, x44_30, x44_33, x44_34, x44_35, x44_38, x44_39, x44_40, x44_41, x44_44, x44_46, x44_47, x44_50, x44_51, x44_52, x44_55, x44_56, x44_59, x44_60, x44_62, x44_63, x44_66, x44_67, x44_68, x44_69, x44_72, x44_73, x44_74, x44_75, x44_78, x44_79, ct_c, ct_z, cat_I, cat_J, cat_A, lq_I, lq_A, lq_n, Nat.reduceAdd, Nat.reduceLeDiff, true_and, and_true, true_or, or_true, ev_b, eq_self, Option.toList_some, Option.toList_none, List.cons_append, List.nil_append, rc32, rc33, n34, n35, n36, n37, n38, n39, n40, n41, n42, n43, n44, n45, n46, rc47, n48, n49, rc50, n51, n52, rc53, n54, n55, n56, n57, n58, rc59, n60, n61, n62, n63, n64, n65, rc66, n67, n68, rc69, n70, n71, rc72, n73, n74, n75, n76, n77, n78, n79, rc80, n81, n82, n83, n84, n85, n86, n87, n88, n89, n90, n91, n92, n93, n94, n95, n96, n97, n98, n99, n100, n101, n102, n103, n104, n105, n106, n107, n108, n109, n110, n111, n112, n113, g32_0, g32_1, g32_2, g32_3, g32_4, g32_5, g32_6, g32_7, g32_8, g32_9, g32_10, g32_11, g32_12, g32_13, g32_14, g32_15, g32_16, g32_17, g33_0, g33_1, g33_2, g33_3, g33_4, g33_5, g33_6, g33_7, g33_8, g33_9, g33_10, g33_11, g33_12, g33_13, g33_14, g33_15, g33_16, g33_17, g33_18, g47_0, g47_1, g47_2, g47_3, g47_4, g47_5, g47_6, g47_7, g47_8, g47_9, g47_10, g50_0, g50_1, g50_2, g53_0, g53_1, g53_2, g53_3, g53_4, g53_5, g53_6, g53_7, g53_8, g53_9, g53_10, g53_11, g59_0, g59_1, g59_2, g59_3, g59_4, g59_5, g59_6, g59_7, g59_8, g59_9, g59_10, g59_11, g59_12, g66_0, g66_1, g66_2, g66_3, g66_4, g66_5, g69_0, g69_1, g69_2, g69_3, g72_0, g72_1, g72_2, g80_0, g80_1, g80_2, g80_3, g80_4, g80_5, g80_6, g80_7, g80_8, g80_9, g80_10, g80_11, g80_12, g80_13, g80_14, g80_15, g80_16, g80_17, g80_18, g80_19, g80_20, g80_21, g80_22, g80_23, g80_24, g80_25, g80_26, g80_27, g80_28, g80_29, g80_30, g80_31, g80_32, g80_33, g80_34, g80_35, g80_36, g80_37, g80_38, g80_39, g80_40, g80_41, g80_42, g80_43, g80_44, g80_45, g80_46, g80_47, g80_48, g80_49, g80_50, g80_51, g80_52, g80_53, g80_54, g80_55, g80_56, g80_57, g80_58, g80_59, g80_60, g80_61, p32_3, p32_14, p32_15, p32_17, p33_0, p33_5, p33_6, p33_8, p33_11, p33_13, p33_14, p33_16, p47_0, p47_1, p47_2, p47_3, p47_4, p47_5, p47_6, p47_7, p47_10, p50_2, p53_1, p53_2, p53_3, p53_5, p53_6, p53_7, p59_0, p59_1, p59_2, p59_3, p59_6, p59_7, p59_8, p59_9, p66_0, p66_1, p66_4, p66_5, p69_0, p69_1, p80_0, p80_1, p80_6, p80_8, p80_10, p80_11, p80_12, p80_13, p80_14, p80_15, p80_16, p80_17, p80_19, p80_22, p80_25, p80_26, p80_29, p80_32, p80_33, p80_34, p80_37, p80_38, p80_39, p80_47, p80_48, p80_50, p80_51, p80_59, p80_61, l34, l35, l36, l37, l38, l39, l40, l41, l42, l43, l44, l45, l46, l48, l49, l51, l52, l54, l55, l56, l57, l58, l60, l61, l62, l63, l64, l65, l67, l68, l70, l71, l73, l74, l75, l76, l77, l78, l79, l81, l82, l83, l84, l85, l86, l87, l88, l89, l90, l91, l92, l93, l94, l95, l96, l97, l98, l99, l100, l101, l102, l103, l104, l105, l106, l107, l108, l109, l110, l111, l112, l113, s34, s35, s36, s37, s38, s39, s40, s42, s43, s44, s46, s48, s49, s51, s52, s54, s55, s56, s57, s58, s60, s61, s62, s63, s64, s65, s67, s68, s70, s71, s73, s74, s75, s76, s77, s78, s79, s81, s82, s83, s84, s85, s86, s87, s88, s89, s90, s91, s92, s93, s94, s95, s96, s97, s98, s99, s100, s101, s102, s103, s104, s105, s106, s107, s108, s109, s110, s111, s112, s113, sw_id, sq_id, ev_u1, ev_u2, ev_u3, ↓ok_imp, ↓no_imp, ↓ok_and, Int.reduceAdd, Int.reduceSub, Int.reduceMul, Int.reduceNeg, false_implies, true_implies, not_true_eq_false, not_false_eq_true, c1, g1]
      exact hQ H ⟨c1, c2, c3⟩
theorem m_better {x k : Int} {s p : Int × Int} (hC : CS H0 H 108 109 x s) (hx : 0 ≤ x ∧ x < 325) (hs1 : 0 ≤ s.1 ∧ s.1 ≤ 100000) (hs2 : 0 ≤ s.2 ∧ s.2 ≤ 1000000000) (hp2 : 0 ≤ p.2 ∧ p.2 ≤ 1000000000) (hQ : ∀ H', CS H0 H' 108 109 x (rc s p k) → Q (kk0 ++ Ls, (H', none))) : Ru S (d + 1) 236 [.inr (.inr 80), .inl x, .inl (p.1 + k), .inr (.inl p.2)] (kk0 ++ Ls) H Q := by
  obtain ⟨c1, c2, c3⟩ := hC
  unfold rc at hQ
  by_cases h1 : p.1 + k < s.1
  · rw [if_pos h1] at hQ
    simp (disch := omega) only [r236, x236_0, x236_1, x236_2, x236_5, x236_6, x236_7, x236_10, x236_11, x236_14, x236_15, x236_16, x236_17, x236_18, x236_21, x236_22, x236_23, x236_24, x236_25, x236_26, x236_29, x236_30, x236_31, x236_34, x236_35, x236_38, x236_39, x236_40, x236_43, x236_44, x236_45, x236_46, x236_47, x236_50, x236_51, x236_54, x236_57, x236_60, x236_61, x236_64, x236_65, x236_66, x236_67, x236_68, x236_69, ct_c, ct_z, cat_I, cat_J, cat_A, lq_I, lq_A, lq_n, Nat.reduceAdd, Nat.reduceLeDiff, true_and, and_true, true_or, or_true, ev_b, eq_self, Option.toList_some, Option.toList_none, List.cons_append, List.nil_append, rc32, rc33, n34, n35, n36, n37, n38, n39, n40, n41, n42, n43, n44, n45, n46, rc47, n48, n49, rc50, n51, n52, rc53, n54, n55, n56, n57, n58, rc59, n60, n61, n62, n63, n64, n65, rc66, n67, n68, rc69, n70, n71, rc72, n73, n74, n75, n76, n77, n78, n79, rc80, n81, n82, n83, n84, n85, n86, n87, n88, n89, n90, n91, n92, n93, n94, n95, n96, n97, n98, n99, n100, n101, n102, n103, n104, n105, n106, n107, n108, n109, n110, n111, n112, n113, g32_0, g32_1, g32_2, g32_3, g32_4, g32_5, g32_6, g32_7, g32_8, g32_9, g32_10, g32_11, g32_12, g32_13, g32_14, g32_15, g32_16, g32_17, g33_0, g33_1, g33_2, g33_3, g33_4, g33_5, g33_6, g33_7, g33_8, g33_9, g33_10, g33_11, g33_12, g33_13, g33_14, g33_15, g33_16, g33_17, g33_18, g47_0, g47_1, g47_2, g47_3, g47_4, g47_5, g47_6, g47_7, g47_8, g47_9, g47_10, g50_0, g50_1, g50_2, g53_0, g53_1, g53_2, g53_3, g53_4, g53_5, g53_6, g53_7, g53_8, g53_9, g53_10, g53_11, g59_0, g59_1, g59_2, g59_3, g59_4, g59_5, g59_6, g59_7, g59_8, g59_9, g59_10, g59_11, g59_12, g66_0, g66_1, g66_2, g66_3, g66_4, g66_5, g69_0, g69_1, g69_2, g69_3, g72_0, g72_1, g72_2, g80_0, g80_1, g80_2, g80_3, g80_4, g80_5, g80_6, g80_7, g80_8, g80_9, g80_10, g80_11, g80_12, g80_13, g80_14, g80_15, g80_16, g80_17, g80_18, g80_19, g80_20, g80_21, g80_22, g80_23, g80_24, g80_25, g80_26, g80_27, g80_28, g80_29, g80_30, g80_31, g80_32, g80_33, g80_34, g80_35, g80_36, g80_37, g80_38, g80_39, g80_40, g80_41, g80_42, g80_43, g80_44, g80_45, g80_46, g80_47, g80_48, g80_49, g80_50, g80_51, g80_52, g80_53, g80_54, g80_55, g80_56, g80_57, g80_58, g80_59, g80_60, g80_61, p32_3, p32_14, p32_15, p32_17, p33_0, p33_5, p33_6, p33_8, p33_11, p33_13, p33_14, p33_16, p47_0, p47_1, p47_2, p47_3, p47_4, p47_5, p47_6, p47_7, p47_10, p50_2, p53_1, p53_2, p53_3, p53_5, p53_6, p53_7, p59_0, p59_1, p59_2, p59_3, p59_6, p59_7, p59_8, p59_9, p66_0, p66_1, p66_4, p66_5, p69_0, p69_1, p80_0, p80_1, p80_6, p80_8, p80_10, p80_11, p80_12, p80_13, p80_14, p80_15, p80_16, p80_17, p80_19, p80_22, p80_25, p80_26, p80_29, p80_32, p80_33, p80_34, p80_37, p80_38, p80_39, p80_47, p80_48, p80_50, p80_51, p80_59, p80_61, l34, l35, l36, l37, l38, l39, l40, l41, l42, l43, l44, l45, l46, l48, l49, l51, l52, l54, l55, l56, l57, l58, l60, l61, l62, l63, l64, l65, l67, l68, l70, l71, l73, l74, l75, l76, l77, l78, l79, l81, l82, l83, l84, l85, l86, l87, l88, l89, l90, l91, l92, l93, l94, l95, l96, l97, l98, l99, l100, l101, l102, l103, l104, l105, l106, l107, l108, l109, l110, l111, l112, l113, s34, s35, s36, s37, s38, s39, s40, s42, s43, s44, s46, s48, s49, s51, s52, s54, s55, s56, s57, s58, s60, s61, s62, s63, s64, s65, s67, s68, s70, s71, s73, s74, s75, s76, s77, s78, s79, s81, s82, s83, s84, s85, s86, s87, s88, s89, s90, s91, s92, s93, s94, s95, s96, s97, s98, s99, s100, s101, s102, s103, s104, s105, s106, s107, s108, s109, s110, s111, s112, s113, sw_id, sq_id, ev_u1, ev_u2, ev_u3, ↓ok_imp, ↓no_imp, ↓ok_and, Int.reduceAdd, Int.reduceSub, Int.reduceMul, Int.reduceNeg, false_implies, true_implies, not_true_eq_false, not_false_eq_true, c1, ev_cl, ev_cg, ev_cz, cmp_le, cmp_ge]
    refine hQ _ ⟨?_, ?_, fun a' i h => ?_⟩
    · simp (disch := omega) only [ev_u2, ev_u1]
    · rw [ev_u1]; simp
    · simp (disch := omega) only [ev_u4]; exact c3 a' i h
  · rw [if_neg h1] at hQ
    by_cases h2 : p.1 + k = s.1
    · rw [if_pos h2] at hQ
      by_cases h3 : s.2 + p.2 ≤ 1000000000
      · rw [if_pos h3] at hQ
        simp (disch := omega) only [r236, x236_0, x236_1, x236_2, x236_5, x236_6, x236_7, x236_10, x236_11, x236_14, x236_15, x236_16, x236_17, x236_18, x236_21, x236_22, x236_23, x236_24, x236_25, x236_26, x236_29, x236_30, x236_31, x236_34, x236_35, x236_38, x236_39, x236_40, x236_43, x236_44, x236_45, x236_46, x236_47, x236_50, x236_51, x236_54, x236_57, x236_60, x236_61, x236_64, x236_65, x236_66, x236_67, x236_68, x236_69, ct_c, ct_z, cat_I, cat_J, cat_A, lq_I, lq_A, lq_n, Nat.reduceAdd, Nat.reduceLeDiff, true_and, and_true, true_or, or_true, ev_b, eq_self, Option.toList_some, Option.toList_none, List.cons_append, List.nil_append, rc32, rc33, n34, n35, n36, n37, n38, n39, n40, n41, n42, n43, n44, n45, n46, rc47, n48, n49, rc50, n51, n52, rc53, n54, n55, n56, n57, n58, rc59, n60, n61, n62, n63, n64, n65, rc66, n67, n68, rc69, n70, n71, rc72, n73, n74, n75, n76, n77, n78, n79, rc80, n81, n82, n83, n84, n85, n86, n87, n88, n89, n90, n91, n92, n93, n94, n95, n96, n97, n98, n99, n100, n101, n102, n103, n104, n105, n106, n107, n108, n109, n110, n111, n112, n113, g32_0, g32_1, g32_2, g32_3, g32_4, g32_5, g32_6, g32_7, g32_8, g32_9, g32_10, g32_11, g32_12, g32_13, g32_14, g32_15, g32_16, g32_17, g33_0, g33_1, g33_2, g33_3, g33_4, g33_5, g33_6, g33_7, g33_8, g33_9, g33_10, g33_11, g33_12, g33_13, g33_14, g33_15, g33_16, g33_17, g33_18, g47_0, g47_1, g47_2, g47_3, g47_4, g47_5, g47_6, g47_7, g47_8, g47_9, g47_10, g50_0, g50_1, g50_2, g53_0, g53_1, g53_2, g53_3, g53_4, g53_5, g53_6, g53_7, g53_8, g53_9, g53_10, g53_11, g59_0, g59_1, g59_2, g59_3, g59_4, g59_5, g59_6, g59_7, g59_8, g59_9, g59_10, g59_11, g59_12, g66_0, g66_1, g66_2, g66_3, g66_4, g66_5, g69_0, g69_1, g69_2, g69_3, g72_0, g72_1, g72_2, g80_0, g80_1, g80_2, g80_3, g80_4, g80_5, g80_6, g80_7, g80_8, g80_9, g80_10, g80_11, g80_12, g80_13, g80_14, g80_15, g80_16, g80_17, g80_18, g80_19, g80_20, g80_21, g80_22, g80_23, g80_24, g80_25, g80_26, g80_27, g80_28, g80_29, g80_30, g80_31, g80_32, g80_33, g80_34, g80_35, g80_36, g80_37, g80_38, g80_39, g80_40, g80_41, g80_42, g80_43, g80_44, g80_45, g80_46, g80_47, g80_48, g80_49, g80_50, g80_51, g80_52, g80_53, g80_54, g80_55, g80_56, g80_57, g80_58, g80_59, g80_60, g80_61, p32_3, p32_14, p32_15, p32_17, p33_0, p33_5, p33_6, p33_8, p33_11, p33_13, p33_14, p33_16, p47_0, p47_1, p47_2, p47_3, p47_4, p47_5, p47_6, p47_7, p47_10, p50_2, p53_1, p53_2, p53_3, p53_5, p53_6, p53_7, p59_0, p59_1, p59_2, p59_3, p59_6, p59_7, p59_8, p59_9, p66_0, p66_1, p66_4, p66_5, p69_0, p69_1, p80_0, p80_1, p80_6, p80_8, p80_10, p80_11, p80_12, p80_13, p80_14, p80_15, p80_16, p80_17, p80_19, p80_22, p80_25, p80_26, p80_29, p80_32, p80_33, p80_34, p80_37, p80_38, p80_39, p80_47, p80_48, p80_50, p80_51, p80_59, p80_61, l34, l35, l36, l37, l38, l39, l40, l41, l42, l43, l44, l45, l46, l48, l49, l51, l52, l54, l55, l56, l57, l58, l60, l61, l62, l63, l64, l65, l67, l68, l70, l71, l73, l74, l75, l76, l77, l78, l79, l81, l82, l83, l84, l85, l86, l87, l88, l89, l90, l91, l92, l93, l94, l95, l96, l97, l98, l99, l100, l101, l102, l103, l104, l105, l106, l107, l108, l109, l110, l111, l112, l113, s34, s35, s36, s37, s38, s39, s40, s42, s43, s44, s46, s48, s49, s51, s52, s54, s55, s56, s57, s58, s60, s61, s62, s63, s64, s65, s67, s68, s70, s71, s73, s74, s75, s76, s77, s78, s79, s81, s82, s83, s84, s85, s86, s87, s88, s89, s90, s91, s92, s93, s94, s95, s96, s97, s98, s99, s100, s101, s102, s103, s104, s105, s106, s107, s108, s109, s110, s111, s112, s113, sw_id, sq_id, ev_u1, ev_u2, ev_u3, ↓ok_imp, ↓no_imp, ↓ok_and, Int.reduceAdd, Int.reduceSub, Int.reduceMul, Int.reduceNeg, false_implies, true_implies, not_true_eq_false, not_false_eq_true, c1, c2, ev_cl, ev_cg, ev_cz, cmp_le, cmp_ge]
        refine hQ _ ⟨?_, ?_, fun a' i h => ?_⟩
        · rw [ev_u2 (by omega), c1]
        · rw [ev_u1]
        · simp (disch := omega) only [ev_u4]; exact c3 a' i h
      · rw [if_neg h3] at hQ
        simp (disch := omega) only [r236, x236_0, x236_1, x236_2, x236_5, x236_6, x236_7, x236_10, x236_11, x236_14, x236_15, x236_16, x236_17, x236_18, x236_21, x236_22, x236_23, x236_24, x236_25, x236_26, x236_29, x236_30, x236_31, x236_34, x236_35, x236_38, x236_39, x236_40, x236_43, x236_44, x236_45, x236_46, x236_47, x236_50, x236_51, x236_54, x236_57, x236_60, x236_61, x236_64, x236_65, x236_66, x236_67, x236_68, x236_69, ct_c, ct_z, cat_I, cat_J, cat_A, lq_I, lq_A, lq_n, Nat.reduceAdd, Nat.reduceLeDiff, true_and, and_true, true_or, or_true, ev_b, eq_self, Option.toList_some, Option.toList_none, List.cons_append, List.nil_append, rc32, rc33, n34, n35, n36, n37, n38, n39, n40, n41, n42, n43, n44, n45, n46, rc47, n48, n49, rc50, n51, n52, rc53, n54, n55, n56, n57, n58, rc59, n60, n61, n62, n63, n64, n65, rc66, n67, n68, rc69, n70, n71, rc72, n73, n74, n75, n76, n77, n78, n79, rc80, n81, n82, n83, n84, n85, n86, n87, n88, n89, n90, n91, n92, n93, n94, n95, n96, n97, n98, n99, n100, n101, n102, n103, n104, n105, n106, n107, n108, n109, n110, n111, n112, n113, g32_0, g32_1, g32_2, g32_3, g32_4, g32_5, g32_6, g32_7, g32_8, g32_9, g32_10, g32_11, g32_12, g32_13, g32_14, g32_15, g32_16, g32_17, g33_0, g33_1, g33_2, g33_3, g33_4, g33_5, g33_6, g33_7, g33_8, g33_9, g33_10, g33_11, g33_12, g33_13, g33_14, g33_15, g33_16, g33_17, g33_18, g47_0, g47_1, g47_2, g47_3, g47_4, g47_5, g47_6, g47_7, g47_8, g47_9, g47_10, g50_0, g50_1, g50_2, g53_0, g53_1, g53_2, g53_3, g53_4, g53_5, g53_6, g53_7, g53_8, g53_9, g53_10, g53_11, g59_0, g59_1, g59_2, g59_3, g59_4, g59_5, g59_6, g59_7, g59_8, g59_9, g59_10, g59_11, g59_12, g66_0, g66_1, g66_2, g66_3, g66_4, g66_5, g69_0, g69_1, g69_2, g69_3, g72_0, g72_1, g72_2, g80_0, g80_1, g80_2, g80_3, g80_4, g80_5, g80_6, g80_7, g80_8, g80_9, g80_10, g80_11, g80_12, g80_13, g80_14, g80_15, g80_16, g80_17, g80_18, g80_19, g80_20, g80_21, g80_22, g80_23, g80_24, g80_25, g80_26, g80_27, g80_28, g80_29, g80_30, g80_31, g80_32, g80_33, g80_34, g80_35, g80_36, g80_37, g80_38, g80_39, g80_40, g80_41, g80_42, g80_43, g80_44, g80_45, g80_46, g80_47, g80_48, g80_49, g80_50, g80_51, g80_52, g80_53, g80_54, g80_55, g80_56, g80_57, g80_58, g80_59, g80_60, g80_61, p32_3, p32_14, p32_15, p32_17, p33_0, p33_5, p33_6, p33_8, p33_11, p33_13, p33_14, p33_16, p47_0, p47_1, p47_2, p47_3, p47_4, p47_5, p47_6, p47_7, p47_10, p50_2, p53_1, p53_2, p53_3, p53_5, p53_6, p53_7, p59_0, p59_1, p59_2, p59_3, p59_6, p59_7, p59_8, p59_9, p66_0, p66_1, p66_4, p66_5, p69_0, p69_1, p80_0, p80_1, p80_6, p80_8, p80_10, p80_11, p80_12, p80_13, p80_14, p80_15, p80_16, p80_17, p80_19, p80_22, p80_25, p80_26, p80_29, p80_32, p80_33, p80_34, p80_37, p80_38, p80_39, p80_47, p80_48, p80_50, p80_51, p80_59, p80_61, l34, l35, l36, l37, l38, l39, l40, l41, l42, l43, l44, l45, l46, l48, l49, l51, l52, l54, l55, l56, l57, l58, l60, l61, l62, l63, l64, l65, l67, l68, l70, l71, l73, l74, l75, l76, l77, l78, l79, l81, l82, l83, l84, l85, l86, l87, l88, l89, l90, l91, l92, l93, l94, l95, l96, l97, l98, l99, l100, l101, l102, l103, l104, l105, l106, l107, l108, l109, l110, l111, l112, l113, s34, s35, s36, s37, s38, s39, s40, s42, s43, s44, s46, s48, s49, s51, s52, s54, s55, s56, s57, s58, s60, s61, s62, s63, s64, s65, s67, s68, s70, s71, s73, s74, s75, s76, s77, s78, s79, s81, s82, s83, s84, s85, s86, s87, s88, s89, s90, s91, s92, s93, s94, s95, s96, s97, s98, s99, s100, s101, s102, s103, s104, s105, s106, s107, s108, s109, s110, s111, s112, s113, sw_id, sq_id, ev_u1, ev_u2, ev_u3, ↓ok_imp, ↓no_imp, ↓ok_and, Int.reduceAdd, Int.reduceSub, Int.reduceMul, Int.reduceNeg, false_implies, true_implies, not_true_eq_false, not_false_eq_true, c1, c2, ev_cl, ev_cg, ev_cz, cmp_le, cmp_ge]
        refine hQ _ ⟨?_, ?_, fun a' i h => ?_⟩
        · rw [ev_u2 (by omega), c1]
        · rw [ev_u1]
        · simp (disch := omega) only [ev_u4]; exact c3 a' i h
    · rw [if_neg h2] at hQ
      simp (disch := omega) only [r236, x236_0, x236_1, x236_2, x236_5, x236_6, x236_7, x236_10, x236_11, x236_14, x236_15, x236_16, x236_17, x236_18, x236_21, x236_22, x236_23, x236_24, x236_25, x236_26, x236_29, x236_30, x236_31, x236_34, x236_35, x236_38, x236_39, x236_40, x236_43, x236_44, x236_45, x236_46, x236_47, x236_50, x236_51, x236_54, x236_57, x236_60, x236_61, x236_64, x236_65, x236_66, x236_67, x236_68, x236_69, ct_c, ct_z, cat_I, cat_J, cat_A, lq_I, lq_A, lq_n, Nat.reduceAdd, Nat.reduceLeDiff, true_and, and_true, true_or, or_true, ev_b, eq_self, Option.toList_some, Option.toList_none, List.cons_append, List.nil_append, rc32, rc33, n34, n35, n36, n37, n38, n39, n40, n41, n42, n43, n44, n45, n46, rc47, n48, n49, rc50, n51, n52, rc53, n54, n55, n56, n57, n58, rc59, n60, n61, n62, n63, n64, n65, rc66, n67, n68, rc69, n70, n71, rc72, n73, n74, n75, n76, n77, n78, n79, rc80, n81, n82, n83, n84, n85, n86, n87, n88, n89, n90, n91, n92, n93, n94, n95, n96, n97, n98, n99, n100, n101, n102, n103, n104, n105, n106, n107, n108, n109, n110, n111, n112, n113, g32_0, g32_1, g32_2, g32_3, g32_4, g32_5, g32_6, g32_7, g32_8, g32_9, g32_10, g32_11, g32_12, g32_13, g32_14, g32_15, g32_16, g32_17, g33_0, g33_1, g33_2, g33_3, g33_4, g33_5, g33_6, g33_7, g33_8, g33_9, g33_10, g33_11, g33_12, g33_13, g33_14, g33_15, g33_16, g33_17, g33_18, g47_0, g47_1, g47_2, g47_3, g47_4, g47_5, g47_6, g47_7, g47_8, g47_9, g47_10, g50_0, g50_1, g50_2, g53_0, g53_1, g53_2, g53_3, g53_4, g53_5, g53_6, g53_7, g53_8, g53_9, g53_10, g53_11, g59_0, g59_1, g59_2, g59_3, g59_4, g59_5, g59_6, g59_7, g59_8, g59_9, g59_10, g59_11, g59_12, g66_0, g66_1, g66_2, g66_3, g66_4, g66_5, g69_0, g69_1, g69_2, g69_3, g72_0, g72_1, g72_2, g80_0, g80_1, g80_2, g80_3, g80_4, g80_5, g80_6, g80_7, g80_8, g80_9, g80_10, g80_11, g80_12, g80_13, g80_14, g80_15, g80_16, g80_17, g80_18, g80_19, g80_20, g80_21, g80_22, g80_23, g80_24, g80_25, g80_26, g80_27, g80_28, g80_29, g80_30, g80_31, g80_32, g80_33, g80_34, g80_35, g80_36, g80_37, g80_38, g80_39, g80_40, g80_41, g80_42, g80_43, g80_44, g80_45, g80_46, g80_47, g80_48, g80_49, g80_50, g80_51, g80_52, g80_53, g80_54, g80_55, g80_56, g80_57, g80_58, g80_59, g80_60, g80_61, p32_3, p32_14, p32_15, p32_17, p33_0, p33_5, p33_6, p33_8, p33_11, p33_13, p33_14, p33_16, p47_0, p47_1, p47_2, p47_3, p47_4, p47_5, p47_6, p47_7, p47_10, p50_2, p53_1, p53_2, p53_3, p53_5, p53_6, p53_7, p59_0, p59_1, p59_2, p59_3, p59_6, p59_7, p59_8, p59_9, p66_0, p66_1, p66_4, p66_5, p69_0, p69_1, p80_0, p80_1, p80_6, p80_8, p80_10, p80_11, p80_12, p80_13, p80_14, p80_15, p80_16, p80_17, p80_19, p80_22, p80_25, p80_26, p80_29, p80_32, p80_33, p80_34, p80_37, p80_38, p80_39, p80_47, p80_48, p80_50, p80_51, p80_59, p80_61, l34, l35, l36, l37, l38, l39, l40, l41, l42, l43, l44, l45, l46, l48, l49, l51, l52, l54, l55, l56, l57, l58, l60, l61, l62, l63, l64, l65, l67, l68, l70, l71, l73, l74, l75, l76, l77, l78, l79, l81, l82, l83, l84, l85, l86, l87, l88, l89, l90, l91, l92, l93, l94, l95, l96, l97, l98, l99, l100, l101, l102, l103, l104, l105, l106, l107, l108, l109, l110, l111, l112, l113, s34, s35, s36, s37, s38, s39, s40, s42, s43, s44, s46, s48, s49, s51, s52, s54, s55, s56, s57, s58, s60, s61, s62, s63, s64, s65, s67, s68, s70, s71, s73, s74, s75, s76, s77, s78, s79, s81, s82, s83, s84, s85, s86, s87, s88, s89, s90, s91, s92, s93, s94, s95, s96, s97, s98, s99, s100, s101, s102, s103, s104, s105, s106, s107, s108, s109, s110, s111, s112, s113, sw_id, sq_id, ev_u1, ev_u2, ev_u3, ↓ok_imp, ↓no_imp, ↓ok_and, Int.reduceAdd, Int.reduceSub, Int.reduceMul, Int.reduceNeg, false_implies, true_implies, not_true_eq_false, not_false_eq_true, c1, ev_cl, ev_cg, ev_cz, cmp_le, cmp_ge]
      exact hQ H ⟨c1, c2, c3⟩
end SLIPS
