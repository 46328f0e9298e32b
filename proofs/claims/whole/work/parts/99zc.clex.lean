/-! the class's TOKENS -/
theorem cw_num : ∀ w : Fin 1001, sm_and (sm_or 0 (sm_shl (w.val : Int) 4)) 15 = 0 ∧ sm_shr (sm_or 0 (sm_shl (w.val : Int) 4)) 4 = w.val := by decide +kernel
theorem cw_wrd : ∀ w : Fin 10, sm_and (sm_or 1 (sm_shl (w.val : Int) 4)) 15 = 1 ∧ sm_shr (sm_or 1 (sm_shl (w.val : Int) 4)) 4 = w.val := by decide +kernel
theorem cw_and : ∀ w : Fin 401, sm_and (sm_or 10 (sm_shl (w.val : Int) 4)) 15 = 10 ∧ sm_shr (sm_or 10 (sm_shl (w.val : Int) 4)) 4 = w.val := by decide +kernel
theorem cw_or : ∀ w : Fin 401, sm_and (sm_or 11 (sm_shl (w.val : Int) 4)) 15 = 11 ∧ sm_shr (sm_or 11 (sm_shl (w.val : Int) 4)) 4 = w.val := by decide +kernel
theorem cw_op : ∀ w : Fin 16, sm_and (sm_or (w.val : Int) (sm_shl 0 4)) 15 = w.val ∧ sm_shr (sm_or (w.val : Int) (sm_shl 0 4)) 4 = 0 := by decide +kernel
theorem st_chr : ∀ l ∈ sm_str, ∀ x ∈ l, sm_i2c (sm_and x 255) = x ∧ 0 ≤ x ∧ x < 65536 := by decide +kernel
section CLEX
variable {d : Nat} {Q : sm_O → Prop} {K Ls : sm_K} {H : sm_H} {S : sm_E} {L : sm_L} {st : List sm_V}
theorem y260_1 {a : Nat} (h : 8 ≤ a ∧ a < 14) : Bx S d 260 (1, (L, (.inr (.inr a) :: st, (K, H)))) Q ↔ Bx S d 260 (4, (L, (.inr (.inr (a + 8)) :: st, (K, H)))) Q := bx_inl (rfl : sm_at 260 1 = some (.getfield 9)) (fun _ => by
  show sm_getf 15 9 1 L (.inr (.inr a) :: st) K H = _
  simp [sm_getf, sm_nx, h.1, h.2, show a < 32 by omega])
theorem y261_8 {a : Nat} (h : 8 ≤ a ∧ a < 14) : Bx S d 261 (8, (L, (.inr (.inr a) :: st, (K, H)))) Q ↔ Bx S d 261 (11, (L, (.inr (.inr (a + 8)) :: st, (K, H)))) Q := bx_inl (rfl : sm_at 261 8 = some (.getfield 9)) (fun _ => by
  show sm_getf 15 9 8 L (.inr (.inr a) :: st) K H = _
  simp [sm_getf, sm_nx, h.1, h.2, show a < 32 by omega])
theorem y262_7 {a : Nat} (h : 8 ≤ a ∧ a < 14) : Bx S d 262 (7, (L, (.inr (.inr a) :: st, (K, H)))) Q ↔ Bx S d 262 (10, (L, (.inl 0 :: st, (K, H)))) Q := bx_inl (rfl : sm_at 262 7 = some (.getfield 15)) (fun _ => by
  show sm_getf 15 15 7 L (.inr (.inr a) :: st) K H = _
  simp [sm_getf, sm_nx, h.1, h.2, show a < 32 by omega])
theorem y263_7 {a : Nat} (h : 8 ≤ a ∧ a < 14) : Bx S d 263 (7, (L, (.inr (.inr a) :: st, (K, H)))) Q ↔ Bx S d 263 (10, (L, (.inl 0 :: st, (K, H)))) Q := bx_inl (rfl : sm_at 263 7 = some (.getfield 15)) (fun _ => by
  show sm_getf 15 15 7 L (.inr (.inr a) :: st) K H = _
  simp [sm_getf, sm_nx, h.1, h.2, show a < 32 by omega])
theorem y262_14 {x : Int} : Bx S d 262 (14, (L, ([.inl x], (K, H)))) Q ↔ (x = 0 ∨ x = 1) ∧ Q (K, (H, some (.inl x))) := bx_chkr (rfl : sm_at 262 14 = some (.ireturn)) (fun _ => rfl)
theorem y261_15 {x : Int} : Bx S d 261 (15, (L, ([.inl x], (K, H)))) Q ↔ (0 ≤ x ∧ x < 65536) ∧ Q (K, (H, some (.inl x))) := bx_chkr (rfl : sm_at 261 15 = some (.ireturn)) (fun _ => rfl)
theorem y265_14 {x : Int} : Bx S d 265 (14, (L, ([.inl x], (K, H)))) Q ↔ (0 ≤ x ∧ x < 65536) ∧ Q (K, (H, some (.inl x))) := bx_chkr (rfl : sm_at 265 14 = some (.ireturn)) (fun _ => rfl)
theorem y264_2 : Bx S d 264 (2, (L, (st, (K, H)))) Q ↔ Bx S d 264 (5, (L, (.inr (.inr (if (S 5).isSome then 5 else 0)) :: st, (K, H)))) Q := bx_inl (rfl : sm_at 264 2 = some (.getstatic 1053)) (fun _ => rfl)
theorem b_slen {a : Nat} {l : List Int} (h : 8 ≤ a ∧ a < 14) (hl : sm_str[a - 8]? = some l) (h64 : l.length ≤ 64) : Ru S (d + 2) 260 [.inr (.inr a)] K H Q ↔ Q (K, (H, some (.inl (l.length : Int)))) := by
  have hn : ∀ κ : Int → Prop, wlen S K (a + 8) κ ↔ κ (l.length : Int) := by
    intro κ
    have e : sm_len S K (a + 8) = some l.length := by
      unfold sm_len
      rw [if_neg (by omega), if_neg (by omega), if_pos (by omega), show a + 8 - 16 = a - 8 by omega, hl]
      rfl
    unfold wlen
    rw [e]
    exact ⟨fun h => h.2, fun h => ⟨by omega, h⟩⟩
  have e0 : ∀ x : Int, 0 ≤ x → x ≤ 64 → sm_shr x 0 = x := by
    intro x h1 h2
    have := (show ∀ w : Fin 65, sm_shr (w.val : Int) 0 = w.val by decide +kernel) ⟨x.toNat, by omega⟩
    simp only [] at this
    rwa [Int.toNat_of_nonneg h1] at this
  simp (disch := omega) only [r260, x260_0, x260_4, x260_5, x260_6, x260_9, x260_10, r262, x262_0, x262_3, x262_6, x262_10, x262_13, y260_1, y262_7, y262_14, hn, ct_c, ct_z, cat_I, cat_J, cat_A, lq_I, lq_A, lq_n, Nat.reduceAdd, Nat.reduceLeDiff, true_and, and_true, true_or, or_true, ev_b, eq_self, Option.toList_some, Option.toList_none, List.cons_append, List.nil_append, e0]
  simp [h]
theorem b_char {a : Nat} {l : List Int} {i : Int} (h : 8 ≤ a ∧ a < 14) (hl : sm_str[a - 8]? = some l) (h64 : l.length ≤ 64) (hi : 0 ≤ i ∧ i < l.length) : Ru S (d + 4) 261 [.inr (.inr a), .inl i] K H Q ↔ Q (K, (H, some (.inl (l.getD i.toNat 0)))) := by
  have hn : ∀ κ : Int → Prop, wlen S K (a + 8) κ ↔ κ (l.length : Int) := by
    intro κ
    have e : sm_len S K (a + 8) = some l.length := by
      unfold sm_len
      rw [if_neg (by omega), if_neg (by omega), if_pos (by omega), show a + 8 - 16 = a - 8 by omega, hl]
      rfl
    unfold wlen
    rw [e]
    exact ⟨fun h => h.2, fun h => ⟨by omega, h⟩⟩
  have hb : ∀ κ : Int → Prop, wldB K H (a + 8) i κ ↔ κ (l.getD i.toNat 0) := by
    intro κ
    unfold wldB
    rw [if_pos (by omega), show a + 8 - 16 = a - 8 by omega, hl]
    exact ⟨fun h => h.2, fun h' => ⟨⟨by omega, hi.1, hi.2⟩, h'⟩⟩
  have hm : l.getD i.toNat 0 ∈ l := by
    rw [List.getD_eq_getElem?_getD, List.getElem?_eq_getElem (by omega)]
    simp
  obtain ⟨c1, c2, c3⟩ := st_chr l (List.mem_of_getElem? hl) _ hm
  clear hm
  generalize l.getD i.toNat 0 = x at *
  simp (disch := omega) only [r261, x261_0, x261_1, x261_4, x261_7, x261_11, x261_12, x261_16, x261_20, r263, x263_0, x263_3, x263_6, x263_10, x263_13, x263_14, x263_17, x263_18, r265, x265_0, x265_1, x265_2, x265_3, x265_6, x265_7, x265_8, x265_9, x265_12, x265_13, r264, x264_0, x264_1, x264_5, x264_8, x264_9, r269, x269_0, x269_1, x269_4, x269_5, x269_6, x269_9, x269_10, x269_11, x269_16, x269_17, y261_8, y261_15, y263_7, y265_14, y264_2, hn, hb, ct_c, ct_z, cat_I, cat_J, cat_A, lq_I, lq_A, lq_n, Nat.reduceAdd, Nat.reduceLeDiff, true_and, and_true, true_or, or_true, ev_b, eq_self, Option.toList_some, Option.toList_none, List.cons_append, List.nil_append, c1]
  simp [h, hi, c2, c3, show ¬ i < 0 by omega]
/-- the class's reader stands at the TOKEN that is taken from q on -/
def Lx (T : Int → Int) (n q : Int) (H : sm_H) : Prop := (H 46 = T ∧ H 47 1 = 46 ∧ H 47 2 = n) ∧ (H 47 3 = ls T n q ∧ H 47 4 = le T n q ∧ H 47 5 = lk T n q) ∧ (0 ≤ q ∧ q ≤ n ∧ n ≤ 400)
theorem b_sign {T : Int → Int} {n q c : Int} (h : Lx T n q H) : Ru S (d + 1) 83 [.inr (.inr 47), .inl c] (kk0 ++ Ls) H Q ↔ Q (kk0 ++ Ls, (H, some (.inl (if lk T n q = 3 ∧ T (ls T n q) = c then 1 else 0)))) := by
  obtain ⟨⟨h1, h2, h3⟩, ⟨h4, h5, h6⟩, hq, hqn, hn⟩ := h
  have hr := lk_r T n q
  have hs := ls_r (T := T) hqn
  have e1 : (H 47 1).toNat = 46 := by rw [h2]; rfl
  simp (disch := omega) only [r83, x83_0, x83_1, x83_4, x83_5, x83_8, x83_9, x83_12, x83_13, x83_16, x83_17, x83_18, x83_21, x83_22, x83_25, x83_26, ct_c, ct_z, cat_I, cat_J, cat_A, lq_I, lq_A, lq_n, Nat.reduceAdd, Nat.reduceLeDiff, true_and, and_true, true_or, or_true, ev_b, eq_self, Option.toList_some, Option.toList_none, List.cons_append, List.nil_append, rc32, rc33, n34, n35, n36, n37, n38, n39, n40, n41, n42, n43, n44, n45, n46, rc47, n48, n49, rc50, n51, n52, rc53, n54, n55, n56, n57, n58, rc59, n60, n61, n62, n63, n64, n65, rc66, n67, n68, rc69, n70, n71, rc72, n73, n74, n75, n76, n77, n78, n79, rc80, n81, n82, n83, n84, n85, n86, n87, n88, n89, n90, n91, n92, n93, n94, n95, n96, n97, n98, n99, n100, n101, n102, n103, n104, n105, n106, n107, n108, n109, n110, n111, n112, n113, g32_0, g32_1, g32_2, g32_3, g32_4, g32_5, g32_6, g32_7, g32_8, g32_9, g32_10, g32_11, g32_12, g32_13, g32_14, g32_15, g32_16, g32_17, g33_0, g33_1, g33_2, g33_3, g33_4, g33_5, g33_6, g33_7, g33_8, g33_9, g33_10, g33_11, g33_12, g33_13, g33_14, g33_15, g33_16, g33_17, g33_18, g47_0, g47_1, g47_2, g47_3, g47_4, g47_5, g47_6, g47_7, g47_8, g47_9, g47_10, g50_0, g50_1, g50_2, g53_0, g53_1, g53_2, g53_3, g53_4, g53_5, g53_6, g53_7, g53_8, g53_9, g53_10, g53_11, g59_0, g59_1, g59_2, g59_3, g59_4, g59_5, g59_6, g59_7, g59_8, g59_9, g59_10, g59_11, g59_12, g66_0, g66_1, g66_2, g66_3, g66_4, g66_5, g69_0, g69_1, g69_2, g69_3, g72_0, g72_1, g72_2, g80_0, g80_1, g80_2, g80_3, g80_4, g80_5, g80_6, g80_7, g80_8, g80_9, g80_10, g80_11, g80_12, g80_13, g80_14, g80_15, g80_16, g80_17, g80_18, g80_19, g80_20, g80_21, g80_22, g80_23, g80_24, g80_25, g80_26, g80_27, g80_28, g80_29, g80_30, g80_31, g80_32, g80_33, g80_34, g80_35, g80_36, g80_37, g80_38, g80_39, g80_40, g80_41, g80_42, g80_43, g80_44, g80_45, g80_46, g80_47, g80_48, g80_49, g80_50, g80_51, g80_52, g80_53, g80_54, g80_55, g80_56, g80_57, g80_58, g80_59, g80_60, g80_61, p32_3, p32_14, p32_15, p32_17, p33_0, p33_5, p33_6, p33_8, p33_11, p33_13, p33_14, p33_16, p47_0, p47_1, p47_2, p47_3, p47_4, p47_5, p47_6, p47_7, p47_10, p50_2, p53_1, p53_2, p53_3, p53_5, p53_6, p53_7, p59_0, p59_1, p59_2, p59_3, p59_6, p59_7, p59_8, p59_9, p66_0, p66_1, p66_4, p66_5, p69_0, p69_1, p80_0, p80_1, p80_6, p80_8, p80_10, p80_11, p80_12, p80_13, p80_14, p80_15, p80_16, p80_17, p80_19, p80_22, p80_25, p80_26, p80_29, p80_32, p80_33, p80_34, p80_37, p80_38, p80_39, p80_47, p80_48, p80_50, p80_51, p80_59, p80_61, l34, l35, l36, l37, l38, l39, l40, l41, l42, l43, l44, l45, l46, l48, l49, l51, l52, l54, l55, l56, l57, l58, l60, l61, l62, l63, l64, l65, l67, l68, l70, l71, l73, l74, l75, l76, l77, l78, l79, l81, l82, l83, l84, l85, l86, l87, l88, l89, l90, l91, l92, l93, l94, l95, l96, l97, l98, l99, l100, l101, l102, l103, l104, l105, l106, l107, l108, l109, l110, l111, l112, l113, s34, s35, s36, s37, s38, s39, s40, s42, s43, s44, s46, s48, s49, s51, s52, s54, s55, s56, s57, s58, s60, s61, s62, s63, s64, s65, s67, s68, s70, s71, s73, s74, s75, s76, s77, s78, s79, s81, s82, s83, s84, s85, s86, s87, s88, s89, s90, s91, s92, s93, s94, s95, s96, s97, s98, s99, s100, s101, s102, s103, s104, s105, s106, s107, s108, s109, s110, s111, s112, s113, e1, h1, h4, h6]
  by_cases hk : lk T n q = 3
  · have b : 0 ≤ ls T n q ∧ ls T n q < 400 := by omega
    by_cases hc : T (ls T n q) = c
    · simp [hk, hc, b]
    · simp [hk, hc, b]
  · simp [hk]
/-- the loop of wordAmong -/
theorem b_among_l {T : Int → Int} {n q : Int} {a : Nat} {l : List Int} (h : Lx T n q H) (ha : 8 ≤ a ∧ a < 14) (hl : sm_str[a - 8]? = some l) (h64 : l.length ≤ 64) : ∀ (r : List Int) (i : Nat) (wh at0 sm : Int) (x6 : Option sm_V), i ≤ l.length → l.drop i = r → 0 ≤ wh → wh ≤ i → ls T n q ≤ at0 → at0 ≤ ls T n q + i → (sm = 0 ∨ sm = 1) → (Bx S (d + 5) 85 (25, ([some (.inr (.inr 47)), some (.inr (.inr a)), some (.inl wh), some (.inl at0), some (.inl sm), some (.inl (i : Int)), x6], ([], (kk0 ++ Ls, H)))) Q ↔ Q (kk0 ++ Ls, (H, some (.inl (wwk T (ls T n q) (le T n q) (if lk T n q = 1 then 1 else 0) r wh at0 sm))))) := by
  have h' := h
  obtain ⟨⟨h1, h2, h3⟩, ⟨h4, h5, h6⟩, hq, hqn, hn⟩ := h'
  have e1 : (H 47 1).toNat = 46 := by rw [h2]; rfl
  have hs := ls_r (T := T) hqn
  have he := le_r (T := T) hqn
  intro r
  induction r with
  | nil =>
    intro i wh at0 sm x6 hi hd w0 w1 a0 a1 hsm
    have hil : l.length ≤ i := by
      have := congrArg List.length hd
      simp at this
      omega
    rw [x85_25]
    simp (disch := omega) only [x85_0, x85_1, x85_2, x85_3, x85_6, x85_7, x85_8, x85_11, x85_12, x85_15, x85_16, x85_19, x85_20, x85_22, x85_23, x85_27, x85_28, x85_31, x85_34, x85_35, x85_37, x85_40, x85_42, x85_44, x85_46, x85_49, x85_51, x85_54, x85_55, x85_56, x85_59, x85_62, x85_63, x85_66, x85_67, x85_68, x85_70, x85_73, x85_74, x85_77, x85_78, x85_80, x85_83, x85_86, x85_88, x85_91, x85_92, x85_93, x85_96, x85_99, x85_100, x85_101, x85_104, x85_105, x85_108, x85_109, x85_110, x85_113, x85_114, x85_117, x85_118, x85_121, x85_122, x85_124, x85_127, x85_130, x85_131, ct_c, ct_z, cat_I, cat_J, cat_A, lq_I, lq_A, lq_n, Nat.reduceAdd, Nat.reduceLeDiff, true_and, and_true, true_or, or_true, ev_b, eq_self, Option.toList_some, Option.toList_none, List.cons_append, List.nil_append, rc32, rc33, n34, n35, n36, n37, n38, n39, n40, n41, n42, n43, n44, n45, n46, rc47, n48, n49, rc50, n51, n52, rc53, n54, n55, n56, n57, n58, rc59, n60, n61, n62, n63, n64, n65, rc66, n67, n68, rc69, n70, n71, rc72, n73, n74, n75, n76, n77, n78, n79, rc80, n81, n82, n83, n84, n85, n86, n87, n88, n89, n90, n91, n92, n93, n94, n95, n96, n97, n98, n99, n100, n101, n102, n103, n104, n105, n106, n107, n108, n109, n110, n111, n112, n113, g32_0, g32_1, g32_2, g32_3, g32_4, g32_5, g32_6, g32_7, g32_8, g32_9, g32_10, g32_11, g32_12, g32_13, g32_14, g32_15, g32_16, g32_17, g33_0, g33_1, g33_2, g33_3, g33_4, g33_5, g33_6, g33_7, g33_8, g33_9, g33_10, g33_11, g33_12, g33_13, g33_14, g33_15, g33_16, g33_17, g33_18, g47_0, g47_1, g47_2, g47_3, g47_4, g47_5, g47_6, g47_7, g47_8, g47_9, g47_10, g50_0, g50_1, g50_2, g53_0, g53_1, g53_2, g53_3, g53_4, g53_5, g53_6, g53_7, g53_8, g53_9, g53_10, g53_11, g59_0, g59_1, g59_2, g59_3, g59_4, g59_5, g59_6, g59_7, g59_8, g59_9, g59_10, g59_11, g59_12, g66_0, g66_1, g66_2, g66_3, g66_4, g66_5, g69_0, g69_1, g69_2, g69_3, g72_0, g72_1, g72_2, g80_0, g80_1, g80_2, g80_3, g80_4, g80_5, g80_6, g80_7, g80_8, g80_9, g80_10, g80_11, g80_12, g80_13, g80_14, g80_15, g80_16, g80_17, g80_18, g80_19, g80_20, g80_21, g80_22, g80_23, g80_24, g80_25, g80_26, g80_27, g80_28, g80_29, g80_30, g80_31, g80_32, g80_33, g80_34, g80_35, g80_36, g80_37, g80_38, g80_39, g80_40, g80_41, g80_42, g80_43, g80_44, g80_45, g80_46, g80_47, g80_48, g80_49, g80_50, g80_51, g80_52, g80_53, g80_54, g80_55, g80_56, g80_57, g80_58, g80_59, g80_60, g80_61, p32_3, p32_14, p32_15, p32_17, p33_0, p33_5, p33_6, p33_8, p33_11, p33_13, p33_14, p33_16, p47_0, p47_1, p47_2, p47_3, p47_4, p47_5, p47_6, p47_7, p47_10, p50_2, p53_1, p53_2, p53_3, p53_5, p53_6, p53_7, p59_0, p59_1, p59_2, p59_3, p59_6, p59_7, p59_8, p59_9, p66_0, p66_1, p66_4, p66_5, p69_0, p69_1, p80_0, p80_1, p80_6, p80_8, p80_10, p80_11, p80_12, p80_13, p80_14, p80_15, p80_16, p80_17, p80_19, p80_22, p80_25, p80_26, p80_29, p80_32, p80_33, p80_34, p80_37, p80_38, p80_39, p80_47, p80_48, p80_50, p80_51, p80_59, p80_61, l34, l35, l36, l37, l38, l39, l40, l41, l42, l43, l44, l45, l46, l48, l49, l51, l52, l54, l55, l56, l57, l58, l60, l61, l62, l63, l64, l65, l67, l68, l70, l71, l73, l74, l75, l76, l77, l78, l79, l81, l82, l83, l84, l85, l86, l87, l88, l89, l90, l91, l92, l93, l94, l95, l96, l97, l98, l99, l100, l101, l102, l103, l104, l105, l106, l107, l108, l109, l110, l111, l112, l113, s34, s35, s36, s37, s38, s39, s40, s42, s43, s44, s46, s48, s49, s51, s52, s54, s55, s56, s57, s58, s60, s61, s62, s63, s64, s65, s67, s68, s70, s71, s73, s74, s75, s76, s77, s78, s79, s81, s82, s83, s84, s85, s86, s87, s88, s89, s90, s91, s92, s93, s94, s95, s96, s97, s98, s99, s100, s101, s102, s103, s104, s105, s106, s107, s108, s109, s110, s111, s112, s113, b_slen ha hl h64]
    simp [show (l.length : Int) ≤ i by omega, wwk, ha]
  | cons c r ih =>
    intro i wh at0 sm x6 hi hd w0 w1 a0 a1 hsm
    have hil : i < l.length := by
      have := congrArg List.length hd
      simp at this
      omega
    have hget : l.getD i 0 = c := by
      have := congrArg (fun z => z.getD 0 0) hd
      simpa [List.getD_eq_getElem?_getD] using this
    have hd' : l.drop (i + 1) = r := by
      have := congrArg (fun z => z.drop 1) hd
      simpa [List.drop_drop] using this
    have eg : l.getD ((i : Int)).toNat 0 = c := by simpa using hget
    have nle : ¬ ((l.length : Int) ≤ i) := by omega
    have ec : ((i : Int) + 1) = ((i + 1 : Nat) : Int) := by omega
    have i1 := fun wh at0 sm x6 => ih (i + 1) wh at0 sm x6 (by omega) hd'
    rw [← ec] at i1
    rw [x85_25]
    simp (disch := omega) only [x85_0, x85_1, x85_2, x85_3, x85_6, x85_7, x85_8, x85_11, x85_12, x85_15, x85_16, x85_19, x85_20, x85_22, x85_23, x85_27, x85_28, x85_31, x85_34, x85_35, x85_37, x85_40, x85_42, x85_44, x85_46, x85_49, x85_51, x85_54, x85_55, x85_56, x85_59, x85_62, x85_63, x85_66, x85_67, x85_68, x85_70, x85_73, x85_74, x85_77, x85_78, x85_80, x85_83, x85_86, x85_88, x85_91, x85_92, x85_93, x85_96, x85_99, x85_100, x85_101, x85_104, x85_105, x85_108, x85_109, x85_110, x85_113, x85_114, x85_117, x85_118, x85_121, x85_122, x85_124, x85_127, x85_130, x85_131, ct_c, ct_z, cat_I, cat_J, cat_A, lq_I, lq_A, lq_n, Nat.reduceAdd, Nat.reduceLeDiff, true_and, and_true, true_or, or_true, ev_b, eq_self, Option.toList_some, Option.toList_none, List.cons_append, List.nil_append, rc32, rc33, n34, n35, n36, n37, n38, n39, n40, n41, n42, n43, n44, n45, n46, rc47, n48, n49, rc50, n51, n52, rc53, n54, n55, n56, n57, n58, rc59, n60, n61, n62, n63, n64, n65, rc66, n67, n68, rc69, n70, n71, rc72, n73, n74, n75, n76, n77, n78, n79, rc80, n81, n82, n83, n84, n85, n86, n87, n88, n89, n90, n91, n92, n93, n94, n95, n96, n97, n98, n99, n100, n101, n102, n103, n104, n105, n106, n107, n108, n109, n110, n111, n112, n113, g32_0, g32_1, g32_2, g32_3, g32_4, g32_5, g32_6, g32_7, g32_8, g32_9, g32_10, g32_11, g32_12, g32_13, g32_14, g32_15, g32_16, g32_17, g33_0, g33_1, g33_2, g33_3, g33_4, g33_5, g33_6, g33_7, g33_8, g33_9, g33_10, g33_11, g33_12, g33_13, g33_14, g33_15, g33_16, g33_17, g33_18, g47_0, g47_1, g47_2, g47_3, g47_4, g47_5, g47_6, g47_7, g47_8, g47_9, g47_10, g50_0, g50_1, g50_2, g53_0, g53_1, g53_2, g53_3, g53_4, g53_5, g53_6, g53_7, g53_8, g53_9, g53_10, g53_11, g59_0, g59_1, g59_2, g59_3, g59_4, g59_5, g59_6, g59_7, g59_8, g59_9, g59_10, g59_11, g59_12, g66_0, g66_1, g66_2, g66_3, g66_4, g66_5, g69_0, g69_1, g69_2, g69_3, g72_0, g72_1, g72_2, g80_0, g80_1, g80_2, g80_3, g80_4, g80_5, g80_6, g80_7, g80_8, g80_9, g80_10, g80_11, g80_12, g80_13, g80_14, g80_15, g80_16, g80_17, g80_18, g80_19, g80_20, g80_21, g80_22, g80_23, g80_24, g80_25, g80_26, g80_27, g80_28, g80_29, g80_30, g80_31, g80_32, g80_33, g80_34, g80_35, g80_36, g80_37, g80_38, g80_39, g80_40, g80_41, g80_42, g80_43, g80_44, g80_45, g80_46, g80_47, g80_48, g80_49, g80_50, g80_51, g80_52, g80_53, g80_54, g80_55, g80_56, g80_57, g80_58, g80_59, g80_60, g80_61, p32_3, p32_14, p32_15, p32_17, p33_0, p33_5, p33_6, p33_8, p33_11, p33_13, p33_14, p33_16, p47_0, p47_1, p47_2, p47_3, p47_4, p47_5, p47_6, p47_7, p47_10, p50_2, p53_1, p53_2, p53_3, p53_5, p53_6, p53_7, p59_0, p59_1, p59_2, p59_3, p59_6, p59_7, p59_8, p59_9, p66_0, p66_1, p66_4, p66_5, p69_0, p69_1, p80_0, p80_1, p80_6, p80_8, p80_10, p80_11, p80_12, p80_13, p80_14, p80_15, p80_16, p80_17, p80_19, p80_22, p80_25, p80_26, p80_29, p80_32, p80_33, p80_34, p80_37, p80_38, p80_39, p80_47, p80_48, p80_50, p80_51, p80_59, p80_61, l34, l35, l36, l37, l38, l39, l40, l41, l42, l43, l44, l45, l46, l48, l49, l51, l52, l54, l55, l56, l57, l58, l60, l61, l62, l63, l64, l65, l67, l68, l70, l71, l73, l74, l75, l76, l77, l78, l79, l81, l82, l83, l84, l85, l86, l87, l88, l89, l90, l91, l92, l93, l94, l95, l96, l97, l98, l99, l100, l101, l102, l103, l104, l105, l106, l107, l108, l109, l110, l111, l112, l113, s34, s35, s36, s37, s38, s39, s40, s42, s43, s44, s46, s48, s49, s51, s52, s54, s55, s56, s57, s58, s60, s61, s62, s63, s64, s65, s67, s68, s70, s71, s73, s74, s75, s76, s77, s78, s79, s81, s82, s83, s84, s85, s86, s87, s88, s89, s90, s91, s92, s93, s94, s95, s96, s97, s98, s99, s100, s101, s102, s103, s104, s105, s106, s107, s108, s109, s110, s111, s112, s113, b_slen ha hl h64, b_char ha hl h64, eg, e1, h1, h4, h5, h6, sw_id]
    have hsm1 : ∀ x : Int, (x = 0 ∨ x = 1) → sm_w x = x := by rintro x (rfl | rfl) <;> rfl
    by_cases hc : c = 32
    · subst hc
      by_cases hm : sm ≠ 0 ∧ at0 = le T n q
      · have e0 : sm ≠ 0 := hm.1
        simp [ha, nle, wwk, hm, e0]
      · by_cases hk : lk T n q = 1
        · have k1 := i1 (wh + 1) (ls T n q) 1 (some (.inl 32)) (by omega) (by omega) (by omega) (by omega) (Or.inr rfl)
          by_cases e0 : sm = 0
          · simp [ha, nle, wwk, e0, hk, k1]
          · have e2 : ¬ at0 = le T n q := fun x => hm ⟨e0, x⟩
            simp [ha, nle, wwk, e0, e2, hk, k1]
        · have k1 := i1 (wh + 1) (ls T n q) 0 (some (.inl 32)) (by omega) (by omega) (by omega) (by omega) (Or.inl rfl)
          by_cases e0 : sm = 0
          · simp [ha, nle, wwk, e0, hk, k1]
          · have e2 : ¬ at0 = le T n q := fun x => hm ⟨e0, x⟩
            simp [ha, nle, wwk, e0, e2, hk, k1]
    · have k0 := i1 wh (at0 + 1) 0 (some (.inl c)) (by omega) (by omega) (by omega) (by omega) (Or.inl rfl)
      have k1 := i1 wh (at0 + 1) 1 (some (.inl c)) (by omega) (by omega) (by omega) (by omega) (Or.inr rfl)
      by_cases e0 : sm = 0
      · simp [ha, nle, wwk, e0, hc, k0]
      · by_cases e2 : at0 < le T n q
        · have b : 0 ≤ at0 ∧ at0 < 400 := by omega
          by_cases e3 : T at0 = c
          · simp [ha, nle, wwk, e0, hc, k1, e2, e3, b, show ¬ le T n q ≤ at0 by omega]
          · simp [ha, nle, wwk, e0, hc, k0, e2, e3, b, show ¬ le T n q ≤ at0 by omega]
        · simp [ha, nle, wwk, e0, hc, k0, e2, show le T n q ≤ at0 by omega]
theorem b_among {T : Int → Int} {n q : Int} {a : Nat} {W : List (List Int)} (h : Lx T n q H) (ha : 8 ≤ a ∧ a < 14) (hl : sm_str[a - 8]? = some (W.flatMap (fun w => w ++ [32]))) (h64 : (W.flatMap (fun w => w ++ [32])).length ≤ 64) (hW : ∀ w ∈ W, (∀ c ∈ w, 97 ≤ c ∧ c ≤ 122) ∧ w.length ≤ 10) : Ru S (d + 6) 85 [.inr (.inr 47), .inr (.inr a)] (kk0 ++ Ls) H Q ↔ Q (kk0 ++ Ls, (H, some (.inl (if lk T n q = 1 then win (lw T n q) W 0 else -1)))) := by
  have h' := h
  obtain ⟨⟨h1, h2, h3⟩, ⟨h4, h5, h6⟩, hq, hqn, hn⟩ := h'
  have e1 : (if lk T n q = 1 then win (lw T n q) W 0 else -1) = wwk T (ls T n q) (le T n q) (if lk T n q = 1 then 1 else 0) (W.flatMap (fun w => w ++ [32])) 0 (ls T n q) (if lk T n q = 1 then 1 else 0) := by
    rw [wwk_W W 0 (fun w hw => (hW w hw).1)]
    by_cases hk : lk T n q = 1
    · simp only [hk, if_true]
      rw [if_pos (by omega), wix_win hqn hk W 0 hW]
    · simp [hk]
  rw [e1]
  have key := fun sm => b_among_l (Q := Q) (Ls := Ls) (S := S) (d := d) h ha hl h64 _ 0 0 (ls T n q) sm none (by omega) rfl (by omega) (by omega) (by omega) (by omega)
  simp (disch := omega) only [r85, x85_0, x85_1, x85_2, x85_3, x85_6, x85_7, x85_8, x85_11, x85_12, x85_15, x85_16, x85_19, x85_20, x85_22, x85_23, x85_27, x85_28, x85_31, x85_34, x85_35, x85_37, x85_40, x85_42, x85_44, x85_46, x85_49, x85_51, x85_54, x85_55, x85_56, x85_59, x85_62, x85_63, x85_66, x85_67, x85_68, x85_70, x85_73, x85_74, x85_77, x85_78, x85_80, x85_83, x85_86, x85_88, x85_91, x85_92, x85_93, x85_96, x85_99, x85_100, x85_101, x85_104, x85_105, x85_108, x85_109, x85_110, x85_113, x85_114, x85_117, x85_118, x85_121, x85_122, x85_124, x85_127, x85_130, x85_131, ct_c, ct_z, cat_I, cat_J, cat_A, lq_I, lq_A, lq_n, Nat.reduceAdd, Nat.reduceLeDiff, true_and, and_true, true_or, or_true, ev_b, eq_self, Option.toList_some, Option.toList_none, List.cons_append, List.nil_append, rc32, rc33, n34, n35, n36, n37, n38, n39, n40, n41, n42, n43, n44, n45, n46, rc47, n48, n49, rc50, n51, n52, rc53, n54, n55, n56, n57, n58, rc59, n60, n61, n62, n63, n64, n65, rc66, n67, n68, rc69, n70, n71, rc72, n73, n74, n75, n76, n77, n78, n79, rc80, n81, n82, n83, n84, n85, n86, n87, n88, n89, n90, n91, n92, n93, n94, n95, n96, n97, n98, n99, n100, n101, n102, n103, n104, n105, n106, n107, n108, n109, n110, n111, n112, n113, g32_0, g32_1, g32_2, g32_3, g32_4, g32_5, g32_6, g32_7, g32_8, g32_9, g32_10, g32_11, g32_12, g32_13, g32_14, g32_15, g32_16, g32_17, g33_0, g33_1, g33_2, g33_3, g33_4, g33_5, g33_6, g33_7, g33_8, g33_9, g33_10, g33_11, g33_12, g33_13, g33_14, g33_15, g33_16, g33_17, g33_18, g47_0, g47_1, g47_2, g47_3, g47_4, g47_5, g47_6, g47_7, g47_8, g47_9, g47_10, g50_0, g50_1, g50_2, g53_0, g53_1, g53_2, g53_3, g53_4, g53_5, g53_6, g53_7, g53_8, g53_9, g53_10, g53_11, g59_0, g59_1, g59_2, g59_3, g59_4, g59_5, g59_6, g59_7, g59_8, g59_9, g59_10, g59_11, g59_12, g66_0, g66_1, g66_2, g66_3, g66_4, g66_5, g69_0, g69_1, g69_2, g69_3, g72_0, g72_1, g72_2, g80_0, g80_1, g80_2, g80_3, g80_4, g80_5, g80_6, g80_7, g80_8, g80_9, g80_10, g80_11, g80_12, g80_13, g80_14, g80_15, g80_16, g80_17, g80_18, g80_19, g80_20, g80_21, g80_22, g80_23, g80_24, g80_25, g80_26, g80_27, g80_28, g80_29, g80_30, g80_31, g80_32, g80_33, g80_34, g80_35, g80_36, g80_37, g80_38, g80_39, g80_40, g80_41, g80_42, g80_43, g80_44, g80_45, g80_46, g80_47, g80_48, g80_49, g80_50, g80_51, g80_52, g80_53, g80_54, g80_55, g80_56, g80_57, g80_58, g80_59, g80_60, g80_61, p32_3, p32_14, p32_15, p32_17, p33_0, p33_5, p33_6, p33_8, p33_11, p33_13, p33_14, p33_16, p47_0, p47_1, p47_2, p47_3, p47_4, p47_5, p47_6, p47_7, p47_10, p50_2, p53_1, p53_2, p53_3, p53_5, p53_6, p53_7, p59_0, p59_1, p59_2, p59_3, p59_6, p59_7, p59_8, p59_9, p66_0, p66_1, p66_4, p66_5, p69_0, p69_1, p80_0, p80_1, p80_6, p80_8, p80_10, p80_11, p80_12, p80_13, p80_14, p80_15, p80_16, p80_17, p80_19, p80_22, p80_25, p80_26, p80_29, p80_32, p80_33, p80_34, p80_37, p80_38, p80_39, p80_47, p80_48, p80_50, p80_51, p80_59, p80_61, l34, l35, l36, l37, l38, l39, l40, l41, l42, l43, l44, l45, l46, l48, l49, l51, l52, l54, l55, l56, l57, l58, l60, l61, l62, l63, l64, l65, l67, l68, l70, l71, l73, l74, l75, l76, l77, l78, l79, l81, l82, l83, l84, l85, l86, l87, l88, l89, l90, l91, l92, l93, l94, l95, l96, l97, l98, l99, l100, l101, l102, l103, l104, l105, l106, l107, l108, l109, l110, l111, l112, l113, s34, s35, s36, s37, s38, s39, s40, s42, s43, s44, s46, s48, s49, s51, s52, s54, s55, s56, s57, s58, s60, s61, s62, s63, s64, s65, s67, s68, s70, s71, s73, s74, s75, s76, s77, s78, s79, s81, s82, s83, s84, s85, s86, s87, s88, s89, s90, s91, s92, s93, s94, s95, s96, s97, s98, s99, s100, s101, s102, s103, s104, s105, s106, s107, s108, s109, s110, s111, s112, s113, h4, h6]
  by_cases hk : lk T n q = 1
  · have k := key 1 (Or.inr rfl)
    simp only [hk, if_true] at k ⊢
    simpa using k
  · have k := key 0 (Or.inl rfl)
    simp only [hk, if_false] at k ⊢
    simpa [hk] using k
/-- the words of the two tables -/
def hdW : List (List Int) := [[115, 116, 101, 112, 115], [114, 97, 110, 107], [108, 111, 117, 100], [98, 97, 108, 107, 115], [102, 111, 108, 108, 111, 119, 115]]
def ptW : List (List Int) := [[99, 111, 119], [110, 111, 116, 101], [112, 97, 99, 101], [102, 101, 97, 114], [97, 103, 101], [108, 101, 102, 116], [99, 97, 108, 108, 101, 100], [119, 105, 110, 100], [104, 111, 109, 101], [104, 101, 97, 114, 100]]
/-- which head, which word, by the TOKEN from q on; -1: none -/
def hw (T : Int → Int) (n q : Int) : Int := if lk T n q = 1 then win (lw T n q) hdW 0 else -1
def pwq (T : Int → Int) (n q : Int) : Int := if lk T n q = 1 then win (lw T n q) ptW 0 else -1
/-- whether it is a word of this worth -/
def iw (T : Int → Int) (n q v : Int) : Bool := decide (lk T n q = 1 ∧ lw T n q = v)
def sgq (T : Int → Int) (n q c : Int) : Bool := decide (lk T n q = 3 ∧ T (ls T n q) = c)
theorem iw_iff {T : Int → Int} {n q v : Int} : iw T n q v = true ↔ lk T n q = 1 ∧ lw T n q = v := by simp [iw]
theorem sg_iff {T : Int → Int} {n q c : Int} : sgq T n q c = true ↔ lk T n q = 3 ∧ T (ls T n q) = c := by simp [sgq]
def nh (T : Int → Int) (n q : Int) : Int := if lk T n q = 2 ∧ lw T n q ≤ 1000 then lw T n q else -1
theorem b_sg {T : Int → Int} {n q c : Int} (h : Lx T n q H) : Ru S (d + 1) 83 [.inr (.inr 47), .inl c] (kk0 ++ Ls) H Q ↔ Q (kk0 ++ Ls, (H, some (.inl (if sgq T n q c then 1 else 0)))) := by
  simp only [sg_iff]
  exact b_sign h
theorem b_hw {T : Int → Int} {n q : Int} (h : Lx T n q H) : Ru S (d + 6) 85 [.inr (.inr 47), .inr (.inr 8)] (kk0 ++ Ls) H Q ↔ Q (kk0 ++ Ls, (H, some (.inl (hw T n q)))) := b_among h (by omega) (W := hdW) rfl (by decide) (by decide)
theorem b_pw {T : Int → Int} {n q : Int} (h : Lx T n q H) : Ru S (d + 6) 85 [.inr (.inr 47), .inr (.inr 9)] (kk0 ++ Ls) H Q ↔ Q (kk0 ++ Ls, (H, some (.inl (pwq T n q)))) := b_among h (by omega) (W := ptW) rfl (by decide) (by decide)
theorem b_iw {T : Int → Int} {n q v : Int} {a : Nat} {w : List Int} (h : Lx T n q H) (ha : 8 ≤ a ∧ a < 14) (hl : sm_str[a - 8]? = some (w ++ [32])) (hw : (∀ c ∈ w, 97 ≤ c ∧ c ≤ 122) ∧ w.length ≤ 10) (hv : enc w = v) : Ru S (d + 7) 84 [.inr (.inr 47), .inr (.inr a)] (kk0 ++ Ls) H Q ↔ Q (kk0 ++ Ls, (H, some (.inl (if iw T n q v then 1 else 0)))) := by
  have k := fun Q => b_among (Q := Q) (Ls := Ls) (S := S) (d := d) h ha (W := [w]) (by simpa using hl) (by simp; omega) (by simpa using hw)
  simp (disch := omega) only [r84, x84_0, x84_1, x84_2, x84_5, x84_8, x84_9, x84_12, x84_13, ct_c, ct_z, cat_I, cat_J, cat_A, lq_I, lq_A, lq_n, Nat.reduceAdd, Nat.reduceLeDiff, true_and, and_true, true_or, or_true, ev_b, eq_self, Option.toList_some, Option.toList_none, List.cons_append, List.nil_append, rc32, rc33, n34, n35, n36, n37, n38, n39, n40, n41, n42, n43, n44, n45, n46, rc47, n48, n49, rc50, n51, n52, rc53, n54, n55, n56, n57, n58, rc59, n60, n61, n62, n63, n64, n65, rc66, n67, n68, rc69, n70, n71, rc72, n73, n74, n75, n76, n77, n78, n79, rc80, n81, n82, n83, n84, n85, n86, n87, n88, n89, n90, n91, n92, n93, n94, n95, n96, n97, n98, n99, n100, n101, n102, n103, n104, n105, n106, n107, n108, n109, n110, n111, n112, n113, g32_0, g32_1, g32_2, g32_3, g32_4, g32_5, g32_6, g32_7, g32_8, g32_9, g32_10, g32_11, g32_12, g32_13, g32_14, g32_15, g32_16, g32_17, g33_0, g33_1, g33_2, g33_3, g33_4, g33_5, g33_6, g33_7, g33_8, g33_9, g33_10, g33_11, g33_12, g33_13, g33_14, g33_15, g33_16, g33_17, g33_18, g47_0, g47_1, g47_2, g47_3, g47_4, g47_5, g47_6, g47_7, g47_8, g47_9, g47_10, g50_0, g50_1, g50_2, g53_0, g53_1, g53_2, g53_3, g53_4, g53_5, g53_6, g53_7, g53_8, g53_9, g53_10, g53_11, g59_0, g59_1, g59_2, g59_3, g59_4, g59_5, g59_6, g59_7, g59_8, g59_9, g59_10, g59_11, g59_12, g66_0, g66_1, g66_2, g66_3, g66_4, g66_5, g69_0, g69_1, g69_2, g69_3, g72_0, g72_1, g72_2, g80_0, g80_1, g80_2, g80_3, g80_4, g80_5, g80_6, g80_7, g80_8, g80_9, g80_10, g80_11, g80_12, g80_13, g80_14, g80_15, g80_16, g80_17, g80_18, g80_19, g80_20, g80_21, g80_22, g80_23, g80_24, g80_25, g80_26, g80_27, g80_28, g80_29, g80_30, g80_31, g80_32, g80_33, g80_34, g80_35, g80_36, g80_37, g80_38, g80_39, g80_40, g80_41, g80_42, g80_43, g80_44, g80_45, g80_46, g80_47, g80_48, g80_49, g80_50, g80_51, g80_52, g80_53, g80_54, g80_55, g80_56, g80_57, g80_58, g80_59, g80_60, g80_61, p32_3, p32_14, p32_15, p32_17, p33_0, p33_5, p33_6, p33_8, p33_11, p33_13, p33_14, p33_16, p47_0, p47_1, p47_2, p47_3, p47_4, p47_5, p47_6, p47_7, p47_10, p50_2, p53_1, p53_2, p53_3, p53_5, p53_6, p53_7, p59_0, p59_1, p59_2, p59_3, p59_6, p59_7, p59_8, p59_9, p66_0, p66_1, p66_4, p66_5, p69_0, p69_1, p80_0, p80_1, p80_6, p80_8, p80_10, p80_11, p80_12, p80_13, p80_14, p80_15, p80_16, p80_17, p80_19, p80_22, p80_25, p80_26, p80_29, p80_32, p80_33, p80_34, p80_37, p80_38, p80_39, p80_47, p80_48, p80_50, p80_51, p80_59, p80_61, l34, l35, l36, l37, l38, l39, l40, l41, l42, l43, l44, l45, l46, l48, l49, l51, l52, l54, l55, l56, l57, l58, l60, l61, l62, l63, l64, l65, l67, l68, l70, l71, l73, l74, l75, l76, l77, l78, l79, l81, l82, l83, l84, l85, l86, l87, l88, l89, l90, l91, l92, l93, l94, l95, l96, l97, l98, l99, l100, l101, l102, l103, l104, l105, l106, l107, l108, l109, l110, l111, l112, l113, s34, s35, s36, s37, s38, s39, s40, s42, s43, s44, s46, s48, s49, s51, s52, s54, s55, s56, s57, s58, s60, s61, s62, s63, s64, s65, s67, s68, s70, s71, s73, s74, s75, s76, s77, s78, s79, s81, s82, s83, s84, s85, s86, s87, s88, s89, s90, s91, s92, s93, s94, s95, s96, s97, s98, s99, s100, s101, s102, s103, s104, s105, s106, s107, s108, s109, s110, s111, s112, s113, k]
  simp only [iw_iff, win, hv]
  by_cases hk : lk T n q = 1
  · by_cases h2 : lw T n q = v
    · simp [hk, h2]
    · simp [hk, h2]
  · simp [hk]
theorem b_if {T : Int → Int} {n q : Int} (h : Lx T n q H) : Ru S (d + 7) 84 [.inr (.inr 47), .inr (.inr 10)] (kk0 ++ Ls) H Q ↔ Q (kk0 ++ Ls, (H, some (.inl (if iw T n q 294 then 1 else 0)))) := b_iw h (by omega) (w := [105, 102]) rfl (by decide) (by decide)
theorem b_not {T : Int → Int} {n q : Int} (h : Lx T n q H) : Ru S (d + 7) 84 [.inr (.inr 47), .inr (.inr 11)] (kk0 ++ Ls) H Q ↔ Q (kk0 ++ Ls, (H, some (.inl (if iw T n q 14836 then 1 else 0)))) := b_iw h (by omega) (w := [110, 111, 116]) rfl (by decide) (by decide)
theorem b_and {T : Int → Int} {n q : Int} (h : Lx T n q H) : Ru S (d + 7) 84 [.inr (.inr 47), .inr (.inr 12)] (kk0 ++ Ls) H Q ↔ Q (kk0 ++ Ls, (H, some (.inl (if iw T n q 1476 then 1 else 0)))) := b_iw h (by omega) (w := [97, 110, 100]) rfl (by decide) (by decide)
theorem b_or {T : Int → Int} {n q : Int} (h : Lx T n q H) : Ru S (d + 7) 84 [.inr (.inr 47), .inr (.inr 13)] (kk0 ++ Ls) H Q ↔ Q (kk0 ++ Ls, (H, some (.inl (if iw T n q 498 then 1 else 0)))) := b_iw h (by omega) (w := [111, 114]) rfl (by decide) (by decide)
end CLEX
