/-! WORKING OVER THE SMALL MACHINE, 2: stores, branches, calls -/
def sm_lq (p : Option sm_V) : Bool := match p with
  | some (.inr (.inl _)) => true
  | _ => false
section WX2
variable {S : sm_E} {mid d pc : Nat} {i : Instr} {L L' : sm_L} {st st0 : List sm_V} {K : sm_K} {H : sm_H} {Q : sm_O → Prop}
theorem wx_stI {idx n : Nat} {p : Option sm_V} {v : Int} (hat : sm_at mid pc = some i) (hs : ∀ call, sm_step S call (sm_mrt mid) (sm_mc mid) (sm_mi mid) i pc L (.inl v :: st) K H = sm_stI idx n pc L (.inl v :: st) K H) (hp : sm_pl L idx = sm_lq p) (hl : idx < L.length) (hset : L.set idx (some (.inl v)) = L') : Bx S d mid (pc, (L, (.inl v :: st, (K, H)))) Q ↔ sm_lq p = false ∧ Bx S d mid (pc + n, (L', (st, (K, H)))) Q := by
  refine bx_chk hat (fun call => ?_)
  rw [hs]
  unfold sm_stI sm_s1
  rw [← hp, ← hset]
  by_cases h : sm_pl L idx = false
  · simp [h, hl, sm_nx]
  · simp [h]
theorem wx_stA {idx n : Nat} {p : Option sm_V} {v : Nat} (hat : sm_at mid pc = some i) (hs : ∀ call, sm_step S call (sm_mrt mid) (sm_mc mid) (sm_mi mid) i pc L (.inr (.inr v) :: st) K H = sm_stA idx n pc L (.inr (.inr v) :: st) K H) (hp : sm_pl L idx = sm_lq p) (hl : idx < L.length) (hset : L.set idx (some (.inr (.inr v))) = L') : Bx S d mid (pc, (L, (.inr (.inr v) :: st, (K, H)))) Q ↔ sm_lq p = false ∧ Bx S d mid (pc + n, (L', (st, (K, H)))) Q := by
  refine bx_chk hat (fun call => ?_)
  rw [hs]
  unfold sm_stA sm_s1
  rw [← hp, ← hset]
  by_cases h : sm_pl L idx = false
  · simp [h, hl, sm_nx]
  · simp [h]
theorem wx_stJ {idx n : Nat} {p : Option sm_V} {v : Int} (hat : sm_at mid pc = some i) (hs : ∀ call, sm_step S call (sm_mrt mid) (sm_mc mid) (sm_mi mid) i pc L (.inr (.inl v) :: st) K H = sm_stJ idx n pc L (.inr (.inl v) :: st) K H) (hp : sm_pl L idx = sm_lq p) (hl : idx + 1 < L.length) (hset : (L.set idx (some (.inr (.inl v)))).set (idx + 1) none = L') : Bx S d mid (pc, (L, (.inr (.inl v) :: st, (K, H)))) Q ↔ sm_lq p = false ∧ Bx S d mid (pc + n, (L', (st, (K, H)))) Q := by
  refine bx_chk hat (fun call => ?_)
  rw [hs]
  unfold sm_stJ sm_s2
  rw [← hp, ← hset]
  by_cases h : sm_pl L idx = false
  · simp [h, hl, sm_nx]
  · simp [h]
theorem wx_inc {idx : Nat} {n : Int} {p : Option sm_V} {v : Int} (hat : sm_at mid pc = some (.iinc idx n)) (hv : sm_lg L idx = some (.inl v)) (hp : sm_pl L idx = sm_lq p) (hl : idx < L.length) (hset : L.set idx (some (.inl (sm_w (v + n)))) = L') : Bx S d mid (pc, (L, (st, (K, H)))) Q ↔ sm_lq p = false ∧ Bx S d mid (pc + 3, (L', (st, (K, H)))) Q := by
  refine bx_chk hat (fun call => ?_)
  simp only [sm_step, hv, sm_s1]
  rw [← hp, ← hset]
  by_cases h : sm_pl L idx = false
  · simp [h, hl, sm_nx]
  · simp [h]
theorem wx_div {g : sm_S} {y : Int} (hat : sm_at mid pc = some i) (hs : ∀ call, sm_step S call (sm_mrt mid) (sm_mc mid) (sm_mi mid) i pc L st K H = if y = 0 then none else some (.inl g)) : Bx S d mid (pc, (L, (st, (K, H)))) Q ↔ ¬ y = 0 ∧ Bx S d mid g Q := bx_chk hat (fun call => by
  rw [hs]
  by_cases h : y = 0
  · simp [h]
  · simp [h])
theorem wx_if {op : ClassFile.Cond} {off : Int} {tgt : Nat} {x : Int} {c : Prop} [Decidable c] (hat : sm_at mid pc = some (.ifCond op off)) (ht : (pc : Int) + off = (tgt : Int)) (hc : (sm_is op x 0 = true) ↔ c) : Bx S d mid (pc, (L, (.inl x :: st, (K, H)))) Q ↔ (c → Bx S d mid (tgt, (L, (st, (K, H)))) Q) ∧ (¬ c → Bx S d mid (pc + 3, (L, (st, (K, H)))) Q) := by
  refine bx_if hat (fun call => ?_)
  show sm_if op off pc L (.inl x :: st) K H = _
  unfold sm_if
  simp only
  rw [if_pos (by omega), show ((pc : Int) + off).toNat = tgt by omega]
  by_cases h : sm_is op x 0 = true
  · rw [if_pos h, if_pos (hc.mp h)]; rfl
  · rw [if_neg h, if_neg (fun q => h (hc.mpr q))]; rfl
theorem wx_if2 {op : ClassFile.Cond} {off : Int} {tgt : Nat} {x y : Int} {c : Prop} [Decidable c] (hat : sm_at mid pc = some (.if_icmp op off)) (ht : (pc : Int) + off = (tgt : Int)) (hc : (sm_is op x y = true) ↔ c) : Bx S d mid (pc, (L, (.inl y :: .inl x :: st, (K, H)))) Q ↔ (c → Bx S d mid (tgt, (L, (st, (K, H)))) Q) ∧ (¬ c → Bx S d mid (pc + 3, (L, (st, (K, H)))) Q) := by
  refine bx_if hat (fun call => ?_)
  show sm_if2 op off pc L (.inl y :: .inl x :: st) K H = _
  unfold sm_if2
  simp only
  rw [if_pos (by omega), show ((pc : Int) + off).toNat = tgt by omega]
  by_cases h : sm_is op x y = true
  · rw [if_pos h, if_pos (hc.mp h)]; rfl
  · rw [if_neg h, if_neg (fun q => h (hc.mpr q))]; rfl
theorem wx_eq {x y : Int} : (sm_is .eq x y = true) ↔ x = y := decide_eq_true_iff
theorem wx_ne {x y : Int} : (sm_is .ne x y = true) ↔ ¬ x = y := decide_eq_true_iff
theorem wx_lt {x y : Int} : (sm_is .lt x y = true) ↔ x < y := decide_eq_true_iff
theorem wx_ge {x y : Int} : (sm_is .ge x y = true) ↔ y ≤ x := decide_eq_true_iff
theorem wx_gt {x y : Int} : (sm_is .gt x y = true) ↔ y < x := decide_eq_true_iff
theorem wx_le {x y : Int} : (sm_is .le x y = true) ↔ x ≤ y := decide_eq_true_iff
theorem wx_ifnull {off : Int} {tgt : Nat} {x : Nat} (hat : sm_at mid pc = some (.ifnull off)) (ht : (pc : Int) + off = (tgt : Int)) : Bx S d mid (pc, (L, (.inr (.inr x) :: st, (K, H)))) Q ↔ (x = 0 → Bx S d mid (tgt, (L, (st, (K, H)))) Q) ∧ (¬ x = 0 → Bx S d mid (pc + 3, (L, (st, (K, H)))) Q) := by
  refine bx_if hat (fun call => ?_)
  show sm_ifn true off pc L (.inr (.inr x) :: st) K H = _
  unfold sm_ifn
  simp only
  rw [if_pos (by omega), show ((pc : Int) + off).toNat = tgt by omega]
  by_cases h : x = 0
  · rw [if_pos (decide_eq_true h), if_pos h]; rfl
  · rw [if_neg (fun q => h (of_decide_eq_true q)), if_neg h]; rfl
theorem wx_ifnonnull {off : Int} {tgt : Nat} {x : Nat} (hat : sm_at mid pc = some (.ifnonnull off)) (ht : (pc : Int) + off = (tgt : Int)) : Bx S d mid (pc, (L, (.inr (.inr x) :: st, (K, H)))) Q ↔ (¬ x = 0 → Bx S d mid (tgt, (L, (st, (K, H)))) Q) ∧ (¬ ¬ x = 0 → Bx S d mid (pc + 3, (L, (st, (K, H)))) Q) := by
  refine bx_if hat (fun call => ?_)
  show sm_ifn false off pc L (.inr (.inr x) :: st) K H = _
  unfold sm_ifn
  simp only
  rw [if_pos (by omega), show ((pc : Int) + off).toNat = tgt by omega]
  by_cases h : x = 0
  · rw [if_neg (by simp [h]), if_neg (by simp [h])]; rfl
  · rw [if_pos (by simp [h]), if_pos h]; rfl
theorem wx_swo {dd lo hi : Int} {offs : Array Int} {tgt : Nat} {x : Int} (hat : sm_at mid pc = some (.tableswitch dd lo hi offs)) (h : x < lo ∨ hi < x) (ht : (pc : Int) + dd = (tgt : Int)) : Bx S d mid (pc, (L, (.inl x :: st, (K, H)))) Q ↔ Bx S d mid (tgt, (L, (st, (K, H)))) Q := by
  refine bx_inl hat (fun call => ?_)
  show sm_sw dd lo hi offs pc L (.inl x :: st) K H = _
  unfold sm_sw sm_jp
  simp only
  rw [if_pos h, if_pos (by omega), show ((pc : Int) + dd).toNat = tgt by omega]
theorem wx_callS {idx m2 n : Nat} {vs : List sm_V} (hat : sm_at mid pc = some (.invokestatic idx)) (hlk : List.lookup idx (sm_cpM (sm_mc mid)) = some (0, (m2, n))) (h2 : (st0.take n).reverse = vs) (h3 : st0.drop n = st) (h4 : n ≤ st0.length) : Bx S d mid (pc, (L, (st0, (K, H)))) Q ↔ (st.map sm_cat).sum ≤ 8 ∧ Ru S d m2 vs K H (fun o => Bx S d mid (pc + 3, (L, (o.2.2.toList ++ st, (o.1, o.2.1)))) Q) := by
  have hs : ∀ call, sm_step S call (sm_mrt mid) (sm_mc mid) (sm_mi mid) (.invokestatic idx) pc L st0 K H = sm_call call m2 n pc L st0 K H := fun call => by
    show sm_invS call (sm_mc mid) idx pc L st0 K H = _
    unfold sm_invS
    rw [hlk]
    rfl
  subst h2; subst h3
  by_cases hc : ((st0.drop n).map sm_cat).sum ≤ 8
  · rw [bx_call hat hs ⟨h4, hc⟩]
    exact ⟨fun q => ⟨hc, q⟩, fun q => q.2⟩
  · rw [bx_none (d := d) (Q := Q) hat (fun call => by rw [hs]; unfold sm_call; rw [if_neg (fun q => hc q.2)])]
    exact ⟨False.elim, fun q => hc q.1⟩
theorem wx_callV {idx m2 n ci a : Nat} {vs : List sm_V} (hat : sm_at mid pc = some (.invokevirtual idx)) (hlk : List.lookup idx (sm_cpM (sm_mc mid)) = some (1, (m2, n))) (hci : sm_mc m2 = ci) (h1 : st0[n]? = some (.inr (.inr a))) (h2 : (st0.take (n + 1)).reverse = vs) (h3 : st0.drop (n + 1) = st) (h4 : n + 1 ≤ st0.length) : Bx S d mid (pc, (L, (st0, (K, H)))) Q ↔ sm_rcv K ci (some (.inr (.inr a))) = true ∧ (st.map sm_cat).sum ≤ 8 ∧ Ru S d m2 vs K H (fun o => Bx S d mid (pc + 3, (L, (o.2.2.toList ++ st, (o.1, o.2.1)))) Q) := by
  have hs : ∀ call, sm_step S call (sm_mrt mid) (sm_mc mid) (sm_mi mid) (.invokevirtual idx) pc L st0 K H = if sm_rcv K ci (some (.inr (.inr a))) = true then sm_call call m2 (n + 1) pc L st0 K H else none := fun call => by
    show sm_invV call (sm_mc mid) idx pc L st0 K H = _
    unfold sm_invV
    rw [hlk]
    simp only [h1, hci]
  subst h2; subst h3
  by_cases hr : sm_rcv K ci (some (.inr (.inr a))) = true
  · have hs' : ∀ call, sm_step S call (sm_mrt mid) (sm_mc mid) (sm_mi mid) (.invokevirtual idx) pc L st0 K H = sm_call call m2 (n + 1) pc L st0 K H := fun call => by rw [hs, if_pos hr]
    by_cases hc : ((st0.drop (n + 1)).map sm_cat).sum ≤ 8
    · rw [bx_call hat hs' ⟨h4, hc⟩]
      exact ⟨fun q => ⟨hr, hc, q⟩, fun q => q.2.2⟩
    · rw [bx_none (d := d) (Q := Q) hat (fun call => by rw [hs']; unfold sm_call; rw [if_neg (fun q => hc q.2)])]
      exact ⟨False.elim, fun q => hc q.2.1⟩
  · rw [bx_none (d := d) (Q := Q) hat (fun call => by rw [hs, if_neg hr])]
    exact ⟨False.elim, fun q => hr q.1⟩
theorem wx_callI {idx m2 n kd a : Nat} {vs : List sm_V} (hat : sm_at mid pc = some (.invokespecial idx)) (hlk : List.lookup idx (sm_cpM (sm_mc mid)) = some (kd, (m2, n))) (hkd : kd = 2 ∨ kd = 3) (h1 : st0[n]? = some (.inr (.inr a))) (h2 : (st0.take (n + 1)).reverse = vs) (h3 : st0.drop (n + 1) = st) (h4 : n + 1 ≤ st0.length) : Bx S d mid (pc, (L, (st0, (K, H)))) Q ↔ a ≠ 0 ∧ (st.map sm_cat).sum ≤ 8 ∧ Ru S d m2 vs K H (fun o => Bx S d mid (pc + 3, (L, (o.2.2.toList ++ st, (o.1, o.2.1)))) Q) := by
  have hs : ∀ call, sm_step S call (sm_mrt mid) (sm_mc mid) (sm_mi mid) (.invokespecial idx) pc L st0 K H = if a ≠ 0 then sm_call call m2 (n + 1) pc L st0 K H else none := fun call => by
    show sm_invI call (sm_mc mid) idx pc L st0 K H = _
    unfold sm_invI
    rw [hlk]
    rcases hkd with rfl | rfl
    · simp only [h1, sm_rcn, decide_eq_true_eq]
    · simp only [h1, sm_rcn, decide_eq_true_eq]
  subst h2; subst h3
  by_cases hr : a ≠ 0
  · have hs' : ∀ call, sm_step S call (sm_mrt mid) (sm_mc mid) (sm_mi mid) (.invokespecial idx) pc L st0 K H = sm_call call m2 (n + 1) pc L st0 K H := fun call => by rw [hs, if_pos hr]
    by_cases hc : ((st0.drop (n + 1)).map sm_cat).sum ≤ 8
    · rw [bx_call hat hs' ⟨h4, hc⟩]
      exact ⟨fun q => ⟨hr, hc, q⟩, fun q => q.2.2⟩
    · rw [bx_none (d := d) (Q := Q) hat (fun call => by rw [hs']; unfold sm_call; rw [if_neg (fun q => hc q.2)])]
      exact ⟨False.elim, fun q => hc q.2.1⟩
  · rw [bx_none (d := d) (Q := Q) hat (fun call => by rw [hs, if_neg hr])]
    exact ⟨False.elim, fun q => hr q.1⟩
theorem wx_callT {idx m2 n a : Nat} {vs : List sm_V} (hat : sm_at mid pc = some (.invokevirtual idx)) (hlk : List.lookup idx (sm_cpM (sm_mc mid)) = some (4, (m2, n))) (h1 : st0[n]? = some (.inr (.inr a))) (h2 : (st0.take (n + 1)).reverse = vs) (h3 : st0.drop (n + 1) = st) (h4 : n + 1 ≤ st0.length) : Bx S d mid (pc, (L, (st0, (K, H)))) Q ↔ (8 ≤ a ∧ a < 14) ∧ (st.map sm_cat).sum ≤ 8 ∧ Ru S d m2 vs K H (fun o => Bx S d mid (pc + 3, (L, (o.2.2.toList ++ st, (o.1, o.2.1)))) Q) := by
  have hs : ∀ call, sm_step S call (sm_mrt mid) (sm_mc mid) (sm_mi mid) (.invokevirtual idx) pc L st0 K H = if 8 ≤ a ∧ a < 14 then sm_call call m2 (n + 1) pc L st0 K H else none := fun call => by
    show sm_invV call (sm_mc mid) idx pc L st0 K H = _
    unfold sm_invV
    rw [hlk]
    simp only [h1, sm_rcs, decide_eq_true_eq]
  subst h2; subst h3
  by_cases hr : 8 ≤ a ∧ a < 14
  · have hs' : ∀ call, sm_step S call (sm_mrt mid) (sm_mc mid) (sm_mi mid) (.invokevirtual idx) pc L st0 K H = sm_call call m2 (n + 1) pc L st0 K H := fun call => by rw [hs, if_pos hr]
    by_cases hc : ((st0.drop (n + 1)).map sm_cat).sum ≤ 8
    · rw [bx_call hat hs' ⟨h4, hc⟩]
      exact ⟨fun q => ⟨hr, hc, q⟩, fun q => q.2.2⟩
    · rw [bx_none (d := d) (Q := Q) hat (fun call => by rw [hs']; unfold sm_call; rw [if_neg (fun q => hc q.2)])]
      exact ⟨False.elim, fun q => hc q.2.1⟩
  · rw [bx_none (d := d) (Q := Q) hat (fun call => by rw [hs, if_neg hr])]
    exact ⟨False.elim, fun q => hr q.1⟩
def wlen (S : sm_E) (K : sm_K) (a : Nat) (κ : Int → Prop) : Prop := match sm_len S K a with
  | some n => n < 2147483648 ∧ κ (n : Int)
  | none => False
theorem bx_len {a : Nat} (hat : sm_at mid pc = some .arraylength) : Bx S d mid (pc, (L, (.inr (.inr a) :: st, (K, H)))) Q ↔ wlen S K a (fun v => Bx S d mid (pc + 1, (L, (.inl v :: st, (K, H)))) Q) := by
  unfold wlen
  cases h : sm_len S K a with
  | none => exact bx_none hat (fun call => by simp only [sm_step, h])
  | some n => exact bx_chk hat (fun call => by simp only [sm_step, h]; rfl)
def waa (K : sm_K) (H : sm_H) (a : Nat) (i : Int) (κ : Nat → Prop) : Prop := match sm_kd K a with
  | some (k, (n, _)) => ((k = 34 ∨ k = 32) ∧ 0 ≤ i ∧ i < n) ∧ κ (H a i).toNat
  | none => False
theorem bx_aald {a : Nat} {j : Int} (hat : sm_at mid pc = some .aaload) : Bx S d mid (pc, (L, (.inl j :: .inr (.inr a) :: st, (K, H)))) Q ↔ waa K H a j (fun v => Bx S d mid (pc + 1, (L, (.inr (.inr v) :: st, (K, H)))) Q) := by
  unfold waa
  cases h : sm_kd K a with
  | none => exact bx_none hat (fun call => by simp only [sm_step, sm_aald, h])
  | some q =>
    obtain ⟨k, n, fins⟩ := q
    exact bx_chk hat (fun call => by simp only [sm_step, sm_aald, h]; rfl)
def was (K : sm_K) (H : sm_H) (a : Nat) (i : Int) (x : Nat) (κ : sm_H → Prop) : Prop := match sm_kd K a with
  | some (k, (n, _)) => match sm_kd K x with
    | some (k', _) => ((k = 34 ∨ k = 32) ∧ k' + 30 = k ∧ 0 ≤ i ∧ i < n) ∧ κ (sm_u H a i (x : Int))
    | none => False
  | none => False
theorem bx_aast {a x : Nat} {j : Int} (hat : sm_at mid pc = some .aastore) : Bx S d mid (pc, (L, (.inr (.inr x) :: .inl j :: .inr (.inr a) :: st, (K, H)))) Q ↔ was K H a j x (fun H' => Bx S d mid (pc + 1, (L, (st, (K, H')))) Q) := by
  unfold was
  cases h : sm_kd K a with
  | none => exact bx_none hat (fun call => by simp only [sm_step, sm_aast, h])
  | some q =>
    obtain ⟨k, n, fins⟩ := q
    simp only
    cases h2 : sm_kd K x with
    | none => exact bx_none hat (fun call => by simp only [sm_step, sm_aast, h, h2])
    | some q2 =>
      obtain ⟨k2, c2⟩ := q2
      exact bx_chk hat (fun call => by simp only [sm_step, sm_aast, h, h2]; rfl)
def wldB (K : sm_K) (H : sm_H) (a : Nat) (i : Int) (κ : Int → Prop) : Prop := if a < 32 then (match sm_str[a - 16]? with
  | some l => (16 ≤ a ∧ 0 ≤ i ∧ i < l.length) ∧ κ (l.getD i.toNat 0)
  | none => False) else wldK 22 K H a i κ
theorem bx_ldB {a : Nat} {j : Int} (hat : sm_at mid pc = some .baload) : Bx S d mid (pc, (L, (.inl j :: .inr (.inr a) :: st, (K, H)))) Q ↔ wldB K H a j (fun v => Bx S d mid (pc + 1, (L, (.inl v :: st, (K, H)))) Q) := by
  unfold wldB
  by_cases ha : a < 32
  · rw [if_pos ha]
    cases h : sm_str[a - 16]? with
    | none => exact bx_none hat (fun call => by simp only [sm_step, if_pos ha, h])
    | some l => exact bx_chk hat (fun call => by simp only [sm_step, if_pos ha, h]; rfl)
  · rw [if_neg ha]
    unfold wldK
    cases h : sm_ar K H 22 a with
    | none => exact bx_none hat (fun call => by simp only [sm_step, if_neg ha, sm_ald, h])
    | some q =>
      obtain ⟨n, f⟩ := q
      exact bx_chk hat (fun call => by simp only [sm_step, if_neg ha, sm_ald, h]; rfl)
def wstB (K : sm_K) (H : sm_H) (a : Nat) (i x : Int) (κ : sm_H → Prop) : Prop := match sm_ar K H 22 a with
  | some (n, _) => ((0 ≤ i ∧ i < n) ∧ (x = 0 ∨ x = 1)) ∧ κ (sm_u H a i x)
  | none => False
theorem bx_stB {a : Nat} {j x : Int} (hat : sm_at mid pc = some .bastore) : Bx S d mid (pc, (L, (.inl x :: .inl j :: .inr (.inr a) :: st, (K, H)))) Q ↔ wstB K H a j x (fun H' => Bx S d mid (pc + 1, (L, (st, (K, H')))) Q) := by
  unfold wstB
  cases h : sm_ar K H 22 a with
  | none => exact bx_none hat (fun call => by simp only [sm_step, sm_bast, h])
  | some q =>
    obtain ⟨n, f⟩ := q
    exact bx_chk hat (fun call => by simp only [sm_step, sm_bast, h]; rfl)
def wcp (K : sm_K) (H : sm_H) (a : Nat) (i : Int) (b : Nat) (j n : Int) (κ : sm_H → Prop) : Prop := match sm_kd K a, sm_kd K b with
  | some (k, (na, _)), some (k', (nb, _)) => (k = k' ∧ (k = 20 ∨ k = 21 ∨ k = 34) ∧ 0 ≤ i ∧ 0 ≤ j ∧ 0 ≤ n ∧ i + n ≤ na ∧ j + n ≤ nb ∧ (k = 34 → (List.range n.toNat).all (fun t => sm_lawq K (H a (i + t)).toNat) = true)) ∧ κ (sm_cp H a i b j n)
  | _, _ => False
theorem bx_cp {idx m2 nn a b : Nat} {i j n : Int} (hat : sm_at mid pc = some (.invokestatic idx)) (hlk : List.lookup idx (sm_cpM (sm_mc mid)) = some (7, (m2, nn))) : Bx S d mid (pc, (L, (.inl n :: .inl j :: .inr (.inr b) :: .inl i :: .inr (.inr a) :: st, (K, H)))) Q ↔ (st.map sm_cat).sum ≤ 8 ∧ wcp K H a i b j n (fun H' => Bx S d mid (pc + 3, (L, (st, (K, H')))) Q) := by
  have hs : ∀ call, sm_step S call (sm_mrt mid) (sm_mc mid) (sm_mi mid) (.invokestatic idx) pc L (.inl n :: .inl j :: .inr (.inr b) :: .inl i :: .inr (.inr a) :: st) K H = sm_acopy pc L (.inl n :: .inl j :: .inr (.inr b) :: .inl i :: .inr (.inr a) :: st) K H := fun call => by
    show sm_invS call (sm_mc mid) idx pc L _ K H = _
    unfold sm_invS
    rw [hlk]
    rfl
  unfold wcp
  cases h : sm_kd K a with
  | none =>
    rw [bx_none (d := d) (Q := Q) hat (fun call => by rw [hs]; simp only [sm_acopy, h])]
    exact ⟨False.elim, fun q => q.2⟩
  | some q =>
    cases h2 : sm_kd K b with
    | none =>
      obtain ⟨k, na, fa⟩ := q
      rw [bx_none (d := d) (Q := Q) hat (fun call => by rw [hs]; simp only [sm_acopy, h, h2])]
      exact ⟨False.elim, fun q => q.2⟩
    | some q2 =>
      obtain ⟨k, na, fa⟩ := q
      obtain ⟨k2, nb, fb⟩ := q2
      simp only
      rw [bx_chk (d := d) (Q := Q) hat (fun call => by rw [hs]; simp only [sm_acopy, h, h2]; rfl)]
      constructor
      · rintro ⟨⟨c1, c2, c3, c4, c5, c6, c7, c8, c9⟩, hq⟩
        exact ⟨c8, ⟨c1, c2, c3, c4, c5, c6, c7, c9⟩, hq⟩
      · rintro ⟨c8, ⟨c1, c2, c3, c4, c5, c6, c7, c9⟩, hq⟩
        exact ⟨⟨c1, c2, c3, c4, c5, c6, c7, c8, c9⟩, hq⟩
end WX2
theorem ct_nil : ((([] : List sm_V).map sm_cat).sum ≤ 8) ↔ True := by decide
theorem ct_I {x : Int} : ((([.inl x] : List sm_V).map sm_cat).sum ≤ 8) ↔ True := iff_true_intro (by show 1 + 0 ≤ 8; omega)
theorem ct_A {x : Nat} : ((([.inr (.inr x)] : List sm_V).map sm_cat).sum ≤ 8) ↔ True := iff_true_intro (by show 1 + 0 ≤ 8; omega)
theorem ct_J {x : Int} : ((([.inr (.inl x)] : List sm_V).map sm_cat).sum ≤ 8) ↔ True := iff_true_intro (by show 2 + 0 ≤ 8; omega)
theorem ct_II {x y : Int} : ((([.inl x, .inl y] : List sm_V).map sm_cat).sum ≤ 8) ↔ True := iff_true_intro (by show 1 + (1 + 0) ≤ 8; omega)
theorem ct_IA {x : Int} {y : Nat} : ((([.inl x, .inr (.inr y)] : List sm_V).map sm_cat).sum ≤ 8) ↔ True := iff_true_intro (by show 1 + (1 + 0) ≤ 8; omega)
theorem lq_I {x : Int} : (sm_lq (some (.inl x)) = false) ↔ True := iff_true_intro rfl
theorem lq_A {x : Nat} : (sm_lq (some (.inr (.inr x))) = false) ↔ True := iff_true_intro rfl
theorem lq_n : (sm_lq none = false) ↔ True := iff_true_intro rfl
theorem ca_I {x : Int} : (sm_cat (.inl x) = 1) ↔ True := iff_true_intro rfl
theorem ca_A {x : Nat} : (sm_cat (.inr (.inr x)) = 1) ↔ True := iff_true_intro rfl
theorem sw_id {x : Int} (h1 : -2147483648 ≤ x) (h2 : x < 2147483648) : sm_w x = x := so_inw ⟨h1, h2⟩
theorem sq_id {x : Int} (h1 : -9223372036854775808 ≤ x) (h2 : x < 9223372036854775808) : sm_q x = x := so_inq ⟨h1, h2⟩
