/-! WORKING OVER THE SMALL MACHINE: a body or a method comes to an end with Q; every instruction is an equivalence -/
section WX
variable {S : sm_E} {mid : Nat} {call call' : Nat → List sm_V → sm_K → sm_H → Option sm_O}
theorem wx_call_mono (hc : ∀ mid vs K H o, call mid vs K H = some o → call' mid vs K H = some o) {m2 n pc : Nat} {L : sm_L} {st : List sm_V} {K : sm_K} {H : sm_H} {r : sm_S ⊕ sm_O} (h : sm_call call m2 n pc L st K H = some r) : sm_call call' m2 n pc L st K H = some r := by
  unfold sm_call at h ⊢
  split at h
  · rename_i hcd
    rw [if_pos hcd]
    split at h
    · rename_i K' H' v hv
      rw [hc _ _ _ _ _ hv]
      exact h
    · cases h
  · cases h
theorem wx_step_mono (hc : ∀ mid vs K H o, call mid vs K H = some o → call' mid vs K H = some o) {rt : Option FieldType} {c ini pc : Nat} {i : Instr} {L : sm_L} {st : List sm_V} {K : sm_K} {H : sm_H} {r : sm_S ⊕ sm_O} (h : sm_step S call rt c ini i pc L st K H = some r) : sm_step S call' rt c ini i pc L st K H = some r := by
  cases i with
  | invokestatic k =>
    replace h : sm_invS call c k pc L st K H = some r := h
    show sm_invS call' c k pc L st K H = some r
    unfold sm_invS at h ⊢
    split at h <;> first | exact wx_call_mono hc h | exact h
  | invokevirtual k =>
    replace h : sm_invV call c k pc L st K H = some r := h
    show sm_invV call' c k pc L st K H = some r
    unfold sm_invV at h ⊢
    split at h
    · split at h
      · rename_i hq
        rw [if_pos hq]
        exact wx_call_mono hc h
      · cases h
    · split at h
      · rename_i hq
        rw [if_pos hq]
        exact wx_call_mono hc h
      · cases h
    · exact h
    · cases h
  | invokespecial k =>
    replace h : sm_invI call c k pc L st K H = some r := h
    show sm_invI call' c k pc L st K H = some r
    unfold sm_invI at h ⊢
    split at h
    · split at h
      · rename_i hq
        rw [if_pos hq]
        exact wx_call_mono hc h
      · cases h
    · split at h
      · rename_i hq
        rw [if_pos hq]
        exact wx_call_mono hc h
      · cases h
    · exact h
    · cases h
  | newarray at0 => cases at0 <;> exact h
  | _ => exact h
theorem wx_ex_mono (hc : ∀ mid vs K H o, call mid vs K H = some o → call' mid vs K H = some o) : ∀ (n n' : Nat) (g : sm_S) (o : sm_O), n ≤ n' → sm_ex S call mid n g = some o → sm_ex S call' mid n' g = some o := by
  intro n
  induction n with
  | zero => intro n' g o _ h; cases h
  | succ n ih =>
    intro n' g o hn h
    obtain ⟨k, rfl⟩ : ∃ k, n' = k + 1 := ⟨n' - 1, by omega⟩
    obtain ⟨pc, L, st, K, H⟩ := g
    unfold sm_ex at h ⊢
    split at h
    · cases h
    · rename_i i hi
      split at h
      · cases h
      · rename_i g hg
        rw [wx_step_mono hc hg]
        exact ih k g o (by omega) h
      · rename_i o' hg
        rw [wx_step_mono hc hg]
        exact h
theorem wx_run_mono : ∀ (d N N' mid : Nat) (vs : List sm_V) (K : sm_K) (H : sm_H) (o : sm_O), N ≤ N' → sm_run S N d mid vs K H = some o → sm_run S N' d mid vs K H = some o := by
  intro d
  induction d with
  | zero => intro N N' mid vs K H o _ h; cases h
  | succ d ih =>
    intro N N' mid vs K H o hN h
    unfold sm_run at h ⊢
    split at h
    · rename_i hl
      rw [if_pos hl]
      exact wx_ex_mono (fun mid vs K H o h => ih N N' mid vs K H o hN h) _ _ _ _ hN h
    · cases h
theorem wx_run_deep : ∀ (d d' N mid : Nat) (vs : List sm_V) (K : sm_K) (H : sm_H) (o : sm_O), d ≤ d' → sm_run S N d mid vs K H = some o → sm_run S N d' mid vs K H = some o := by
  intro d
  induction d with
  | zero => intro d' N mid vs K H o _ h; cases h
  | succ d ih =>
    intro d' N mid vs K H o hd h
    obtain ⟨k, rfl⟩ : ∃ k, d' = k + 1 := ⟨d' - 1, by omega⟩
    unfold sm_run at h ⊢
    split at h
    · rename_i hl
      rw [if_pos hl]
      exact wx_ex_mono (fun mid vs K H o h => ih k N mid vs K H o (by omega) h) _ _ _ _ (Nat.le_refl _) h
    · cases h
/-- a body at a place comes to an end with Q -/
def Bx (S : sm_E) (d mid : Nat) (g : sm_S) (Q : sm_O → Prop) : Prop := ∃ (N n : Nat) (o : sm_O), sm_ex S (sm_run S N d) mid n g = some o ∧ Q o
/-- a method comes to an end with Q -/
def Ru (S : sm_E) (d mid : Nat) (vs : List sm_V) (K : sm_K) (H : sm_H) (Q : sm_O → Prop) : Prop := ∃ (N : Nat) (o : sm_O), sm_run S N d mid vs K H = some o ∧ Q o
variable {d pc : Nat} {i : Instr} {L : sm_L} {st : List sm_V} {K : sm_K} {H : sm_H} {Q Q' : sm_O → Prop} {g : sm_S} {o : sm_O}
theorem Bx.mono (h : Bx S d mid g Q) (hq : ∀ o, Q o → Q' o) : Bx S d mid g Q' := by
  obtain ⟨N, n, o, h1, h2⟩ := h
  exact ⟨N, n, o, h1, hq o h2⟩
theorem Ru.mono {vs : List sm_V} (h : Ru S d mid vs K H Q) (hq : ∀ o, Q o → Q' o) : Ru S d mid vs K H Q' := by
  obtain ⟨N, o, h1, h2⟩ := h
  exact ⟨N, o, h1, hq o h2⟩
theorem Ru.deep {d' : Nat} {vs : List sm_V} (h : Ru S d mid vs K H Q) (hd : d ≤ d') : Ru S d' mid vs K H Q := by
  obtain ⟨N, o, h1, h2⟩ := h
  exact ⟨N, o, wx_run_deep d d' N mid vs K H o hd h1, h2⟩
theorem bx_inl (hat : sm_at mid pc = some i) (hs : ∀ call, sm_step S call (sm_mrt mid) (sm_mc mid) (sm_mi mid) i pc L st K H = some (.inl g)) : Bx S d mid (pc, (L, (st, (K, H)))) Q ↔ Bx S d mid g Q := by
  constructor
  · rintro ⟨N, n, o, h1, h2⟩
    cases n with
    | zero => cases h1
    | succ n =>
      unfold sm_ex at h1
      rw [hat] at h1
      simp only [hs] at h1
      exact ⟨N, n, o, h1, h2⟩
  · rintro ⟨N, n, o, h1, h2⟩
    refine ⟨N, n + 1, o, ?_, h2⟩
    unfold sm_ex
    rw [hat]
    simp only [hs]
    exact h1
theorem bx_inr (hat : sm_at mid pc = some i) (hs : ∀ call, sm_step S call (sm_mrt mid) (sm_mc mid) (sm_mi mid) i pc L st K H = some (.inr o)) : Bx S d mid (pc, (L, (st, (K, H)))) Q ↔ Q o := by
  constructor
  · rintro ⟨N, n, o', h1, h2⟩
    cases n with
    | zero => cases h1
    | succ n =>
      unfold sm_ex at h1
      rw [hat] at h1
      simp only [hs] at h1
      cases h1
      exact h2
  · intro h
    refine ⟨0, 1, o, ?_, h⟩
    unfold sm_ex
    rw [hat]
    simp only [hs]
theorem bx_none (hat : sm_at mid pc = some i) (hs : ∀ call, sm_step S call (sm_mrt mid) (sm_mc mid) (sm_mi mid) i pc L st K H = none) : Bx S d mid (pc, (L, (st, (K, H)))) Q ↔ False := by
  constructor
  · rintro ⟨N, n, o', h1, h2⟩
    cases n with
    | zero => cases h1
    | succ n =>
      unfold sm_ex at h1
      rw [hat] at h1
      simp only [hs] at h1
      cases h1
  · exact False.elim
theorem bx_call {m2 n : Nat} (hat : sm_at mid pc = some i) (hs : ∀ call, sm_step S call (sm_mrt mid) (sm_mc mid) (sm_mi mid) i pc L st K H = sm_call call m2 n pc L st K H) (hn : n ≤ st.length ∧ ((st.drop n).map sm_cat).sum ≤ 8) : Bx S d mid (pc, (L, (st, (K, H)))) Q ↔ Ru S d m2 (st.take n).reverse K H (fun o => Bx S d mid (pc + 3, (L, (o.2.2.toList ++ st.drop n, (o.1, o.2.1)))) Q) := by
  constructor
  · rintro ⟨N, k, o, h1, h2⟩
    cases k with
    | zero => cases h1
    | succ k =>
      unfold sm_ex at h1
      rw [hat] at h1
      simp only [hs, sm_call, if_pos hn] at h1
      cases hr : sm_run S N d m2 (st.take n).reverse K H with
      | none => rw [hr] at h1; cases h1
      | some o' =>
        obtain ⟨K', H', v⟩ := o'
        rw [hr] at h1
        exact ⟨N, (K', (H', v)), hr, N, k, o, h1, h2⟩
  · rintro ⟨N, ⟨K', H', v⟩, h1, N', k, o, h2, h3⟩
    refine ⟨N + N', k + 1, o, ?_, h3⟩
    unfold sm_ex
    rw [hat]
    simp only [hs, sm_call, if_pos hn]
    rw [wx_run_mono d N (N + N') _ _ _ _ _ (by omega) h1]
    exact wx_ex_mono (fun mid vs K H o h => wx_run_mono d N' (N + N') mid vs K H o (by omega) h) _ _ _ _ (Nat.le_refl _) h2
theorem ru_eq {vs : List sm_V} (hl : (sm_sl vs).length ≤ sm_ml mid) : Ru S (d + 1) mid vs K H Q ↔ Bx S d mid (0, (sm_en vs (sm_ml mid), ([], (K, H)))) Q := by
  constructor
  · rintro ⟨N, o, h1, h2⟩
    unfold sm_run at h1
    rw [if_pos hl] at h1
    exact ⟨N, N, o, h1, h2⟩
  · rintro ⟨N, n, o, h1, h2⟩
    refine ⟨N + n, o, ?_, h2⟩
    unfold sm_run
    rw [if_pos hl]
    exact wx_ex_mono (fun mid vs K H o h => wx_run_mono d N (N + n) mid vs K H o (by omega) h) _ _ _ _ (by omega) h1
theorem bx_if {c : Prop} [Decidable c] {g1 g2 : sm_S} (hat : sm_at mid pc = some i) (hs : ∀ call, sm_step S call (sm_mrt mid) (sm_mc mid) (sm_mi mid) i pc L st K H = if c then some (.inl g1) else some (.inl g2)) : Bx S d mid (pc, (L, (st, (K, H)))) Q ↔ (c → Bx S d mid g1 Q) ∧ (¬ c → Bx S d mid g2 Q) := by
  by_cases hc : c
  · have h := bx_inl (d := d) (Q := Q) (g := g1) hat (fun call => by rw [hs, if_pos hc])
    rw [h]
    exact ⟨fun q => ⟨fun _ => q, fun q2 => absurd hc q2⟩, fun q => q.1 hc⟩
  · have h := bx_inl (d := d) (Q := Q) (g := g2) hat (fun call => by rw [hs, if_neg hc])
    rw [h]
    exact ⟨fun q => ⟨fun q2 => absurd q2 hc, fun _ => q⟩, fun q => q.2 hc⟩
theorem bx_chk {c : Prop} [Decidable c] (hat : sm_at mid pc = some i) (hs : ∀ call, sm_step S call (sm_mrt mid) (sm_mc mid) (sm_mi mid) i pc L st K H = if c then some (.inl g) else none) : Bx S d mid (pc, (L, (st, (K, H)))) Q ↔ c ∧ Bx S d mid g Q := by
  by_cases hc : c
  · have h := bx_inl (d := d) (Q := Q) (g := g) hat (fun call => by rw [hs, if_pos hc])
    rw [h]
    exact ⟨fun q => ⟨hc, q⟩, fun q => q.2⟩
  · have h := bx_none (d := d) (Q := Q) (S := S) (L := L) (st := st) (K := K) (H := H) hat (fun call => by rw [hs, if_neg hc])
    rw [h]
    exact ⟨False.elim, fun q => hc q.1⟩
theorem bx_chkr {c : Prop} [Decidable c] (hat : sm_at mid pc = some i) (hs : ∀ call, sm_step S call (sm_mrt mid) (sm_mc mid) (sm_mi mid) i pc L st K H = if c then some (.inr o) else none) : Bx S d mid (pc, (L, (st, (K, H)))) Q ↔ c ∧ Q o := by
  by_cases hc : c
  · have h := bx_inr (d := d) (Q := Q) (o := o) hat (fun call => by rw [hs, if_pos hc])
    rw [h]
    exact ⟨fun q => ⟨hc, q⟩, fun q => q.2⟩
  · have h := bx_none (d := d) (Q := Q) (S := S) (L := L) (st := st) (K := K) (H := H) hat (fun call => by rw [hs, if_neg hc])
    rw [h]
    exact ⟨False.elim, fun q => hc q.1⟩
/-! heap access with a continuation -/
def wldI (S : sm_E) (K : sm_K) (H : sm_H) (a : Nat) (i : Int) (k : Int → Prop) : Prop := match sm_ai S K H a with
  | some (n, f) => (0 ≤ i ∧ i < n) ∧ k (f i)
  | none => False
def wldK (kd : Nat) (K : sm_K) (H : sm_H) (a : Nat) (i : Int) (k : Int → Prop) : Prop := match sm_ar K H kd a with
  | some (n, f) => (0 ≤ i ∧ i < n) ∧ k (f i)
  | none => False
def wstK (kd : Nat) (K : sm_K) (H : sm_H) (a : Nat) (i x : Int) (k : sm_H → Prop) : Prop := match sm_ar K H kd a with
  | some (n, _) => (0 ≤ i ∧ i < n) ∧ k (sm_u H a i x)
  | none => False
def wgtf (c k : Nat) (K : sm_K) (H : sm_H) (a : Nat) (κ : sm_V → Prop) : Prop := match sm_kd K a with
  | some (kd, (_, fins)) => if kd = c then (match sm_rd c k fins (H a) with
    | some v => κ v
    | none => False) else False
  | none => False
def wptf (own ini c k : Nat) (K : sm_K) (H : sm_H) (a : Nat) (v : sm_V) (κ : sm_K → sm_H → Prop) : Prop := match sm_kd K a with
  | some ce => if ce.1 = c ∧ (sm_fin c k = true → ini = 2 ∧ own = c) then (match sm_wr K H a c k ce v with
    | some (K', H') => κ K' H'
    | none => False) else False
  | none => False
theorem bx_ldI {a : Nat} {j : Int} (hat : sm_at mid pc = some .iaload) : Bx S d mid (pc, (L, (.inl j :: .inr (.inr a) :: st, (K, H)))) Q ↔ wldI S K H a j (fun v => Bx S d mid (pc + 1, (L, (.inl v :: st, (K, H)))) Q) := by
  unfold wldI
  cases h : sm_ai S K H a with
  | none => exact bx_none hat (fun call => by simp only [sm_step, sm_ald, h])
  | some q =>
    obtain ⟨n, f⟩ := q
    exact bx_chk hat (fun call => by simp only [sm_step, sm_ald, h]; rfl)
theorem bx_ldJ {a : Nat} {j : Int} (hat : sm_at mid pc = some .laload) : Bx S d mid (pc, (L, (.inl j :: .inr (.inr a) :: st, (K, H)))) Q ↔ wldK 21 K H a j (fun v => Bx S d mid (pc + 1, (L, (.inr (.inl v) :: st, (K, H)))) Q) := by
  unfold wldK
  cases h : sm_ar K H 21 a with
  | none => exact bx_none hat (fun call => by simp only [sm_step, sm_ald, h])
  | some q =>
    obtain ⟨n, f⟩ := q
    exact bx_chk hat (fun call => by simp only [sm_step, sm_ald, h]; rfl)
theorem bx_stI {a : Nat} {j x : Int} (hat : sm_at mid pc = some .iastore) : Bx S d mid (pc, (L, (.inl x :: .inl j :: .inr (.inr a) :: st, (K, H)))) Q ↔ wstK 20 K H a j x (fun H' => Bx S d mid (pc + 1, (L, (st, (K, H')))) Q) := by
  unfold wstK
  cases h : sm_ar K H 20 a with
  | none => exact bx_none hat (fun call => by simp only [sm_step, sm_iast, h])
  | some q =>
    obtain ⟨n, f⟩ := q
    exact bx_chk hat (fun call => by simp only [sm_step, sm_iast, h]; rfl)
theorem bx_stJ {a : Nat} {j x : Int} (hat : sm_at mid pc = some .lastore) : Bx S d mid (pc, (L, (.inr (.inl x) :: .inl j :: .inr (.inr a) :: st, (K, H)))) Q ↔ wstK 21 K H a j x (fun H' => Bx S d mid (pc + 1, (L, (st, (K, H')))) Q) := by
  unfold wstK
  cases h : sm_ar K H 21 a with
  | none => exact bx_none hat (fun call => by simp only [sm_step, sm_last, h])
  | some q =>
    obtain ⟨n, f⟩ := q
    exact bx_chk hat (fun call => by simp only [sm_step, sm_last, h]; rfl)
theorem bx_getf {a idx ci kf : Nat} (hat : sm_at mid pc = some (.getfield idx)) (h15 : sm_mc mid ≠ 15) (hlk : List.lookup idx (sm_cpF (sm_mc mid)) = some (ci, kf)) : Bx S d mid (pc, (L, (.inr (.inr a) :: st, (K, H)))) Q ↔ wgtf ci kf K H a (fun v => Bx S d mid (pc + 3, (L, (v :: st, (K, H)))) Q) := by
  unfold wgtf
  by_cases ha : a < 32
  · have hk : sm_kd K a = none := by unfold sm_kd; rw [if_pos ha]
    rw [hk]
    exact bx_none hat (fun call => by simp only [sm_step, sm_getf, if_pos ha]; rw [if_neg (fun q => h15 q.2.2)])
  · cases hk : sm_kd K a with
    | none => exact bx_none hat (fun call => by simp only [sm_step, sm_getf, if_neg ha, hlk, hk])
    | some ce =>
      obtain ⟨kd, n, fins⟩ := ce
      simp only
      by_cases hc : kd = ci
      · rw [if_pos hc]
        cases hr : sm_rd ci kf fins (H a) with
        | none => exact bx_none hat (fun call => by simp only [sm_step, sm_getf, if_neg ha, hlk, hk, if_pos hc, hr])
        | some v => exact bx_inl hat (fun call => by simp only [sm_step, sm_getf, if_neg ha, hlk, hk, if_pos hc, hr]; rfl)
      · rw [if_neg hc]
        exact bx_none hat (fun call => by simp only [sm_step, sm_getf, if_neg ha, hlk, hk, if_neg hc])
theorem bx_putf {a idx ci kf : Nat} {v : sm_V} (hat : sm_at mid pc = some (.putfield idx)) (hlk : List.lookup idx (sm_cpF (sm_mc mid)) = some (ci, kf)) : Bx S d mid (pc, (L, (v :: .inr (.inr a) :: st, (K, H)))) Q ↔ wptf (sm_mc mid) (sm_mi mid) ci kf K H a v (fun K' H' => Bx S d mid (pc + 3, (L, (st, (K', H')))) Q) := by
  unfold wptf
  cases hk : sm_kd K a with
  | none => exact bx_none hat (fun call => by simp only [sm_step, sm_putf, hlk, hk])
  | some ce =>
    simp only
    by_cases hc : ce.1 = ci ∧ (sm_fin ci kf = true → sm_mi mid = 2 ∧ sm_mc mid = ci)
    · rw [if_pos hc]
      cases hr : sm_wr K H a ci kf ce v with
      | none => exact bx_none hat (fun call => by simp only [sm_step, sm_putf, hlk, hk, if_pos hc, hr])
      | some q =>
        obtain ⟨K', H'⟩ := q
        exact bx_inl hat (fun call => by simp only [sm_step, sm_putf, hlk, hk, if_pos hc, hr]; rfl)
    · rw [if_neg hc]
      exact bx_none hat (fun call => by simp only [sm_step, sm_putf, hlk, hk, if_neg hc])
end WX
