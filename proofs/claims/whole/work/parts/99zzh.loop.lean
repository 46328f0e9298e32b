/-! the law's loop -/
section LOOP
variable {fmt : Bool} {L : Nat} {xs : Nat → Int32}
def Qg (o : sm_O) : Prop := o.2.2 = some (.inl 1) ∧ o.1.length ≤ 60000 ∧ sm_sz o.1 ≤ 5000000
theorem LIv.fin {n : Nat} {Ls : sm_K} {H : sm_H} (h : LIv n Ls H) (hn : n ≤ 512) : Qg (kk0 ++ Ls, (H, some (.inl 1))) := by
  obtain ⟨a, b, rm, own, hI, h1, T, h2, h3⟩ := h
  have hrm : rm ≤ 100000 := hI.2.2.2.2.2.1.1.1.1
  have e : sm_sz kk0 ≤ 1100000 := by decide +kernel
  refine ⟨rfl, ?_, ?_⟩
  · show (kk0 ++ Ls).length ≤ 60000
    rw [List.length_append, kk0_len]; omega
  · show sm_sz (kk0 ++ Ls) ≤ 5000000
    rw [sz_app]; omega
theorem law_step {n : Nat} {Ls : sm_K} {H : sm_H} {i : Int} (hb : 0 ≤ i ∧ i + 6 ≤ L) (hL : L ≤ 3072) (h : LIv n Ls H) (tail : ∀ Ls' H2, LIv (n + 1) Ls' H2 → Bx (st_S fmt L xs) 60 270 (1302, ([some (.inr (.inr 4)), some (.inr (.inr 32)), some (.inr (.inr 80)), some (.inl i)], ([], (kk0 ++ Ls', H2)))) Qg) {x : Int} : Bx (st_S fmt L xs) 60 270 (33, ([some (.inr (.inr 4)), some (.inr (.inr 32)), some (.inr (.inr 80)), some (.inl i)], ([.inl x], (kk0 ++ Ls, H)))) Qg := by
  obtain ⟨tw, hlo⟩ := h.lo
  have hx : ∀ j : Nat, -2147483648 ≤ (xs j).toInt ∧ (xs j).toInt < 2147483648 := fun j => ⟨Int32.le_toInt _, Int32.toInt_lt _⟩
  have h1 : LIv (n + 1) Ls H := by
    obtain ⟨a, b, rm, own, hI, hR⟩ := h
    exact ⟨a, b, rm, own, hI, hR.same⟩
  rw [x270_33]
  exact ⟨fun _ => lc_0 hb hL (Sim.li h (s_cow (d := 57) h.sr h.hr) (by omega)) tail,
    fun _ => lc_1 hb hL (Sim.li h (s_put (d := 57) h.sr h.hr) (by omega)) tail,
    fun _ => lc_2 hb hL (Sim.li h (s_left (d := 56) h.sr h.hr) (by omega)) tail,
    fun _ => lc_3 hb hL (Sim.li h (s_of (d := 57) h.sr h.hr) (by omega)) tail,
    fun _ => lc_4 hb hL (Sim.li h (s_cell (d := 57) h.sr h.hr) (by omega)) tail,
    fun _ => lc_5 hb hL (Sim.li h (s_wind (d := 57) h.sr h.hr) (by omega)) tail,
    fun _ => lc_6 hb hL (Sim.li h (s_gap (d := 57) h.sr h.hr) (by omega)) tail,
    fun _ => lc_7 hb hL (Sim.li h (s_guard (d := 57) h.sr h.hr) (by omega)) tail,
    fun _ => lc_8 hb hL (Sim.li h (s_feed (d := 58) h.sr h.hr) (by omega)) tail,
    fun _ => lc_9 hb hL (Sim.li h (s_end (d := 59) h.sr h.hr) (by omega)) tail,
    fun _ => lc_10 hb hL (Sim.li h (s_row (d := 56) h.sr h.hr) (by omega)) tail,
    fun _ => lc_11 hb hL (Sim.li h (s_lost (d := 59) h.sr h.hr) (by omega)) tail,
    fun _ => lc_12 hb hL (Sim.li h (s_note (d := 58) h.sr h.hr) (by omega)) tail,
    fun _ => lc_13 hb hL (li_law h) tail,
    fun _ => lc_14 hb hL (Sim.li h (s_fault (d := 59) h.sr h.hr) (by omega)) tail,
    fun _ => lc_15 hb hL (Sim.li h (s_force (d := 57) h.sr h.hr) (by omega)) tail,
    fun _ => lc_16 hb hL (Sim.li h (s_order (d := 57) h.sr h.hr) (by omega)) tail,
    fun _ => lc_17 hb hL (Sim.li h (s_clear (d := 59) h.sr h.hr) (by omega)) tail,
    fun _ => lc_18 hb hL (Sim.li h (s_who (d := 54) h.sr h.hr hlo) (by omega)) tail,
    fun _ => lc_19 hb hL (Sim.li h (s_unlawful (d := 54) h.sr h.hr hlo) (by omega)) tail,
    fun _ => lc_20 hb hL (Sim.li h (s_call (d := 52) h.sr h.hr hlo) (by omega)) tail,
    fun _ => lc_21 hb hL (Sim.li h (s_would (d := 52) h.sr h.hr hlo) (by omega)) tail,
    fun _ => lc_22 hb hL (li_drive h) tail,
    fun _ => lc_23 hb hL (li_calls h (hx _)) tail,
    fun _ => lc_24 hb hL (li_dogs h) tail,
    fun _ => lc_25 hb hL (Sim.li h (s_lead (d := 56) h.sr h.hr) (by omega)) tail,
    fun _ => lc_26 hb hL (Sim.li h (s_rung (d := 50) h.sr h.hr) (by omega)) tail,
    fun _ => lc_27 hb hL (Sim.li h (s_recast (d := 50) h.sr h.hr) (by omega)) tail,
    fun _ => lc_28 hb hL (Sim.li h (s_hoof (d := 50) h.sr h.hr) (by omega)) tail,
    fun _ => lc_29 hb hL (Sim.li h (s_cast (d := 50) h.sr h.hr) (by omega)) tail,
    fun _ => lc_30 hb hL (Sim.li h (s_sold (d := 50) h.sr h.hr) (by omega)) tail,
    fun _ => lc_31 hb hL (Sim.li h (s_slips (d := 55) h.sr h.hr) (by omega)) tail,
    fun _ => lc_32 hb hL (Sim.li h (s_hymn (d := 55) h.sr h.hr) (by omega)) tail,
    fun _ => lc_33 hb hL (Sim.li h (s_ear (d := 58) h.sr h.hr) (by omega)) tail,
    fun _ => lc_34 hb hL (Sim.li h (s_deaf (d := 59) h.sr h.hr) (by omega)) tail,
    fun _ => lc_35 hb hL (Sim.li h (s_likely (d := 53) h.sr h.hr hlo) (by omega)) tail,
    fun _ => lc_36 hb hL (Sim.li h (s_fog (d := 55) h.sr h.hr hlo) (by omega)) tail,
    fun _ => lc_37 hb hL (Sim.li h (s_drawn (d := 58) h.sr h.hr) (by omega)) tail,
    fun _ => lc_38 hb hL (li_image h) tail,
    fun _ => lc_39 hb hL (li_back h) tail,
    fun _ => lc_40 hb hL (Sim.li h (s_count (d := 57) h.sr h.hr) (by omega)) tail,
    fun _ => lc_41 hb hL (Sim.li h (s_status (d := 59) h.sr h.hr) (by omega)) tail, fun _ => tail Ls H h1⟩
theorem law_loop (hL : L ≤ 3072) : ∀ (m n : Nat) (Ls : sm_K) (H : sm_H), L ≤ 6 * (n + m) + 5 → (6 * n ≤ L ∨ n = 0) → LIv n Ls H → Bx (st_S fmt L xs) 60 270 (18, ([some (.inr (.inr 4)), some (.inr (.inr 32)), some (.inr (.inr 80)), some (.inl (6 * (n : Int)))], ([], (kk0 ++ Ls, H)))) Qg := by
  have hlen : ∀ (K : sm_K) (κ : Int → Prop), wlen (st_S fmt L xs) K 4 κ ↔ κ (L : Int) := fun K κ => ⟨fun h => h.2, fun h => ⟨by show L < 2147483648; omega, h⟩⟩
  have stop : ∀ (n : Nat) (Ls : sm_K) (H : sm_H), L ≤ 6 * n + 5 → (6 * n ≤ L ∨ n = 0) → LIv n Ls H → Bx (st_S fmt L xs) 60 270 (18, ([some (.inr (.inr 4)), some (.inr (.inr 32)), some (.inr (.inr 80)), some (.inl (6 * (n : Int)))], ([], (kk0 ++ Ls, H)))) Qg := by
    intro n Ls H h1 h2 h
    have fin := h.fin (by omega)
    rw [x270_18]
    simp (disch := omega) only [x270_19, x270_20, x270_21, x270_23, x270_24, x270_1308, x270_1309, ct_c, ct_z, cat_I, cat_J, cat_A, lq_I, lq_A, lq_n, Nat.reduceAdd, Nat.reduceLeDiff, true_and, and_true, true_or, or_true, ev_b, eq_self, Option.toList_some, Option.toList_none, List.cons_append, List.nil_append, hlen, sw_id]
    simpa [show (L : Int) - 6 < 6 * (n : Int) by omega] using fin
  intro m
  induction m with
  | zero => intro n Ls H h1 h2 h; exact stop n Ls H (by omega) h2 h
  | succ m ih =>
    intro n Ls H h1 h2 h
    by_cases hs : L ≤ 6 * n + 5
    · exact stop n Ls H hs h2 h
    · have st := law_step (fmt := fmt) (xs := xs) (L := L) (i := 6 * (n : Int)) (by omega) hL h (fun Ls' H2 h' => by
        have i1 := ih (n + 1) Ls' H2 (by omega) (by omega) h'
        have e : 6 * ((n + 1 : Nat) : Int) = 6 * (n : Int) + 6 := by omega
        rw [e] at i1
        simp (disch := omega) only [x270_1302, x270_1305, ct_c, ct_z, cat_I, cat_J, cat_A, lq_I, lq_A, lq_n, Nat.reduceAdd, Nat.reduceLeDiff, true_and, and_true, true_or, or_true, ev_b, eq_self, Option.toList_some, Option.toList_none, List.cons_append, List.nil_append, sw_id]
        exact i1) (x := sm_and ((xs (6 * (n : Int)).toNat).toInt) 63)
      rw [x270_18]
      simp (disch := omega) only [x270_19, x270_20, x270_21, x270_23, x270_24, x270_27, x270_28, x270_29, x270_30, x270_32, ct_c, ct_z, cat_I, cat_J, cat_A, lq_I, lq_A, lq_n, Nat.reduceAdd, Nat.reduceLeDiff, true_and, and_true, true_or, or_true, ev_b, eq_self, Option.toList_some, Option.toList_none, List.cons_append, List.nil_append, hlen, ld4, sw_id]
      simpa [show ¬ (L : Int) - 6 < 6 * (n : Int) by omega, show 0 ≤ 6 * (n : Int) ∧ 6 * (n : Int) < L by omega] using st
end LOOP
