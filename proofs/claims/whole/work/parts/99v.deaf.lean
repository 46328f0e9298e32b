/-! what drives does not hang on the seventh number of the row -/
section DEAF
variable {r r' w : Int → Int} {tw : Int → (Int → Int) → Option Int} {m s c : Int}
theorem sd_7 (e : ∀ i : Int, i ≠ 7 → r' i = r i) : ∀ k : Nat, sd r' k = sd r k
  | 0 => rfl
  | k + 1 => by
    show sd r' k * (r' (16 + 16 * k) + 1) = sd r k * (r (16 + 16 * k) + 1)
    rw [sd_7 e k, e _ (by omega)]
theorem en_7 (e : ∀ i : Int, i ≠ 7 → r' i = r i) : ∀ k : Nat, en r' w k = en r w k
  | 0 => rfl
  | k + 1 => by
    show en r' w k + w k * sd r' k = en r w k + w k * sd r k
    rw [en_7 e k, sd_7 e]
theorem bgn_7 (e : ∀ i : Int, i ≠ 7 → r' i = r i) : bgn r' = bgn r := by
  have h : (fun c : Int => r' (15 + 16 * c)) = fun c : Int => r (15 + 16 * c) := by
    funext c
    exact e _ (by omega)
  unfold bgn
  rw [h, e 0 (by omega), en_7 e]
theorem st_7 (e : ∀ i : Int, i ≠ 7 → r' i = r i) : st r' s = st r s := by
  funext c
  show s / sd r' c.toNat % (r' (16 + 16 * c) + 1) = s / sd r c.toNat % (r (16 + 16 * c) + 1)
  rw [sd_7 e, e _ (by omega)]
theorem kn_7 (e : ∀ i : Int, i ≠ 7 → r' i = r i) {a b c d f : Int} : kn r' a b c d f = kn r a b c d f := by
  funext i
  unfold kn
  rw [e (11 + 16 * a) (by omega), e (10 + 16 * a) (by omega), e (12 + 16 * a) (by omega), e (13 + 16 * a) (by omega), e (14 + 16 * a) (by omega), e 3 (by omega)]
theorem fwq_7 (e : ∀ i : Int, i ≠ 7 → r' i = r i) {c q h l : Int} : fwq r' tw c q h l = fwq r tw c q h l := by
  unfold fwq
  rw [kn_7 e]
theorem bkq_7 (e : ∀ i : Int, i ≠ 7 → r' i = r i) {c q h l : Int} : bkq r' tw c q h l = bkq r tw c q h l := by
  unfold bkq
  rw [kn_7 e]
theorem stq_7 (e : ∀ i : Int, i ≠ 7 → r' i = r i) {c q h l : Int} : stq r' tw c q h l = stq r tw c q h l := by
  unfold stq
  rw [kn_7 e, e (12 + 16 * c) (by omega)]
theorem nxo_7 (e : ∀ i : Int, i ≠ 7 → r' i = r i) : ∀ (k : Nat) (i : Int), 0 ≤ i → nxo r' w k i = nxo r w k i
  | 0, _, _ => rfl
  | k + 1, i, i0 => by
    unfold nxo
    rw [e (95 + i) (by omega), nxo_7 e k (i + 1) (by omega)]
theorem nx_7 (e : ∀ i : Int, i ≠ 7 → r' i = r i) : nx r' w = nx r w := by
  unfold nx
  rw [e 6 (by omega), nxo_7 e _ _ (by omega)]
theorem gst_7 (e : ∀ i : Int, i ≠ 7 → r' i = r i) {s : (Int → Int) × Int × Int} : gst r' s c = gst r s c := by
  unfold gst
  rw [nx_7 e]
theorem clo_7 (e : ∀ i : Int, i ≠ 7 → r' i = r i) {l : Int} (c0 : 0 ≤ c) (hl : l ≤ r (16 + 16 * c)) : clo r' c l = clo r c l := by
  unfold clo
  rw [e (16 + 16 * c) (by omega), e (17 + 16 * c + (r (16 + 16 * c) - l)) (by omega)]
theorem frb_7 (e : ∀ i : Int, i ≠ 7 → r' i = r i) (hw : wok r w) {cell : Int} : ∀ (k : Nat) (o : Int), 0 ≤ o → o + k ≤ r 0 → frb r' w c cell k o = frb r w c cell k o
  | 0, _, _, _ => rfl
  | k + 1, o, o0, ok => by
    unfold frb
    rw [clo_7 e o0 (hw o o0 (by omega)).2, frb_7 e hw k (o + 1) (by omega) (by omega)]
theorem fr1_7 (e : ∀ i : Int, i ≠ 7 → r' i = r i) (h0 : 0 ≤ r 0) (hw : wok r w) {l : Int} (c0 : 0 ≤ c) (hl : l ≤ r (16 + 16 * c)) : fr1 r' w c l = fr1 r w c l := by
  unfold fr1
  rw [clo_7 e c0 hl, e 0 (by omega), frb_7 e hw _ _ (by omega) (by omega)]
theorem stps_7 (e : ∀ i : Int, i ≠ 7 → r' i = r i) (h0 : 0 ≤ r 0) (c0 : 0 ≤ c) (c1 : c < r 0) : ∀ (m : Nat) (s : (Int → Int) × Int × Int), wok r s.1 → stps r' c m s = stps r c m s
  | 0, _, _ => rfl
  | m + 1, s, h => by
    have hc := h c c0 c1
    unfold stps
    rw [fr1_7 e h0 h c0 (by omega), gst_7 e]
    split
    · rename_i h2
      exact stps_7 e h0 c0 c1 m _ (gst_wok h h2.1)
    · rfl
theorem fol_7 (e : ∀ i : Int, i ≠ 7 → r' i = r i) (h0 : 0 ≤ r 0) {q : Int} {s : (Int → Int) × Int × Int} (h : wok r s.1) (c0 : 0 ≤ c) (c1 : c < r 0) : fol r' tw q s c = fol r tw q s c := by
  have hc := h c c0 c1
  unfold fol
  rw [fr1_7 e h0 h c0 (by omega), gst_7 e, fwq_7 e, bkq_7 e, e 0 (by omega)]
theorem fols_7 (e : ∀ i : Int, i ≠ 7 → r' i = r i) (h0 : 0 ≤ r 0) {q : Int} : ∀ (k : Nat) (o : Int) (s : (Int → Int) × Int × Int), 0 ≤ o → o + k ≤ r 0 → wok r s.1 → fo (fol r' tw q) o k s = fo (fol r tw q) o k s
  | 0, _, _, _, _, _ => rfl
  | k + 1, o, s, o0, ok, h => by
    show fo (fol r' tw q) (o + 1) k (fol r' tw q s o) = fo (fol r tw q) (o + 1) k (fol r tw q s o)
    rw [fol_7 e h0 h o0 (by omega)]
    exact fols_7 e h0 k (o + 1) _ (by omega) (by omega) (fols_wok (tw := tw) (q := q) 1 o s h)
theorem stn_7 (e : ∀ i : Int, i ≠ 7 → r' i = r i) : stn r' tw w c = stn r tw w c := by
  unfold stn
  rw [bkq_7 e, stq_7 e, e 0 (by omega)]
theorem cal_7 (e : ∀ i : Int, i ≠ 7 → r' i = r i) (h0 : 0 ≤ r 0) (hw : wok r w) (c0 : 0 ≤ c) (c1 : c < r 0) : cal r' tw w c = cal r tw w c := by
  unfold cal
  rw [stn_7 e, e 0 (by omega), stps_7 e h0 c0 c1 _ _ hw, fols_7 e h0 _ _ _ (by omega) (by omega) (stps_wok _ _ hw)]
theorem nxt_7 (e : ∀ i : Int, i ≠ 7 → r' i = r i) (h0 : 0 ≤ r 0) (hl : lnk r (r 0).toNat) (c0 : 0 ≤ c) (c1 : c < r 0) : nxt r' tw s c = nxt r tw s c := by
  unfold nxt
  rw [st_7 e, cal_7 e h0 (st_wok hl) c0 c1, e 0 (by omega), en_7 e]
theorem gb_7 (e : ∀ i : Int, i ≠ 7 → r' i = r i) {cell : Int} : ∀ (k : Nat) (g : Int), 0 ≤ g → gbit (fun g => r' (90 + g)) cell g k = gbit (fun g => r (90 + g)) cell g k
  | 0, _, _ => rfl
  | k + 1, g, g0 => by
    unfold gbit
    rw [e (90 + g) (by omega), gb_7 e k (g + 1) (by omega)]
theorem gso_7 (e : ∀ i : Int, i ≠ 7 → r' i = r i) (h0 : 0 ≤ r 0) (hw : wok r w) : gso r' w = gso r w := by
  unfold gso
  rw [e 0 (by omega)]
  refine fo_congr _ _ _ (fun i i0 i1 s => ?_)
  unfold gsf
  rw [clo_7 e i0 (hw i i0 (by omega)).2, e 4 (by omega), gb_7 e _ _ (by omega)]
theorem Em_7 (e : ∀ i : Int, i ≠ 7 → r' i = r i) (h0 : 0 ≤ r 0) (hl : lnk r (r 0).toNat) (c0 : 0 ≤ c) (c1 : c < r 0) : Em r' tw m s c = Em r tw m s c := by
  unfold Em Eg Ea ung
  rw [nxt_7 e h0 hl c0 c1, st_7 e, gso_7 e h0 (st_wok hl), e 5 (by omega)]
theorem gol_7 (e : ∀ i : Int, i ≠ 7 → r' i = r i) : gol r' = gol r := by
  funext s
  unfold gol
  rw [st_7 e, nx_7 e]
theorem scn_ea {E E' : Int → Int → Int} {n : Nat} (h : ∀ s c : Int, 0 ≤ c → c < n → E' s c = E s c) {s : Int} : ∀ k : Nat, k ≤ n → scn E' s k = scn E s k
  | 0, _ => rfl
  | k + 1, hk => by
    unfold scn
    rw [h s k (by omega) (by omega), scn_ea h k (by omega)]
theorem wlk_ea {E E' : Int → Int → Int} {n : Nat} (h : ∀ s c : Int, 0 ≤ c → c < n → E' s c = E s c) : ∀ j : Nat, wlk E' n j = wlk E n j
  | 0 => by
    funext s
    rfl
  | j + 1 => by
    funext s
    show (scn E' s n).flatMap (wlk E' n j) = (scn E s n).flatMap (wlk E n j)
    rw [scn_ea h n (Nat.le_refl _), wlk_ea h j]
/-- what the reference found stays found -/
theorem FS.deaf {G G' : sm_H} (h : FS r tw G) (e : ∀ i : Int, i ≠ 7 → r' i = r i) (h0 : 0 ≤ r 0) (hl : lnk r (r 0).toNat) (e98 : ∀ i, G' 98 i = G 98 i) (e99 : ∀ i, G' 99 i = G 99 i) (e100 : ∀ i, G' 100 i = G 100 i) (e47 : G' 80 47 = G 80 47) : FS r' tw G' := by
  obtain ⟨⟨h1, h2⟩, h3⟩ := h
  have hE : ∀ s c : Int, 0 ≤ c → c < (r 0).toNat → Em r' tw 1 s c = Em r tw 1 s c := fun s c c0 c1 => Em_7 e h0 hl c0 (by omega)
  refine ⟨⟨fun c c0 c1 => ?_, by rw [e47, bgn_7 e]; exact h2⟩, fun j t ht => ?_⟩
  · rw [e 0 (by omega)] at c1
    rw [e98, sd_7 e]
    exact h1 c c0 c1
  · rw [e 0 (by omega), bgn_7 e, wlk_ea hE] at ht
    have hk := h3 j t ht
    refine ⟨by rw [e100, st_7 e, gso_7 e h0 (st_wok hl)]; exact hk.1, fun c c0 c1 => ?_⟩
    rw [e99, hk.2 c c0 c1, e 0 (by omega)]
    split
    · rename_i h4
      rw [nxt_7 e h0 hl c0 h4]
    · rfl
end DEAF
