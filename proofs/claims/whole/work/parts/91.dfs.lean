/-! the class's drives: what holds while it explores -/
def Em (r : Int → Int) (tw : Int → (Int → Int) → Option Int) (m s c : Int) : Int := if m = 0 then Eg r tw (r 5) s c else Ea r tw s c
def gpm (r : Int → Int) (m t : Int) : Int := if m = 0 then 0 else gso r (st r t)
/-- cells of the law in force -/
def LC (Ls : sm_K) (G : sm_H) (x : Nat) : Prop := ∃ q f g, sm_kd (kk0 ++ Ls) (la G) = some (4, (3, [q, f, g])) ∧ (x = la G ∨ x = f ∨ x = g)
/-- what a value must keep to: s, so many calls learned, (ahead, ways) -/
def VPok (r : Int → Int) (tw : Int → (Int → Int) → Option Int) (m : Int) (VP : Int → Nat → Int × Int → Prop) : Prop := (∀ s, 0 ≤ s → s < sd r (r 0).toNat → VP s 0 (inm r m s)) ∧ (∀ s k z, k < (r 0).toNat → Em r tw m s k = -1 → VP s k z → VP s (k + 1) z) ∧ (∀ s k z v, 0 ≤ s → s < sd r (r 0).toNat → k < (r 0).toNat → Em r tw m s k ≠ -1 → VP s k z → VP (Em r tw m s k) (r 0).toNat v → VP s (k + 1) (lrm m z v (gpm r m (Em r tw m s k)))) ∧ (∀ s k z, VP s k z → 1 ≤ z.1 ∧ (m = 0 → z.1 ≤ 47 ∧ 0 ≤ z.2 ∧ z.2 ≤ 1000000000))
/-- the open stands, the last first: so many calls learned of each -/
def stI (r : Int → Int) (tw : Int → (Int → Int) → Option Int) (m : Int) (VP : Int → Nat → Int × Int → Prop) (a b : Nat) (G : sm_H) (sl : List Int) : Option Int → List (Int × Nat) → Prop
  | _, [] => True
  | u, (s, j) :: rest => ((0 ≤ s ∧ s < sd r (r 0).toNat) ∧ G 63 rest.length = s ∧ VP s j (G a s, G b s) ∧ (∀ c : Nat, c < j → Em r tw m s c ≠ -1 → Em r tw m s c ∈ sl) ∧ rest.length + lfs r s ≤ 45) ∧ (match u with
    | none => G 64 rest.length = j ∧ j ≤ (r 0).toNat
    | some t => G 64 rest.length = (j : Int) + 1 ∧ j < (r 0).toNat ∧ Em r tw m s j = t ∧ t ≠ -1 ∧ G 65 rest.length = gpm r m t) ∧ stI r tw m VP a b G sl (some s) rest
/-- what the exploring may touch -/
def Dt (a b : Nat) (x : Nat) (i : Int) : Prop := Pt x i ∨ x = a ∨ x = b ∨ x = 63 ∨ x = 64 ∨ x = 65 ∨ (x = 59 ∧ i = 9)
def EX (Ls : sm_K) (G0 : sm_H) (tw : Int → (Int → Int) → Option Int) (m : Int) (VP : Int → Nat → Int × Int → Prop) (a b : Nat) (bg : Int) (G : sm_H) (stk : List (Int × Nat)) (sl : List Int) : Prop := (PC Ls G tw ∧ PSt G ∧ (∀ x i, ¬ Dt a b x i → G x i = G0 x i)) ∧ G 59 9 = stk.length ∧ stI (G0 82) tw m VP a b G sl none stk ∧ ((stk.map Prod.fst).Nodup ∧ (∀ x ∈ stk, x.1 ∈ sl)) ∧ (sl.Nodup ∧ (∀ t ∈ sl, 0 ≤ t ∧ t < sd (G0 82) (G0 82 0).toNat) ∧ (∀ t : Int, 0 ≤ t → t < sd (G0 82) (G0 82 0).toNat → (G a t ≠ 0 ↔ t ∈ sl))) ∧ (∀ t ∈ sl, (∀ x ∈ stk, x.1 ≠ t) → VP t (G0 82 0).toNat (G a t, G b t) ∧ ∀ c : Nat, c < (G0 82 0).toNat → Em (G0 82) tw m t c ≠ -1 → Em (G0 82) tw m t c ∈ sl) ∧ (∀ t ∈ sl, ∃ j, t ∈ wlk (Em (G0 82) tw m) (G0 82 0).toNat j bg) ∧ bg ∈ sl
def mes (n : Nat) : List (Int × Nat) → Nat
  | [] => 0
  | (_, j) :: rest => n + 1 - j + (rest.map (fun x => n - x.2)).sum
section DFS
variable {d : Nat} {Ls : sm_K} {H H0 G G' G0 : sm_H} {S : sm_E} {Q : sm_O → Prop} {tw : Int → (Int → Int) → Option Int} {r w w' : Int → Int} {m : Int} {VP : Int → Nat → Int × Int → Prop} {a b rm : Nat} {sl : List Int}
theorem Em_b (hl : lnk r (r 0).toNat) {s c : Int} : Em r tw m s c = -1 ∨ (0 ≤ Em r tw m s c ∧ Em r tw m s c < sd r (r 0).toNat) := by
  have := nxt_b (tw := tw) hl (s := s) (c := c)
  unfold Em Eg Ea
  split
  · split
    · exact Or.inl rfl
    · exact this
  · split
    · exact Or.inl rfl
    · exact this
theorem Em_lf (hl : lnk r (r 0).toNat) {s c : Int} (hs : 0 ≤ s ∧ s < sd r (r 0).toNat) (h : Em r tw m s c ≠ -1) : lfs r (Em r tw m s c) < lfs r s := by
  unfold Em Eg Ea at h ⊢
  split at h
  · split at h
    · exact absurd rfl h
    · rename_i hm hn
      rw [if_pos hm, if_neg hn]
      exact nxt_lf hl hs (fun q => hn (Or.inl q)) (fun q => hn (Or.inr (Or.inl q)))
  · split at h
    · exact absurd rfl h
    · rename_i hm hn
      rw [if_neg hm, if_neg hn]
      exact nxt_lf hl hs (fun q => hn (Or.inl q)) (fun q => hn (Or.inr q))
/-- below an open stand there is less left -/
theorem stI.below (hl : lnk r (r 0).toNat) : ∀ (stk : List (Int × Nat)) (u : Int), stI r tw m VP a b G sl (some u) stk → ∀ x ∈ stk, lfs r u < lfs r x.1
  | [], u, _, x, hx => by simp at hx
  | (s, j) :: rest, u, h, x, hx => by
    obtain ⟨⟨h1, h2, h3, h4, h5⟩, ⟨k1, k2, k3, k4, k5⟩, h7⟩ := h
    have hlt := Em_lf (tw := tw) (m := m) hl h1 (c := j) (by rw [k3]; exact k4)
    rw [k3] at hlt
    rw [List.mem_cons] at hx
    rcases hx with rfl | hx
    · exact hlt
    · have := stI.below hl rest s h7 x hx
      omega
/-- nothing of it has changed -/
theorem stI.keep {sl' : List Int} (hsl : ∀ x ∈ sl, x ∈ sl') : ∀ (stk : List (Int × Nat)) (u : Option Int), stI r tw m VP a b G sl u stk → (∀ x ∈ stk, G' a x.1 = G a x.1 ∧ G' b x.1 = G b x.1) → (∀ i : Int, 0 ≤ i → i < stk.length → G' 63 i = G 63 i ∧ G' 64 i = G 64 i ∧ (u ≠ none → G' 65 i = G 65 i) ∧ (i + 1 < stk.length → G' 65 i = G 65 i)) → stI r tw m VP a b G' sl' u stk
  | [], _, _, _, _ => trivial
  | (s, j) :: rest, u, h, ha, hi => by
    obtain ⟨⟨h1, h2, h3, h4, h5⟩, h6, h7⟩ := h
    have hi0 := hi rest.length (by omega) (by simp; omega)
    have ha0 := ha (s, j) (by simp)
    refine ⟨⟨h1, by rw [hi0.1]; exact h2, by rw [ha0.1, ha0.2]; exact h3, fun c hc he => hsl _ (h4 c hc he), h5⟩, ?_, stI.keep hsl rest (some s) h7 (fun x hx => ha x (by simp [hx])) (fun i i0 i1 => ?_)⟩
    · cases u with
      | none => exact ⟨by rw [hi0.2.1]; exact h6.1, h6.2⟩
      | some t =>
        obtain ⟨k1, k2, k3, k4, k5⟩ := h6
        exact ⟨by rw [hi0.2.1]; exact k1, k2, k3, k4, by rw [hi0.2.2.1 (by simp)]; exact k5⟩
    · have := hi i i0 (by simp; omega)
      have h65 := this.2.2.2 (by simp; omega)
      exact ⟨this.1, this.2.1, fun _ => h65, fun _ => h65⟩
theorem LO.congr2 (h : LO (kk0 ++ Ls) G tw) (e : ∀ (x : Nat) (i : Int), x = 41 ∨ x = 82 ∨ LC Ls G x → G' x i = G x i) : LO (kk0 ++ Ls) G' tw := by
  have e82 : G' 82 = G 82 := by funext i; exact e _ _ (by omega)
  have e41 : G' 41 = G 41 := by funext i; exact e _ _ (by omega)
  unfold LO at h ⊢
  rw [e82, e41]
  rcases h with h | ⟨h1, cl, hd, Vs, Vt, ⟨f, g, ng, q, xf, xg, ⟨k1, k2, k3⟩, ⟨b1, b2, b3, b4, b5⟩, hcl, hcw, hcla⟩, hM, ht⟩
  · exact Or.inl h
  · have hla : la G = (G 41 (G 82 2)).toNat := by unfold la; rw [if_neg (by omega)]
    have hLC : ∀ x, x = la G ∨ x = f ∨ x = g → LC Ls G x := fun x hx => ⟨q, f, g, by rw [hla]; exact k1, hx⟩
    have ef : G' f = G f := by funext i; exact e _ _ (Or.inr (Or.inr (hLC _ (by omega))))
    have eg : G' g = G g := by funext i; exact e _ _ (Or.inr (Or.inr (hLC _ (by omega))))
    exact Or.inr ⟨h1, cl, hd, Vs, Vt, ⟨f, g, ng, q, xf, xg, ⟨k1, k2, k3⟩, ⟨b1, b2, b3, b4, b5⟩, by rw [e _ _ (Or.inr (Or.inr (hLC _ (by omega))))]; exact hcl, by rw [eg]; exact hcw, by rw [ef, eg]; exact hcla⟩, hM, ht⟩
theorem PC.dr (hP : PC Ls G tw) (ha : ¬ LC Ls G a ∧ ¬ LC Ls G b) (hab : 114 ≤ a ∧ 114 ≤ b) (e : ∀ x i, ¬ (x = a ∨ x = b ∨ x = 63 ∨ x = 64 ∨ x = 65 ∨ x = 59) → G' x i = G x i) (hn : ∀ x, LC Ls G x → ¬ (x = 63 ∨ x = 64 ∨ x = 65 ∨ x = 59)) : PC Ls G' tw := by
  obtain ⟨h1, h2, ⟨h3, h4, h5⟩, h6, h7, h8⟩ := hP
  have e82 : G' 82 = G 82 := by funext i; exact e _ _ (by omega)
  have e53 : ∀ i, G' 53 i = G 53 i := fun i => e _ _ (by omega)
  refine ⟨?_, h2.congr2 (fun x i h => e x i (fun hx => ?_)), ⟨?_, ?_, ?_⟩, ?_, ?_, ?_⟩
  · rw [e82]
    exact h1.same (fun x k1 k2 => by funext i; exact e x i (by omega)) (fun i _ => rfl)
  · rcases h with h | h | h
    · omega
    · omega
    · have := hn x h
      rcases hx with hx | hx | hx
      · exact ha.1 (by rw [← hx]; exact h)
      · exact ha.2 (by rw [← hx]; exact h)
      · omega
  · rw [e82, e53]; exact h3
  · rw [e53]; exact h4
  · unfold la at h5 ⊢
    rw [e82, e 41 _ (by omega), e53]; exact h5
  · rw [e53]; exact h6
  · intro c l c0 c1 l0 l1
    rw [e82] at c1 l1 ⊢
    rw [e 55 _ (by omega), e 56 _ (by omega)]
    exact h7 c l c0 c1 l0 l1
  · intro c q h l
    rw [e82, e 58 _ (by omega)]
    exact h8 c q h l
theorem PSt.dr (h : PSt G) (hab : 114 ≤ a ∧ 114 ≤ b) (e : ∀ x i, ¬ (x = a ∨ x = b ∨ x = 63 ∨ x = 64 ∨ x = 65 ∨ x = 59) → G' x i = G x i) : PSt G' := fun c c0 c1 => by
  have e82 : G' 82 = G 82 := by funext i; exact e _ _ (by omega)
  rw [e82] at c1 ⊢
  rw [e _ _ (by omega)]
  exact h c c0 c1
/-- the law's cells do not move -/
theorem LC.of (h : LO (kk0 ++ Ls) G tw) {x : Nat} (hx : LC Ls G x) : 114 ≤ x := by
  obtain ⟨q, f, g, hk, hx⟩ := hx
  rcases h with ⟨h, -⟩ | ⟨h1, cl, hd, Vs, Vt, ⟨f', g', ng, q', xf, xg, ⟨k1, k2, k3⟩, ⟨b1, b2, b3, b4, b5⟩, -⟩, -⟩
  · have : la G = 0 := by unfold la; rw [if_pos h]
    rw [this] at hk
    unfold sm_kd at hk
    rw [if_pos (by omega)] at hk
    cases hk
  · have hla : la G = (G 41 (G 82 2)).toNat := by unfold la; rw [if_neg (by omega)]
    rw [hla, k1] at hk
    simp only [Option.some.injEq, Prod.mk.injEq, List.cons.injEq, and_true, true_and] at hk
    omega
end DFS
