/-! THE SMALL MACHINE IS SOUND, 5: fields written, what is made, natives -/
theorem so_nar {ty : FieldType} {v : Value} (h : (∃ C, ty = .object C) ∨ ∃ t, ty = .array t) (hv : v = .null ∨ ∃ a, v = .ref a) : narrow ty v = v ∧ fits ty v = true := by
  rcases h with ⟨C, rfl⟩ | ⟨t, rfl⟩ <;> rcases hv with rfl | ⟨a, rfl⟩ <;> exact ⟨rfl, rfl⟩
theorem so_tyr {t : Nat} {ty : FieldType} (h : sm_tyok t ty = true) (ht : t = 2 ∨ t = 3) : (∃ C, ty = .object C) ∨ ∃ t, ty = .array t := by
  rcases ht with rfl | rfl <;> cases ty <;> simp [sm_tyok] at h ⊢
theorem so_ty0 {ty : FieldType} (h : sm_tyok 0 ty = true) : ty = .int := by cases ty <;> simp [sm_tyok] at h ⊢
theorem so_ty1 {ty : FieldType} (h : sm_tyok 1 ty = true) : ty = .long := by cases ty <;> simp [sm_tyok] at h ⊢
theorem so_ty4 {ty : FieldType} (h : sm_tyok 4 ty = true) : ty = .boolean := by cases ty <;> simp [sm_tyok] at h ⊢
theorem so_tyt {t : Nat} {ty : FieldType} (h : sm_tyok t ty = true) : t = 0 ∨ t = 4 ∨ t = 1 ∨ t = 2 ∨ t = 3 := by
  unfold sm_tyok at h
  split at h <;> simp_all
theorem so_bool {a : Int32} (h : a.toInt = 0 ∨ a.toInt = 1) : narrow .boolean (.int a) = .int a ∧ fits .boolean (.int a) = true := by
  rcases h with h | h
  · have : a = 0 := so_zero.mpr h
    subst this; decide
  · have : a = 1 := so_eqI.mpr h
    subst this; decide
theorem so_rfn {r : Option Nat} : va_rf r = .null ∨ ∃ a, va_rf r = .ref a := by
  cases r with
  | none => exact Or.inl rfl
  | some a => exact Or.inr ⟨a, rfl⟩
/-- reading a field where another was written -/
theorem so_rd_ne {ci k k' : Nat} {fins : List Nat} {H : sm_H} {a : Nat} {v : Int} (h : k' ≠ k) : sm_rd ci k' fins (sm_u H a k v a) = sm_rd ci k' fins (H a) := by
  have h1 : sm_u H a k v a (k' : Int) = H a k' := by
    have : ¬ ((k' : Int) = (k : Int)) := by omega
    simp [sm_u, this]
  unfold sm_rd
  rw [h1]
section SO5
variable {p : Program} {l : Launch} {e : Env} {R : Room} {s : State} {m : MethodId} {args : Array Value} {below : List Frame} {meth : Method} {c : Code} {Q : State → Prop} {B : Nat} {ad : Nat → Nat} {D : va_G} {nL k0 z0 : Nat}
variable {cc : ByteArray} {pc : Nat} {L : sm_L} {st : List sm_V} {K : sm_K} {H : sm_H} {cfg : sm_S} {S : sm_E} {cno ini : Nat}
theorem so_sz {g : JFrame} {Hr : Heap} {locs : List Loc} {cells slots : Nat} (hsz : s.heap.size = B + k0) (k : Hr.size ≤ B + k0 + cells → W p l e R s m args below meth c Hr locs cells slots Q g) : W p l e R s m args below meth c Hr locs cells slots Q g := fun T hT X => k (by
  have h := X.heapSize
  rw [hT, hsz] at h
  exact h) T hT X
theorem so_ge {ws : va_W} {Hr : Heap} {locs : List Loc} {tys : List (ClassId × FieldType)} (hP : va_P D sm_cl ws Hr) (qc : ∀ (i : Nat) (ce : sm_C), K[i]? = some ce → ∃ e : va_E, ws[i]? = some (B + i, e) ∧ so_cell B ad tys ce (H (i + 32)) e) (hS : va_S (fun q => B ≤ q) s.heap Hr locs) (hsz : s.heap.size = B + k0) (hk : k0 ≤ K.length) : B + K.length ≤ Hr.size := by
  by_cases h : K.length = k0
  · have := hS.1
    omega
  · have hlt : K.length - 1 < K.length := by omega
    obtain ⟨e', h1, -⟩ := qc (K.length - 1) _ (List.getElem?_eq_getElem hlt)
    have h2 : B + (K.length - 1) < Hr.size := (hP _ _ h1).lt
    omega
theorem so_tysmono {tys t2 : List (ClassId × FieldType)} {ce : sm_C} {f : Int → Int} {e : va_E} (h : so_cell B ad tys ce f e) : so_cell B ad (tys ++ t2) ce f e := by
  have hm : ∀ {t0 : Nat} {x : ClassId × FieldType}, tys[t0]? = some x → (tys ++ t2)[t0]? = some x := fun {t0 x} hh => by
    rw [List.getElem?_append_left (List.getElem?_eq_some_iff.mp hh).1]; exact hh
  rcases h with ⟨h0, cA, t0, g, h1, h2, h3⟩ | ⟨h0, cA, t0, g, h1, h2, h3⟩ | ⟨h0, cA, t0, g, h1, h2, h3⟩ | ⟨h0, cA, t0, g, h1, h2, h3⟩ | h
  · exact Or.inl ⟨h0, cA, t0, g, h1, hm h2, h3⟩
  · exact Or.inr (Or.inl ⟨h0, cA, t0, g, h1, hm h2, h3⟩)
  · exact Or.inr (Or.inr (Or.inl ⟨h0, cA, t0, g, h1, hm h2, h3⟩))
  · exact Or.inr (Or.inr (Or.inr (Or.inl ⟨h0, cA, t0, g, h1, hm h2, h3⟩)))
  · exact Or.inr (Or.inr (Or.inr (Or.inr h)))
/-- a cell is made -/
theorem so_R.push {ws : va_W} {tys t2 : List (ClassId × FieldType)} {H' : sm_H} {H1 : Heap} {ce : sm_C} {e' : va_E} (hK : va_K D sm_cl (tys ++ t2) s) (ql : ws.length = K.length)
    (qc : ∀ (i : Nat) (ce : sm_C), K[i]? = some ce → ∃ e : va_E, ws[i]? = some (B + i, e) ∧ so_cell B ad tys ce (H (i + 32)) e)
    (hP : va_P D sm_cl (ws ++ [(B + K.length, e')]) H1) (hD : va_D (fun q => B ≤ q) (ws ++ [(B + K.length, e')])) (ho : ∀ a', a' ≠ K.length + 32 → H' a' = H a') (hce : so_cell B ad (tys ++ t2) ce (H' (K.length + 32)) e') : so_R B ad D s (K ++ [ce]) H' H1 := by
  refine ⟨_, _, hK, hP, hD, by simp [ql], fun i c2 hi => ?_⟩
  by_cases hlt : i < K.length
  · rw [List.getElem?_append_left hlt] at hi
    obtain ⟨e2, h1, h2⟩ := qc i c2 hi
    refine ⟨e2, by rw [List.getElem?_append_left (by rw [ql]; exact hlt)]; exact h1, ?_⟩
    rw [ho _ (by omega)]
    exact so_tysmono h2
  · rw [List.getElem?_append_right (by omega)] at hi
    have hz : i - K.length < 1 := (List.getElem?_eq_some_iff.mp hi).1
    have hie : i = K.length := by omega
    subst hie
    rw [Nat.sub_self] at hi
    cases hi
    refine ⟨e', by rw [List.getElem?_append_right (by omega), ql, Nat.sub_self]; rfl, hce⟩
/-- a cell made at the heap's end -/
theorem so_q {ws : va_W} {q : Nat} {e' : va_E} {H1 : Heap} (qc : ∀ (i : Nat) (ce : sm_C), K[i]? = some ce → ∃ e : va_E, ws[i]? = some (B + i, e)) (ql : ws.length = K.length) (hP : va_P D sm_cl (ws ++ [(q, e')]) H1) (hD : va_D (fun q => B ≤ q) (ws ++ [(q, e')])) (hle : H1.size ≤ B + K.length + 1) : q = B + K.length := by
  have hl : (ws ++ [(q, e')])[ws.length]? = some (q, e') := by rw [List.getElem?_append_right (Nat.le_refl _), Nat.sub_self]; rfl
  have h1 : q < H1.size := (hP _ _ hl).lt
  have h2 : B ≤ q := hD.2 _ _ hl
  by_cases h3 : q < B + K.length
  · exfalso
    obtain ⟨e2, h4⟩ := qc (q - B) _ (List.getElem?_eq_getElem (by omega))
    have h5 : (ws ++ [(q, e')])[q - B]? = some (B + (q - B), e2) := by rw [List.getElem?_append_left (by rw [ql]; omega)]; exact h4
    have h6 := hD.1 _ _ _ _ h5 hl (by show B + (q - B) = q; omega)
    omega
  · omega
theorem so_putf (hx : p.tables.exec = Jvm.exec) (hb : c.code = cc) (hts : ∀ w ∈ sm_tb, w.before args s = true) (hown : s.vm.findClass (sm_cn cno) = some m.cls) (hini : ini = 2 → meth.name = "<init>") {idx : Nat} (hd : decode cc pc = .ok (.putfield idx, 3))
    (hs : sm_putf cno ini idx pc L st K H = some (.inl cfg)) (k : so_G p l e R s m args below meth c Q B ad D nL k0 z0 cfg) : so_G p l e R s m args below meth c Q B ad D nL k0 z0 (pc, (L, (st, (K, H)))) := by
  unfold sm_putf at hs
  split at hs
  · rename_i x a r
    split at hs
    · rename_i ci kf hlk
      split at hs
      · rename_i ce hk
        split at hs
        · rename_i hfin
          obtain ⟨hce1, hfin⟩ := hfin
          split at hs
          · rename_i K' H' hwr
            cases so_nx hs
            intro Hr ls rst locs hl hst0 hR hS
            obtain ⟨v1, r1, e1, h1, hst1⟩ := so_cons hst0
            obtain ⟨v2, r2, e2, h2, hst⟩ := so_cons hst1
            subst e1; subst e2
            cases so_valA h2 (so_kd hk).1
            have hm := pf_lookup hlk
            obtain ⟨h11, hkf⟩ := pf_Fb cno _ hm
            simp only at h11 hkf
            obtain ⟨rc, hrc⟩ := so_clx h11
            have hw : sm_fw cno (idx, (ci, kf)) ∈ sm_tb := pf_F cno _ (List.mem_map_of_mem hm)
            rw [so_fw hrc] at hw
            obtain ⟨c1, c2, c3, c4, c5, c6, c7, c8, c9⟩ := pf_cls ci rc hrc
            have hkN : kf < rc.2.2 := by rw [c2]; exact hkf
            obtain ⟨kd, n, fins⟩ := ce
            simp only at hce1
            subst hce1
            obtain ⟨ws, tys, qK, qP, qD, ql, qc⟩ := hR
            obtain ⟨e', q1, q2⟩ := so_R.cell qc hk
            obtain ⟨fs, rfl, f1, f2, f3, f4⟩ := so_cell.obj h11 q2
            have hty := pf_ty kd h11 kf hkf
            have hnf : narrow (sm_ty kd kf) v1 = v1 ∧ fits (sm_ty kd kf) v1 = true := by
              unfold sm_wr at hwr
              split at hwr
              · rename_i ht; rw [ht] at hty; rw [so_ty0 hty]; obtain ⟨a1, rfl, -⟩ := h1; exact ⟨rfl, rfl⟩
              · rename_i ht; rw [ht] at hty; rw [so_ty4 hty]
                split at hwr
                · rename_i hb01
                  obtain ⟨a1, rfl, h1⟩ := h1
                  rw [← h1] at hb01
                  exact so_bool hb01
                · cases hwr
              · rename_i ht; rw [ht] at hty; rw [so_ty1 hty]; obtain ⟨a1, rfl, -⟩ := h1; exact ⟨rfl, rfl⟩
              · rename_i ht; rw [ht] at hty
                have h1 : v1 = va_rf _ := h1
                exact so_nar (so_tyr hty (Or.inl rfl)) (by rw [h1]; exact so_rfn)
              · rename_i ht; rw [ht] at hty
                have h1 : v1 = va_rf _ := h1
                exact so_nar (so_tyr hty (Or.inr rfl)) (by rw [h1]; exact so_rfn)
              · cases hwr
            have hnew : ∀ (H1 : Heap), va_P D sm_cl (ws.set (a - 32) (B + (a - 32), .inr (kd, fs.set kf v1))) H1 → va_D (fun q => B ≤ q) (ws.set (a - 32) (B + (a - 32), .inr (kd, fs.set kf v1))) → so_R B ad D s K' H' H1 := by
              intro H1 hP1 hD1
              have hnum : ∀ (y : Int) (w : sm_V), sm_rd kd kf fins (sm_u H a kf y a) = some w → sm_val B ad w v1 → so_R B ad D s K (sm_u H a kf y) H1 := by
                intro y w hw1 hw2
                refine so_R.set0 qK ql qc hk hP1 hD1 (fun a' h => so_u_other h) (Or.inr (Or.inr (Or.inr (Or.inr ⟨h11, _, rfl, by rw [List.length_set]; exact f1, f2, f3, fun j hj => ?_⟩))))
                by_cases hjk : j = kf
                · subst hjk
                  exact ⟨v1, w, by rw [List.getElem?_set_self (by rw [f1]; exact hkf)], hw1, hw2⟩
                · obtain ⟨v', x', g1, g2, g3⟩ := f4 j hj
                  exact ⟨v', x', by rw [List.getElem?_set_ne (fun q => hjk q.symm)]; exact g1, by
                    show sm_rd kd j fins (sm_u H a kf y a) = some x'
                    rw [so_rd_ne hjk]; exact g2, g3⟩
              unfold sm_wr at hwr
              split at hwr
              · rename_i y ht; cases hwr; exact hnum y (.inl y) (by simp [sm_rd, ht, sm_u]) h1
              · rename_i y ht
                split at hwr
                · cases hwr; exact hnum y (.inl y) (by simp [sm_rd, ht, sm_u]) h1
                · cases hwr
              · rename_i y ht; cases hwr; exact hnum y (.inr (.inl y)) (by simp [sm_rd, ht, sm_u]) h1
              · rename_i y ht; cases hwr; exact hnum (y : Int) (.inr (.inr y)) (by simp [sm_rd, ht, sm_u]) h1
              · rename_i y ht
                cases hwr
                refine so_R.set qK ql qc hk hP1 hD1 (fun a' h => rfl) (Or.inr (Or.inr (Or.inr (Or.inr ⟨h11, _, rfl, by rw [List.length_set]; exact f1, f2, by show (List.set fins kf y).length = _; rw [List.length_set]; exact f3, fun j hj => ?_⟩))))
                by_cases hjk : j = kf
                · subst hjk
                  refine ⟨v1, .inr (.inr y), by rw [List.getElem?_set_self (by rw [f1]; exact hkf)], ?_, h1⟩
                  simp [sm_rd, ht, List.getD_eq_getElem?_getD, List.getElem?_set_self (show j < fins.length by rw [f3]; exact hkf)]
                · obtain ⟨v', x', g1, g2, g3⟩ := f4 j hj
                  refine ⟨v', x', by rw [List.getElem?_set_ne (fun q => hjk q.symm)]; exact g1, ?_, g3⟩
                  show sm_rd kd j (fins.set kf y) (H a) = some x'
                  rw [← g2]
                  unfold sm_rd
                  simp only [List.getD_eq_getElem?_getD, List.getElem?_set_ne (fun q => hjk q.symm)]
              · cases hwr
            have hlenK : K'.length = K.length ∧ sm_sz K' = sm_sz K := by
              unfold sm_wr at hwr
              split at hwr
              · cases hwr; exact ⟨rfl, rfl⟩
              · split at hwr
                · cases hwr; exact ⟨rfl, rfl⟩
                · cases hwr
              · cases hwr; exact ⟨rfl, rfl⟩
              · cases hwr; exact ⟨rfl, rfl⟩
              · cases hwr
                refine ⟨by simp, ?_⟩
                obtain ⟨h3, h4⟩ := so_kd hk
                obtain ⟨h5, h6⟩ := List.getElem?_eq_some_iff.mp h4
                unfold sm_sz
                rw [List.map_set]
                have : (K.map (fun c : sm_C => c.2.1)).set (a - 32) n = K.map (fun c : sm_C => c.2.1) := by
                  have h7 : (K.map (fun c : sm_C => c.2.1))[a - 32]'(by simpa using h5) = n := by simp [h6]
                  rw [← h7, List.set_getElem_self]
                exact congrArg List.sum this
              · cases hwr
            have kk : ∀ (H1 : Heap) (locs1 : List Loc), va_P D sm_cl (ws.set (a - 32) (B + (a - 32), .inr (kd, fs.set kf v1))) H1 → va_D (fun q => B ≤ q) (ws.set (a - 32) (B + (a - 32), .inr (kd, fs.set kf v1))) → va_S (fun q => B ≤ q) s.heap H1 locs1 → W p l e R s m args below meth c H1 locs1 (K.length - k0) (sm_sz K - z0) Q (F0 m (pc + 3) ls r2) := by
              intro H1 locs1 hP1 hD1 hS1
              have := k H1 ls r2 locs1 hl hst (hnew H1 hP1 hD1) hS1
              simp only [hlenK.1, hlenK.2] at this
              exact this
            by_cases hF : sm_fin kd kf = true
            · obtain ⟨i1, i2⟩ := hfin hF
              exact va_putF (C := rc.1) (T := rc.2.1) (N := rc.2.2) hx hb hts c4 (sm_ty kd) c5 c6 hown qK qP qD hS (a - 32) q1 hrc kf hkN (hts _ hw) (fun x h => h) (by rw [c9 kf hkN]; exact hF) (hini i1) (by rw [c8 kf hkN, c1, i2]) (c5 kf hkN) hnf.1 hnf.2 (by rw [f1]; exact hkf) hd kk
            · exact va_put (C := rc.1) (T := rc.2.1) (N := rc.2.2) hx hb hts c4 (sm_ty kd) c5 c6 hown qK qP qD hS (a - 32) q1 hrc kf hkN (hts _ hw) (fun x h => h) (by rw [c9 kf hkN]; simpa using hF) (c5 kf hkN) hnf.1 hnf.2 (by rw [f1]; exact hkf) hd kk
          · cases hs
        · cases hs
      · cases hs
    · cases hs
  · cases hs
end SO5
