/-! a graph whose edges go down: walks, shortest ones, how many -/
/-- where the first k calls lead -/
def scn (E : Int → Int → Int) (s : Int) : Nat → List Int
  | 0 => []
  | k + 1 => scn E s k ++ (if E s k = -1 then [] else [E s k])
/-- the ends of all walks of j calls -/
def wlk (E : Int → Int → Int) (n : Nat) : Nat → Int → List Int
  | 0, s => [s]
  | j + 1, s => (scn E s n).flatMap (wlk E n j)
/-- how many walks of j calls end at a goal -/
def pn (E : Int → Int → Int) (n : Nat) (gl : Int → Bool) (j : Nat) (s : Int) : Nat := (wlk E n j s).countP gl
def sat (x : Nat) : Int := if (1000000000 : Int) < x then 1000000000 else x
/-- f counts by lengths: (least length + 1, how many) -/
def isV (f : Nat → Nat) (z : Int × Int) : Prop := (z = (47, 0) ∧ ∀ j, f j = 0) ∨ ∃ j : Nat, j ≤ 45 ∧ 0 < f j ∧ (∀ i, i < j → f i = 0) ∧ z = ((j : Int) + 1, sat (f j))
def lrn (z v : Int × Int) : Int × Int := if v.1 = 47 then z else if v.1 + 1 < z.1 then (v.1 + 1, v.2) else if v.1 + 1 = z.1 then (z.1, if (1000000000 : Int) < z.2 + v.2 then 1000000000 else z.2 + v.2) else z
def shf (g : Nat → Nat) : Nat → Nat
  | 0 => 0
  | j + 1 => g j
theorem sat_add {x y : Nat} : (if (1000000000 : Int) < sat x + sat y then 1000000000 else sat x + sat y) = sat (x + y) := by
  unfold sat
  by_cases h1 : (1000000000 : Int) < x
  · by_cases h2 : (1000000000 : Int) < y
    · rw [if_pos h1, if_pos h2, if_pos (by omega), if_pos (by omega)]
    · rw [if_pos h1, if_neg h2, if_pos (show (1000000000 : Int) < ((x + y : Nat) : Int) by omega)]
      split <;> omega
  · by_cases h2 : (1000000000 : Int) < y
    · rw [if_neg h1, if_pos h2, if_pos (show (1000000000 : Int) < ((x + y : Nat) : Int) by omega)]
      split <;> omega
    · rw [if_neg h1, if_neg h2, show ((x + y : Nat) : Int) = (x : Int) + y by omega]
theorem isV.learn {f g : Nat → Nat} {z v : Int × Int} (hf : isV f z) (hg : isV g v) (hb : ∀ j, 0 < g j → j ≤ 44) : isV (fun j => f j + shf g j) (lrn z v) := by
  unfold lrn
  rcases hg with ⟨rfl, hg⟩ | ⟨j, j1, j2, j3, rfl⟩
  · rw [if_pos rfl]
    have e : (fun j => f j + shf g j) = f := by
      funext j
      cases j with
      | zero => rfl
      | succ j => show f (j + 1) + g j = f (j + 1); rw [hg j]; rfl
    rw [e]
    exact hf
  · have hj := hb j j2
    rw [if_neg (by simp only; omega)]
    rcases hf with ⟨rfl, hf⟩ | ⟨i, i1, i2, i3, rfl⟩
    · rw [if_pos (by simp only; omega)]
      refine Or.inr ⟨j + 1, by omega, ?_, fun i hi => ?_, ?_⟩
      · show 0 < f (j + 1) + g j; omega
      · cases i with
        | zero => show f 0 + 0 = 0; rw [hf 0]
        | succ i => show f (i + 1) + g i = 0; rw [hf (i + 1), j3 i (by omega)]
      · show ((j : Int) + 1 + 1, sat (g j)) = (((j + 1 : Nat) : Int) + 1, sat (f (j + 1) + g j))
        rw [hf (j + 1), Nat.zero_add]; rfl
    · simp only
      by_cases h1 : j + 1 < i
      · rw [if_pos (by omega)]
        refine Or.inr ⟨j + 1, by omega, ?_, fun k hk => ?_, ?_⟩
        · show 0 < f (j + 1) + g j; omega
        · cases k with
          | zero => show f 0 + 0 = 0; rw [i3 0 (by omega)]
          | succ k => show f (k + 1) + g k = 0; rw [i3 (k + 1) (by omega), j3 k (by omega)]
        · show ((j : Int) + 1 + 1, sat (g j)) = (((j + 1 : Nat) : Int) + 1, sat (f (j + 1) + g j))
          rw [i3 (j + 1) h1, Nat.zero_add]; rfl
      · rw [if_neg (by omega)]
        by_cases h2 : j + 1 = i
        · subst h2
          rw [if_pos (by omega)]
          refine Or.inr ⟨j + 1, by omega, ?_, fun k hk => ?_, ?_⟩
          · show 0 < f (j + 1) + g j; omega
          · cases k with
            | zero => show f 0 + 0 = 0; rw [i3 0 (by omega)]
            | succ k => show f (k + 1) + g k = 0; rw [i3 (k + 1) (by omega), j3 k (by omega)]
          · rw [sat_add]; rfl
        · rw [if_neg (by omega)]
          refine Or.inr ⟨i, i1, ?_, fun k hk => ?_, ?_⟩
          · show 0 < f i + shf g i; omega
          · cases k with
            | zero => show f 0 + 0 = 0; rw [i3 0 (by omega)]
            | succ k => show f (k + 1) + g k = 0; rw [i3 (k + 1) hk, j3 k (by omega)]
          · have : f i + shf g i = f i := by
              cases i with
              | zero => rfl
              | succ i => show f (i + 1) + g i = _; rw [j3 i (by omega)]; rfl
            show _ = ((i : Int) + 1, sat (f i + shf g i))
            rw [this]
section GRAPH
variable {E : Int → Int → Int} {n : Nat} {gl : Int → Bool} {lf : Int → Nat}
theorem scn_mem {s t : Int} : ∀ (k : Nat), t ∈ scn E s k ↔ ∃ c : Nat, c < k ∧ E s c = t ∧ t ≠ -1
  | 0 => by simp [scn]
  | k + 1 => by
    unfold scn
    rw [List.mem_append, scn_mem k]
    constructor
    · rintro (⟨c, h1, h2, h3⟩ | h)
      · exact ⟨c, by omega, h2, h3⟩
      · split at h
        · simp at h
        · rename_i hk
          rw [List.mem_singleton] at h
          exact ⟨k, by omega, h.symm, by rw [h]; exact hk⟩
    · rintro ⟨c, h1, h2, h3⟩
      by_cases hc : c = k
      · subst hc
        refine Or.inr ?_
        rw [if_neg (by rw [h2]; exact h3), List.mem_singleton]
        exact h2.symm
      · exact Or.inl ⟨c, by omega, h2, h3⟩
theorem wlk_end : ∀ (j : Nat) (s : Int), wlk E n (j + 1) s = (wlk E n j s).flatMap (fun t => scn E t n)
  | 0, s => by simp [wlk]
  | j + 1, s => by
    show (scn E s n).flatMap (wlk E n (j + 1)) = ((scn E s n).flatMap (wlk E n j)).flatMap _
    rw [List.flatMap_assoc]
    congr 1
    funext t
    exact wlk_end j t
/-- a walk is no longer than what is left -/
theorem wlk_len (hlf : ∀ s c : Int, E s c ≠ -1 → lf (E s c) < lf s) : ∀ (j : Nat) (s t : Int), t ∈ wlk E n j s → j + lf t ≤ lf s
  | 0, s, t, h => by
    simp only [wlk, List.mem_singleton] at h
    rw [h]; omega
  | j + 1, s, t, h => by
    simp only [wlk, List.mem_flatMap] at h
    obtain ⟨u, h1, h2⟩ := h
    obtain ⟨c, c1, c2, c3⟩ := (scn_mem n).mp h1
    have := hlf s c (by rw [c2]; exact c3)
    rw [c2] at this
    have := wlk_len hlf j u t h2
    omega
/-- walks that begin with one of the first k calls, and those of no call -/
def pk (E : Int → Int → Int) (n : Nat) (gl : Int → Bool) (s : Int) (k : Nat) : Nat → Nat
  | 0 => if gl s = true then 1 else 0
  | j + 1 => ((scn E s k).flatMap (wlk E n j)).countP gl
theorem pk_all {s : Int} : pk E n gl s n = fun j => pn E n gl j s := by
  funext j
  cases j with
  | zero =>
    show (if gl s = true then 1 else 0) = ([s] : List Int).countP gl
    simp only [List.countP_cons, List.countP_nil]
    split <;> simp_all
  | succ j => rfl
theorem pk_step {s : Int} {k : Nat} (h : E s k ≠ -1) : pk E n gl s (k + 1) = fun j => pk E n gl s k j + shf (fun j => pn E n gl j (E s k)) j := by
  funext j
  cases j with
  | zero => rfl
  | succ j =>
    show ((scn E s (k + 1)).flatMap (wlk E n j)).countP gl = ((scn E s k).flatMap (wlk E n j)).countP gl + (wlk E n j (E s k)).countP gl
    have : scn E s (k + 1) = scn E s k ++ [E s k] := by
      show scn E s k ++ _ = _
      rw [if_neg h]
    rw [this, List.flatMap_append, List.countP_append]
    simp
theorem pk_skip {s : Int} {k : Nat} (h : E s k = -1) : pk E n gl s (k + 1) = pk E n gl s k := by
  funext j
  cases j with
  | zero => rfl
  | succ j =>
    show ((scn E s (k + 1)).flatMap (wlk E n j)).countP gl = _
    have : scn E s (k + 1) = scn E s k := by
      show scn E s k ++ _ = _
      rw [if_pos h, List.append_nil]
    rw [this]
    rfl
theorem pn_pos {j : Nat} {s : Int} : 0 < pn E n gl j s ↔ ∃ t ∈ wlk E n j s, gl t = true := by
  unfold pn
  rw [List.countP_pos_iff]
theorem pn_len (hlf : ∀ s c : Int, E s c ≠ -1 → lf (E s c) < lf s) {j : Nat} {s : Int} (h : 0 < pn E n gl j s) : j ≤ lf s := by
  obtain ⟨t, h1, -⟩ := pn_pos.mp h
  have := wlk_len hlf j s t h1
  omega
theorem isV.ini {s : Int} : isV (pk E n gl s 0) (if gl s = true then (1, 1) else (47, 0)) := by
  by_cases h : gl s = true
  · rw [if_pos h]
    refine Or.inr ⟨0, by omega, ?_, fun i hi => by omega, ?_⟩
    · show 0 < (if gl s = true then 1 else 0); rw [if_pos h]; omega
    · show ((1 : Int), (1 : Int)) = (((0 : Nat) : Int) + 1, sat (if gl s = true then 1 else 0))
      rw [if_pos h]; rfl
  · rw [if_neg h]
    refine Or.inl ⟨rfl, fun j => ?_⟩
    cases j with
    | zero => show (if gl s = true then 1 else 0) = 0; rw [if_neg h]
    | succ j => rfl
theorem isV.u {f : Nat → Nat} {z z' : Int × Int} (h : isV f z) (h' : isV f z') : z = z' := by
  rcases h with ⟨rfl, h⟩ | ⟨j, j1, j2, j3, rfl⟩
  · rcases h' with ⟨rfl, h'⟩ | ⟨j, j1, j2, j3, rfl⟩
    · rfl
    · have := h j; omega
  · rcases h' with ⟨rfl, h'⟩ | ⟨i, i1, i2, i3, rfl⟩
    · have := h' j; omega
    · have : i = j := by
        rcases Nat.lt_trichotomy i j with h | h | h
        · have := j3 i h; omega
        · exact h
        · have := i3 j h; omega
      rw [this]
end GRAPH
/-- two rows without twins, one within the other -/
theorem nd_len : ∀ (l m : List Int), l.Nodup → (∀ x ∈ l, x ∈ m) → l.length ≤ m.length
  | [], m, _, _ => by simp
  | x :: l, m, hn, h => by
    rw [List.nodup_cons] at hn
    have hx : x ∈ m := h x (by simp)
    have ih := nd_len l (m.erase x) hn.2 (fun y hy => by
      refine (List.mem_erase_of_ne (fun e => hn.1 (by rw [← e]; exact hy))).mpr (h y (by simp [hy])))
    rw [List.length_erase_of_mem hx] at ih
    have : 0 < m.length := List.length_pos_of_mem hx
    simp only [List.length_cons]
    omega
theorem nd_range {l : List Int} {N : Nat} (hn : l.Nodup) (h : ∀ x ∈ l, 0 ≤ x ∧ x < N) : l.length ≤ N := by
  have := nd_len l ((List.range N).map (fun i : Nat => (i : Int))) hn (fun x hx => by
    obtain ⟨h1, h2⟩ := h x hx
    exact List.mem_map.mpr ⟨x.toNat, by rw [List.mem_range]; omega, by omega⟩)
  simpa using this
