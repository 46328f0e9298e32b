/-! a LAW's expressions: what is read, where it fails, what it comes to -/
abbrev Vl : Type := (Int → Int) → Option Int
def bnV (o : Int) (V W : Vl) : Vl := fun kn => (V kn).bind (fun x => (W kn).bind (fun y => bst o x y))
def ngV (V : Vl) : Vl := fun kn => (V kn).map (fun x => 1 - x)
def aoV (e : Int) (V W : Vl) : Vl := fun kn => aov e (V kn) (W kn)
def jnV (o : Int) (V W : Vl) : Vl := if o ≤ 6 then bnV o V W else aoV (o - 8) V W
/-- where it failed; or where it ends, how many parts were read, what it comes to -/
abbrev Rz : Type := Int ⊕ (Int × (Nat × Vl))
abbrev Rz.bad (x : Int) : Rz := .inl x
abbrev Rz.ok (q : Int) (p : Nat) (V : Vl) : Rz := .inr (q, (p, V))
/-- what is read: by its level; with what stands before it -/
abbrev Tz : Type := Nat × Option Vl
abbrev Tz.part : Tz := (7, none)
abbrev Tz.lev (lv : Nat) : Tz := (lv, none)
abbrev Tz.rest (lv : Nat) (V : Vl) : Tz := (lv, some V)
abbrev Tz.plain : Tz := (3, none)
def subT (lv : Nat) : Tz := if lv = 6 then .part else if lv = 5 then .lev 6 else if lv = 2 then .plain else .lev 2
/-- what joins at a level, by the TOKEN from q on; -1: nothing -/
def opq (T : Int → Int) (n q : Int) (lv : Nat) : Int := if lv = 6 then (if sgq T n q 42 then 2 else if sgq T n q 47 then 3 else -1) else if lv = 5 then (if sgq T n q 43 then 0 else if sgq T n q 45 then 1 else -1) else if lv = 2 then (if iw T n q 1476 then 8 else -1) else (if iw T n q 498 then 9 else -1)
/-- whatever keeps these rules -/
def Cls (T : Int → Int) (n : Int) (M : Tz → Nat → Int → Nat → Rz → Prop) : Prop :=
  (∀ {k p : Nat} {q : Int}, ¬ sgq T n q 91 → pwq T n q ≠ -1 → p < 50 → M .part k q p (.ok (le T n q) (p + 1) (fun kn => some (kn (pwq T n q))))) ∧
  (∀ {k p : Nat} {q : Int}, ¬ sgq T n q 91 → pwq T n q = -1 → nh T n q ≠ -1 → p < 50 → M .part k q p (.ok (le T n q) (p + 1) (fun _ => some (nh T n q)))) ∧
  (∀ {k p : Nat} {q : Int}, ¬ sgq T n q 91 → ((pwq T n q = -1 ∧ nh T n q = -1) ∨ 50 ≤ p) → M .part k q p (.bad q)) ∧
  (∀ {p : Nat} {q : Int}, sgq T n q 91 → M .part 0 q p (.bad q)) ∧
  (∀ {k p : Nat} {q x : Int}, sgq T n q 91 → M (.lev 5) k (le T n q) p (.bad x) → M .part (k + 1) q p (.bad x)) ∧
  (∀ {k p p1 : Nat} {q q1 : Int} {V : Vl}, sgq T n q 91 → M (.lev 5) k (le T n q) p (.ok q1 p1 V) → ¬ sgq T n q1 93 → M .part (k + 1) q p (.bad q1)) ∧
  (∀ {k p p1 : Nat} {q q1 : Int} {V : Vl}, sgq T n q 91 → M (.lev 5) k (le T n q) p (.ok q1 p1 V) → sgq T n q1 93 → M .part (k + 1) q p (.ok (le T n q1) p1 V)) ∧
  (∀ {lv k p : Nat} {q x : Int}, (lv = 1 ∨ lv = 2 ∨ lv = 5 ∨ lv = 6) → M (subT lv) k q p (.bad x) → M (.lev lv) k q p (.bad x)) ∧
  (∀ {lv k p p1 : Nat} {q q1 : Int} {V : Vl} {r : Rz}, (lv = 1 ∨ lv = 2 ∨ lv = 5 ∨ lv = 6) → M (subT lv) k q p (.ok q1 p1 V) → M (.rest lv V) k q1 p1 r → M (.lev lv) k q p r) ∧
  (∀ {lv k p : Nat} {q : Int} {V : Vl}, opq T n q lv = -1 → M (.rest lv V) k q p (.ok q p V)) ∧
  (∀ {lv k p : Nat} {q x : Int} {V : Vl}, opq T n q lv ≠ -1 → M (subT lv) k (le T n q) p (.bad x) → M (.rest lv V) k q p (.bad x)) ∧
  (∀ {lv k p p1 : Nat} {q q1 : Int} {V W : Vl} {r : Rz}, opq T n q lv ≠ -1 → M (subT lv) k (le T n q) p (.ok q1 p1 W) → M (.rest lv (jnV (opq T n q lv) V W)) k q1 p1 r → M (.rest lv V) k q p r) ∧
  (∀ {k p : Nat} {q x : Int}, iw T n q 14836 → M .plain k (le T n q) p (.bad x) → M .plain k q p (.bad x)) ∧
  (∀ {k p p1 : Nat} {q q1 : Int} {V : Vl}, iw T n q 14836 → M .plain k (le T n q) p (.ok q1 p1 V) → M .plain k q p (.ok q1 p1 (ngV V))) ∧
  (∀ {p : Nat} {q : Int}, ¬ iw T n q 14836 → sgq T n q 40 → M .plain 0 q p (.bad q)) ∧
  (∀ {k p : Nat} {q x : Int}, ¬ iw T n q 14836 → sgq T n q 40 → M (.lev 1) k (le T n q) p (.bad x) → M .plain (k + 1) q p (.bad x)) ∧
  (∀ {k p p1 : Nat} {q q1 : Int} {V : Vl}, ¬ iw T n q 14836 → sgq T n q 40 → M (.lev 1) k (le T n q) p (.ok q1 p1 V) → ¬ sgq T n q1 41 → M .plain (k + 1) q p (.bad q1)) ∧
  (∀ {k p p1 : Nat} {q q1 : Int} {V : Vl}, ¬ iw T n q 14836 → sgq T n q 40 → M (.lev 1) k (le T n q) p (.ok q1 p1 V) → sgq T n q1 41 → M .plain (k + 1) q p (.ok (le T n q1) p1 V)) ∧
  (∀ {k p : Nat} {q x : Int}, ¬ iw T n q 14836 → ¬ sgq T n q 40 → M (.lev 5) k q p (.bad x) → M .plain k q p (.bad x)) ∧
  (∀ {k p p1 : Nat} {q q1 : Int} {V : Vl}, ¬ iw T n q 14836 → ¬ sgq T n q 40 → M (.lev 5) k q p (.ok q1 p1 V) → cmq T n q1 = -1 → M .plain k q p (.bad q1)) ∧
  (∀ {k p p1 : Nat} {q q1 x : Int} {V : Vl}, ¬ iw T n q 14836 → ¬ sgq T n q 40 → M (.lev 5) k q p (.ok q1 p1 V) → cmq T n q1 ≠ -1 → M (.lev 5) k (le T n q1) p1 (.bad x) → M .plain k q p (.bad x)) ∧
  (∀ {k p p1 p2 : Nat} {q q1 q2 : Int} {V W : Vl}, ¬ iw T n q 14836 → ¬ sgq T n q 40 → M (.lev 5) k q p (.ok q1 p1 V) → cmq T n q1 ≠ -1 → M (.lev 5) k (le T n q1) p1 (.ok q2 p2 W) → M .plain k q p (.ok q2 p2 (bnV (cmq T n q1 - 2) V W)))
/-- what can be read by these rules alone -/
def Dz (T : Int → Int) (n : Int) (tg : Tz) (k : Nat) (q : Int) (p : Nat) (r : Rz) : Prop := ∀ M : Tz → Nat → Int → Nat → Rz → Prop, Cls T n M → M tg k q p r
theorem Dz.word {T : Int → Int} {n : Int} {k p : Nat} {q : Int} (h0 : ¬ sgq T n q 91) (h1 : pwq T n q ≠ -1) (h2 : p < 50) : Dz T n .part k q p (.ok (le T n q) (p + 1) (fun kn => some (kn (pwq T n q)))) := fun M hM => hM.1 h0 h1 h2
theorem Dz.num {T : Int → Int} {n : Int} {k p : Nat} {q : Int} (h0 : ¬ sgq T n q 91) (h1 : pwq T n q = -1) (h2 : nh T n q ≠ -1) (h3 : p < 50) : Dz T n .part k q p (.ok (le T n q) (p + 1) (fun _ => some (nh T n q))) := fun M hM => hM.2.1 h0 h1 h2 h3
theorem Dz.noPart {T : Int → Int} {n : Int} {k p : Nat} {q : Int} (h0 : ¬ sgq T n q 91) (h1 : ((pwq T n q = -1 ∧ nh T n q = -1) ∨ 50 ≤ p)) : Dz T n .part k q p (.bad q) := fun M hM => hM.2.2.1 h0 h1
theorem Dz.deep {T : Int → Int} {n : Int} {p : Nat} {q : Int} (h0 : sgq T n q 91) : Dz T n .part 0 q p (.bad q) := fun M hM => hM.2.2.2.1 h0
theorem Dz.grpBad {T : Int → Int} {n : Int} {k p : Nat} {q x : Int} (h0 : sgq T n q 91) (h1 : Dz T n (.lev 5) k (le T n q) p (.bad x)) : Dz T n .part (k + 1) q p (.bad x) := fun M hM => hM.2.2.2.2.1 h0 (h1 M hM)
theorem Dz.grpNo {T : Int → Int} {n : Int} {k p p1 : Nat} {q q1 : Int} {V : Vl} (h0 : sgq T n q 91) (h1 : Dz T n (.lev 5) k (le T n q) p (.ok q1 p1 V)) (h2 : ¬ sgq T n q1 93) : Dz T n .part (k + 1) q p (.bad q1) := fun M hM => hM.2.2.2.2.2.1 h0 (h1 M hM) h2
theorem Dz.grp {T : Int → Int} {n : Int} {k p p1 : Nat} {q q1 : Int} {V : Vl} (h0 : sgq T n q 91) (h1 : Dz T n (.lev 5) k (le T n q) p (.ok q1 p1 V)) (h2 : sgq T n q1 93) : Dz T n .part (k + 1) q p (.ok (le T n q1) p1 V) := fun M hM => hM.2.2.2.2.2.2.1 h0 (h1 M hM) h2
theorem Dz.levBad {T : Int → Int} {n : Int} {lv k p : Nat} {q x : Int} (h0 : Dz T n (subT lv) k q p (.bad x)) (hl : lv = 1 ∨ lv = 2 ∨ lv = 5 ∨ lv = 6 := by omega) : Dz T n (.lev lv) k q p (.bad x) := fun M hM => hM.2.2.2.2.2.2.2.1 hl (h0 M hM)
theorem Dz.levOk {T : Int → Int} {n : Int} {lv k p p1 : Nat} {q q1 : Int} {V : Vl} {r : Rz} (h0 : Dz T n (subT lv) k q p (.ok q1 p1 V)) (h1 : Dz T n (.rest lv V) k q1 p1 r) (hl : lv = 1 ∨ lv = 2 ∨ lv = 5 ∨ lv = 6 := by omega) : Dz T n (.lev lv) k q p r := fun M hM => hM.2.2.2.2.2.2.2.2.1 hl (h0 M hM) (h1 M hM)
theorem Dz.restEnd {T : Int → Int} {n : Int} {lv k p : Nat} {q : Int} {V : Vl} (h0 : opq T n q lv = -1) : Dz T n (.rest lv V) k q p (.ok q p V) := fun M hM => hM.2.2.2.2.2.2.2.2.2.1 h0
theorem Dz.restBad {T : Int → Int} {n : Int} {lv k p : Nat} {q x : Int} {V : Vl} (h0 : opq T n q lv ≠ -1) (h1 : Dz T n (subT lv) k (le T n q) p (.bad x)) : Dz T n (.rest lv V) k q p (.bad x) := fun M hM => hM.2.2.2.2.2.2.2.2.2.2.1 h0 (h1 M hM)
theorem Dz.restOk {T : Int → Int} {n : Int} {lv k p p1 : Nat} {q q1 : Int} {V W : Vl} {r : Rz} (h0 : opq T n q lv ≠ -1) (h1 : Dz T n (subT lv) k (le T n q) p (.ok q1 p1 W)) (h2 : Dz T n (.rest lv (jnV (opq T n q lv) V W)) k q1 p1 r) : Dz T n (.rest lv V) k q p r := fun M hM => hM.2.2.2.2.2.2.2.2.2.2.2.1 h0 (h1 M hM) (h2 M hM)
theorem Dz.notBad {T : Int → Int} {n : Int} {k p : Nat} {q x : Int} (h0 : iw T n q 14836) (h1 : Dz T n .plain k (le T n q) p (.bad x)) : Dz T n .plain k q p (.bad x) := fun M hM => hM.2.2.2.2.2.2.2.2.2.2.2.2.1 h0 (h1 M hM)
theorem Dz.notOk {T : Int → Int} {n : Int} {k p p1 : Nat} {q q1 : Int} {V : Vl} (h0 : iw T n q 14836) (h1 : Dz T n .plain k (le T n q) p (.ok q1 p1 V)) : Dz T n .plain k q p (.ok q1 p1 (ngV V)) := fun M hM => hM.2.2.2.2.2.2.2.2.2.2.2.2.2.1 h0 (h1 M hM)
theorem Dz.brDeep {T : Int → Int} {n : Int} {p : Nat} {q : Int} (h0 : ¬ iw T n q 14836) (h1 : sgq T n q 40) : Dz T n .plain 0 q p (.bad q) := fun M hM => hM.2.2.2.2.2.2.2.2.2.2.2.2.2.2.1 h0 h1
theorem Dz.brBad {T : Int → Int} {n : Int} {k p : Nat} {q x : Int} (h0 : ¬ iw T n q 14836) (h1 : sgq T n q 40) (h2 : Dz T n (.lev 1) k (le T n q) p (.bad x)) : Dz T n .plain (k + 1) q p (.bad x) := fun M hM => hM.2.2.2.2.2.2.2.2.2.2.2.2.2.2.2.1 h0 h1 (h2 M hM)
theorem Dz.brNo {T : Int → Int} {n : Int} {k p p1 : Nat} {q q1 : Int} {V : Vl} (h0 : ¬ iw T n q 14836) (h1 : sgq T n q 40) (h2 : Dz T n (.lev 1) k (le T n q) p (.ok q1 p1 V)) (h3 : ¬ sgq T n q1 41) : Dz T n .plain (k + 1) q p (.bad q1) := fun M hM => hM.2.2.2.2.2.2.2.2.2.2.2.2.2.2.2.2.1 h0 h1 (h2 M hM) h3
theorem Dz.br {T : Int → Int} {n : Int} {k p p1 : Nat} {q q1 : Int} {V : Vl} (h0 : ¬ iw T n q 14836) (h1 : sgq T n q 40) (h2 : Dz T n (.lev 1) k (le T n q) p (.ok q1 p1 V)) (h3 : sgq T n q1 41) : Dz T n .plain (k + 1) q p (.ok (le T n q1) p1 V) := fun M hM => hM.2.2.2.2.2.2.2.2.2.2.2.2.2.2.2.2.2.1 h0 h1 (h2 M hM) h3
theorem Dz.cBad {T : Int → Int} {n : Int} {k p : Nat} {q x : Int} (h0 : ¬ iw T n q 14836) (h1 : ¬ sgq T n q 40) (h2 : Dz T n (.lev 5) k q p (.bad x)) : Dz T n .plain k q p (.bad x) := fun M hM => hM.2.2.2.2.2.2.2.2.2.2.2.2.2.2.2.2.2.2.1 h0 h1 (h2 M hM)
theorem Dz.cNo {T : Int → Int} {n : Int} {k p p1 : Nat} {q q1 : Int} {V : Vl} (h0 : ¬ iw T n q 14836) (h1 : ¬ sgq T n q 40) (h2 : Dz T n (.lev 5) k q p (.ok q1 p1 V)) (h3 : cmq T n q1 = -1) : Dz T n .plain k q p (.bad q1) := fun M hM => hM.2.2.2.2.2.2.2.2.2.2.2.2.2.2.2.2.2.2.2.1 h0 h1 (h2 M hM) h3
theorem Dz.cBad2 {T : Int → Int} {n : Int} {k p p1 : Nat} {q q1 x : Int} {V : Vl} (h0 : ¬ iw T n q 14836) (h1 : ¬ sgq T n q 40) (h2 : Dz T n (.lev 5) k q p (.ok q1 p1 V)) (h3 : cmq T n q1 ≠ -1) (h4 : Dz T n (.lev 5) k (le T n q1) p1 (.bad x)) : Dz T n .plain k q p (.bad x) := fun M hM => hM.2.2.2.2.2.2.2.2.2.2.2.2.2.2.2.2.2.2.2.2.1 h0 h1 (h2 M hM) h3 (h4 M hM)
theorem Dz.cOk {T : Int → Int} {n : Int} {k p p1 p2 : Nat} {q q1 q2 : Int} {V W : Vl} (h0 : ¬ iw T n q 14836) (h1 : ¬ sgq T n q 40) (h2 : Dz T n (.lev 5) k q p (.ok q1 p1 V)) (h3 : cmq T n q1 ≠ -1) (h4 : Dz T n (.lev 5) k (le T n q1) p1 (.ok q2 p2 W)) : Dz T n .plain k q p (.ok q2 p2 (bnV (cmq T n q1 - 2) V W)) := fun M hM => hM.2.2.2.2.2.2.2.2.2.2.2.2.2.2.2.2.2.2.2.2.2 h0 h1 (h2 M hM) h3 (h4 M hM)
/-- every number is within a billion; of a test: 0 or 1 -/
def tyV (t : Bool) (V : Vl) : Prop := ∀ kn, okk kn → okv (V kn) ∧ (t = true → b01 (V kn))
theorem tyV.low {t : Bool} {V : Vl} (h : tyV t V) : tyV false V := fun kn hk => ⟨(h kn hk).1, fun e => by cases e⟩
theorem bst_ok {o x y v : Int} (h : bst o x y = some v) : -1000000000 ≤ v ∧ v ≤ 1000000000 := by
  unfold bst at h
  split at h
  · cases h
  · split at h
    · rename_i h'; cases h; exact h'
    · cases h
theorem bst_01 {o x y v : Int} (ho : 4 ≤ o ∧ o ≤ 6) (h : bst o x y = some v) : v = 0 ∨ v = 1 := by
  unfold bst at h
  split at h
  · cases h
  · split at h
    · cases h
      unfold jo
      rw [if_neg (by omega), if_neg (by omega), if_neg (by omega), if_neg (by omega)]
      split
      · split <;> omega
      · split
        · split <;> omega
        · split <;> omega
    · cases h
theorem tyV.bin (o : Int) (V W : Vl) : tyV false (bnV o V W) := fun kn hk => ⟨fun v h => by
  unfold bnV at h
  cases hV : V kn with
  | none => rw [hV] at h; cases h
  | some x =>
    cases hW : W kn with
    | none => rw [hV, hW] at h; cases h
    | some y => rw [hV, hW] at h; exact bst_ok h, fun e => by cases e⟩
theorem tyV.cmp {o : Int} (ho : 4 ≤ o ∧ o ≤ 6) (V W : Vl) : tyV true (bnV o V W) := fun kn hk => ⟨(tyV.bin o V W kn hk).1, fun _ v h => by
  unfold bnV at h
  cases hV : V kn with
  | none => rw [hV] at h; cases h
  | some x =>
    cases hW : W kn with
    | none => rw [hV, hW] at h; cases h
    | some y => rw [hV, hW] at h; exact bst_01 ho h⟩
theorem ty01 {V : Vl} (h : ∀ kn, okk kn → b01 (V kn)) : tyV true V := fun kn hk => ⟨fun v hv => by
  have := h kn hk v hv
  omega, fun _ => h kn hk⟩
theorem tyV.neg {V : Vl} (h : tyV true V) : tyV true (ngV V) := ty01 (fun kn hk v hv => by
  unfold ngV at hv
  cases hV : V kn with
  | none => rw [hV] at hv; cases hv
  | some x =>
    rw [hV] at hv
    simp only [Option.map_some, Option.some.injEq] at hv
    have := (h kn hk).2 rfl x hV
    omega)
theorem tyV.ao {e : Int} {V W : Vl} (h : tyV true V) (h' : tyV true W) : tyV true (aoV e V W) := ty01 (fun kn hk v hv => by
  unfold aoV aov at hv
  cases hV : V kn with
  | none => rw [hV] at hv; cases hv
  | some x =>
    rw [hV] at hv
    simp only [Option.bind_some] at hv
    split at hv
    · have e := Option.some.inj hv
      have := (h kn hk).2 rfl x hV
      omega
    · exact (h' kn hk).2 rfl v hv)
theorem ngV_ngV {V : Vl} : ngV (ngV V) = V := by
  funext kn
  unfold ngV
  cases V kn with
  | none => rfl
  | some x => simp; omega
abbrev Stq : Type := (Int → Int) → Int × List Int → Option (Option (Int × List Int))
/-- a piece of code for a value, so many parts in it -/
def Pz (s : Stq) (l : Nat) (a b : Int) (V : Vl) : Prop := 1 ≤ l ∧ a < b ∧ ∀ kn, okk kn → Sg (s kn) l a b (V kn)
theorem Sg.up {s : Int × List Int → Option (Option (Int × List Int))} {l l' : Nat} {a b : Int} {V : Option Int} (h : Sg s l a b V) (hl : l ≤ l') : Sg s l' a b V := ⟨h.1, fun st h1 h2 => h.2 st (by omega) h2⟩
theorem Pz.congr {s s' : Stq} {l : Nat} {a b : Int} {V : Vl} (h : Pz s l a b V) (he : ∀ kn z, a ≤ z.1 → z.1 < b → s kn z = s' kn z) (hf : ∀ kn z w, s kn z = some (some w) → z.1 < w.1) : Pz s' l a b V := ⟨h.1, h.2.1, fun kn hk => (h.2.2 kn hk).congr (he kn) (hf kn)⟩
theorem Pz.leaf {s : Stq} {a : Int} {V : (Int → Int) → Int} (h : ∀ kn, okk kn → ∀ st : List Int, st.length + 1 ≤ 64 → s kn (a, st) = some (some (a + 1, V kn :: st))) : Pz s 1 a (a + 1) (fun kn => some (V kn)) := ⟨by omega, by omega, fun kn hk => Sg.leaf (h kn hk)⟩
theorem Pz.bin {s : Stq} {l1 l2 : Nat} {a b c k : Int} {V W : Vl} (h1 : Pz s l1 a b V) (h2 : Pz s l2 b c W) (hV : tyV false V) (h : ∀ kn x y st, s kn (c, y :: x :: st) = some ((bst k x y).map (fun v => (c + 1, v :: st)))) : Pz s (l1 + l2) a (c + 1) (bnV k V W) := ⟨by have := h1.1; omega, by have := h1.2.1; have := h2.2.1; omega, fun kn hk => Sg.bin (h1.2.2 kn hk) (h2.2.2 kn hk) h1.1 (hV kn hk).1 (h kn)⟩
theorem Pz.neg {s : Stq} {l : Nat} {a b : Int} {V : Vl} (h1 : Pz s l a b V) (hV : tyV true V) (h : ∀ kn x st, (x = 0 ∨ x = 1) → s kn (b, x :: st) = some (some (b + 1, (1 - x) :: st))) : Pz s l a (b + 1) (ngV V) := ⟨h1.1, by have := h1.2.1; omega, fun kn hk => Sg.neg (h1.2.2 kn hk) (h kn) ((hV kn hk).2 rfl)⟩
theorem Pz.ao {s : Stq} {l1 l2 : Nat} {a b c e : Int} {V W : Vl} (h1 : Pz s l1 a b V) (h2 : Pz s l2 (b + 1) c W) (hV : tyV true V) (he : ∀ kn st, s kn (b, e :: st) = some (some (c, e :: st))) (hn : ∀ kn x st, (x = 0 ∨ x = 1) → x ≠ e → s kn (b, x :: st) = some (some (b + 1, st))) : Pz s (l1 + l2) a c (aoV e V W) := ⟨by have := h1.1; omega, by have := h1.2.1; have := h2.2.1; omega, fun kn hk => Sg.ao (h1.2.2 kn hk) (h2.2.2 kn hk) ((hV kn hk).2 rfl) (he kn) (hn kn)⟩
