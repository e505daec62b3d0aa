/-! who asks whom -/
def lkV (O : Orc) (p q : Nat) : Nat := 100 * min (oL O p) (oL O q) + 10 * oC O q + (8 - q)
def lkT (O : Orc) (p q : Nat) : Nat := if p < oP O ∧ q < oP O ∧ oF O p q = true then lkV O p q else 0
theorem lkV_lt {O : Orc} (hk : oOk O) {p q d : Nat} (hp : p < oP O) (hq : q < oP O) (hd : d < oP O) : lkV O p d < lkV O p q ↔ (min (oL O p) (oL O d) < min (oL O p) (oL O q) ∨ (min (oL O p) (oL O d) = min (oL O p) (oL O q) ∧ (oC O d < oC O q ∨ (oC O d = oC O q ∧ q < d)))) := by
  have h8 := hk.1
  have Q := (hk.2.2.1 q hq).2.2.2.1
  have D := (hk.2.2.1 d hd).2.2.2.1
  unfold lkV
  generalize min (oL O p) (oL O d) = x
  generalize min (oL O p) (oL O q) = y
  omega
theorem lkV_b {O : Orc} (hk : oOk O) {p q : Nat} (hp : p < oP O) (hq : q < oP O) : 0 < lkV O p q ∧ lkV O p q < 2000 := by
  have Q := (hk.2.2.1 q hq).2.2.2.1
  have L := (hk.2.2.1 q hq).2.2.1
  unfold lkV
  omega
theorem lkT_at {O : Orc} {p q : Nat} (hp : p < oP O) (hq : q < oP O) (h : oF O p q = true) : lkT O p q = lkV O p q := if_pos ⟨hp, hq, h⟩
theorem lkT_b {O : Orc} (hk : oOk O) (p q : Nat) : lkT O p q < 2000 := by
  unfold lkT
  split
  · rename_i h; exact (lkV_b hk h.1 h.2.1).2
  · omega
abbrev Ak : Type := (Nat → Option Nat) × (Nat → Nat)
def nqC (O : Orc) (t a b : Nat) : Bool := !t.testBit b && (decide (b < oP O) && oF O a b)
def btr (O : Orc) (a b : Nat) : Option Nat → Bool
  | none => true
  | some d => decide (lkV O a d < lkV O a b)
def nqF (O : Orc) (t a : Nat) : Nat → Option Nat
  | 0 => none
  | b + 1 => if (nqC O t a b && btr O a b (nqF O t a b)) = true then some b else nqF O t a b
theorem nqF_some {O : Orc} {t a : Nat} : ∀ n q, nqF O t a n = some q → q < n ∧ nqC O t a q = true := by
  intro n
  induction n with
  | zero => intro q h; cases h
  | succ n ih =>
    intro q h
    rw [nqF] at h
    split at h
    · rename_i c
      cases h
      rw [Bool.and_eq_true] at c
      exact ⟨by omega, c.1⟩
    · obtain ⟨h1, h2⟩ := ih q h
      exact ⟨by omega, h2⟩
theorem nqF_ext {O : Orc} {t a : Nat} : ∀ n, oP O ≤ n → nqF O t a n = nqF O t a (oP O) := by
  intro n h
  induction h with
  | refl => rfl
  | @step n h ih =>
    have h' : oP O ≤ n := h
    rw [nqF, if_neg (by unfold nqC; simp; intro _ q; omega)]
    exact ih
def prf (O : Orc) (W : Nat → Option Nat) (q a : Nat) : Bool := btr O q a (W q)
def askS (O : Orc) (S : Ak) (a : Nat) : Ak := if a < oP O ∧ oS O a = 0 ∧ S.1 a = none then
    (match nqF O (S.2 a) a (oP O) with
    | none => S
    | some q => if prf O S.1 q a = true then (fun x => if x = a then some q else if x = q then some a else if S.1 q = some x then none else S.1 x, fun x => if x = a then S.2 a ||| 2 ^ q else S.2 x)
      else (S.1, fun x => if x = a then S.2 a ||| 2 ^ q else S.2 x)) else S
theorem askS_no {O : Orc} {S : Ak} {a : Nat} (h : ¬ (a < oP O ∧ oS O a = 0 ∧ S.1 a = none)) : askS O S a = S := if_neg h
theorem askS_none {O : Orc} {S : Ak} {a : Nat} (h : nqF O (S.2 a) a (oP O) = none) : askS O S a = S := by
  unfold askS
  split
  · rw [h]
  · rfl
theorem askS_yes {O : Orc} {S : Ak} {a q : Nat} (h : a < oP O ∧ oS O a = 0 ∧ S.1 a = none) (h1 : nqF O (S.2 a) a (oP O) = some q) (h2 : prf O S.1 q a = true) : askS O S a = (fun x => if x = a then some q else if x = q then some a else if S.1 q = some x then none else S.1 x, fun x => if x = a then S.2 a ||| 2 ^ q else S.2 x) := by
  unfold askS
  rw [if_pos h, h1]
  exact if_pos h2
theorem askS_ref {O : Orc} {S : Ak} {a q : Nat} (h : a < oP O ∧ oS O a = 0 ∧ S.1 a = none) (h1 : nqF O (S.2 a) a (oP O) = some q) (h2 : prf O S.1 q a = false) : askS O S a = (S.1, fun x => if x = a then S.2 a ||| 2 ^ q else S.2 x) := by
  unfold askS
  rw [if_pos h, h1]
  exact if_neg (by rw [h2]; decide)
def akOk (O : Orc) (S : Ak) : Prop := (∀ p q, S.1 p = some q → p < oP O ∧ q < oP O ∧ oF O p q = true ∧ S.1 q = some p) ∧ ∀ a, S.2 a < 256
theorem nqC_t {O : Orc} {t a b : Nat} (h : nqC O t a b = true) : t.testBit b = false ∧ b < oP O ∧ oF O a b = true := by
  unfold nqC at h
  simp at h
  exact h
theorem askS_ok {O : Orc} (hk : oOk O) {S : Ak} (h : akOk O S) (a : Nat) : akOk O (askS O S a) := by
  have h8 := hk.1
  by_cases g : a < oP O ∧ oS O a = 0 ∧ S.1 a = none
  · cases e : nqF O (S.2 a) a (oP O) with
    | none => rw [askS_none e]; exact h
    | some q =>
      obtain ⟨-, hc⟩ := nqF_some _ _ e
      obtain ⟨c1, c2, c3⟩ := nqC_t hc
      have naq : a ≠ q := fun x => oF_side c3 (by rw [x])
      have tl : ∀ x, (if x = a then S.2 a ||| 2 ^ q else S.2 x) < 256 := fun x => by
        split
        · exact Nat.or_lt_two_pow (n := 8) (h.2 a) (pow2_lt8 (by omega))
        · exact h.2 x
      cases p : prf O S.1 q a with
      | false => rw [askS_ref g e p]; exact ⟨h.1, tl⟩
      | true =>
        rw [askS_yes g e p]
        refine ⟨fun x y hxy => ?_, tl⟩
        have hxy : (if x = a then some q else if x = q then some a else if S.1 q = some x then none else S.1 x) = some y := hxy
        show x < oP O ∧ y < oP O ∧ oF O x y = true ∧ (if y = a then some q else if y = q then some a else if S.1 q = some y then none else S.1 y) = some x
        by_cases x1 : x = a
        · rw [if_pos x1] at hxy
          cases hxy
          subst x1
          exact ⟨g.1, c2, c3, by rw [if_neg (fun e => naq e.symm), if_pos rfl]⟩
        · rw [if_neg x1] at hxy
          by_cases x2 : x = q
          · rw [if_pos x2] at hxy
            cases hxy
            subst x2
            exact ⟨c2, g.1, by rw [oF_comm hk c2 g.1]; exact c3, by rw [if_pos rfl]⟩
          · rw [if_neg x2] at hxy
            by_cases x3 : S.1 q = some x
            · rw [if_pos x3] at hxy; cases hxy
            · rw [if_neg x3] at hxy
              obtain ⟨d1, d2, d3, d4⟩ := h.1 x y hxy
              refine ⟨d1, d2, d3, ?_⟩
              have y1 : y ≠ a := fun e => by rw [e, g.2.2] at d4; cases d4
              have y2 : y ≠ q := fun e => x3 (by rw [← e]; exact d4)
              have y3 : ¬ S.1 q = some y := fun e => by
                have := (h.1 q y e).2.2.2
                rw [d4] at this
                cases this
                exact x2 rfl
              rw [if_neg y1, if_neg y2, if_neg y3]; exact d4
  · rw [askS_no g]; exact h
/-- how many pairs were not asked for yet -/
def remA (O : Orc) (S : Ak) : Nat := (prs O).countP (fun q => !(S.2 q.1).testBit q.2)
theorem countP_lt {α : Type} {p p' : α → Bool} {l : List α} {x : α} (hx : x ∈ l) (h : ∀ y, p' y = true → p y = true) (h1 : p x = true) (h2 : p' x = false) : l.countP p' < l.countP p := by
  induction l with
  | nil => cases hx
  | cons y l ih =>
    have le : l.countP p' ≤ l.countP p := List.countP_mono_left (fun z _ => h z)
    rw [List.countP_cons, List.countP_cons]
    rcases List.mem_cons.mp hx with rfl | hm
    · rw [h1, h2]; simp; omega
    · have := ih hm
      cases q : p' y with
      | false =>
        have e0 : (if (false = true) then 1 else 0) = 0 := rfl
        rw [e0]
        split <;> omega
      | true => rw [h y q]; simp; omega
theorem remA_lt {O : Orc} {S : Ak} {a q : Nat} {W : Nat → Option Nat} (h : a < oP O ∧ oS O a = 0 ∧ S.1 a = none) (h1 : nqF O (S.2 a) a (oP O) = some q) : remA O (W, fun x => if x = a then S.2 a ||| 2 ^ q else S.2 x) < remA O S := by
  obtain ⟨-, hc⟩ := nqF_some _ _ h1
  obtain ⟨c1, c2, c3⟩ := nqC_t hc
  refine countP_lt (x := (a, q)) (prs_mem.mpr ⟨h.1, c2, h.2.1, c3⟩) (fun y hy => ?_) ?_ ?_
  · have hy : (!(if y.1 = a then S.2 a ||| 2 ^ q else S.2 y.1).testBit y.2) = true := hy
    show (!(S.2 y.1).testBit y.2) = true
    by_cases e : y.1 = a
    · rw [if_pos e, Nat.testBit_or] at hy
      rw [e]
      simp at hy
      simp [hy.1]
    · rw [if_neg e] at hy; exact hy
  · show (!(S.2 a).testBit q) = true
    rw [c1]; rfl
  · show (!(if a = a then S.2 a ||| 2 ^ q else S.2 a).testBit q) = false
    rw [if_pos rfl, Nat.testBit_or, bitset]; simp
def rndS (O : Orc) : Nat → Ak → Ak
  | 0, S => S
  | i + 1, S => askS O (rndS O i S) i
theorem rndS_ext {O : Orc} {S : Ak} : ∀ n, oP O ≤ n → rndS O n S = rndS O (oP O) S := by
  intro n h
  induction h with
  | refl => rfl
  | @step n h ih =>
    have h' : oP O ≤ n := h
    rw [rndS, askS_no (fun q => by have := q.1; omega)]; exact ih
theorem rndS_ok {O : Orc} (hk : oOk O) {S : Ak} (h : akOk O S) : ∀ n, akOk O (rndS O n S) := by
  intro n
  induction n with
  | zero => exact h
  | succ n ih => exact askS_ok hk ih n
theorem askS_rem {O : Orc} (S : Ak) (a : Nat) : askS O S a = S ∨ remA O (askS O S a) < remA O S := by
  by_cases g : a < oP O ∧ oS O a = 0 ∧ S.1 a = none
  · cases e : nqF O (S.2 a) a (oP O) with
    | none => exact Or.inl (askS_none e)
    | some q =>
      cases p : prf O S.1 q a with
      | false => rw [askS_ref g e p]; exact Or.inr (remA_lt g e)
      | true => rw [askS_yes g e p]; exact Or.inr (remA_lt g e)
  · exact Or.inl (askS_no g)
def Rnd (O : Orc) (S : Ak) : Ak := rndS O (oP O) S
theorem rndS_rem {O : Orc} (S : Ak) : ∀ n, rndS O n S = S ∨ remA O (rndS O n S) < remA O S := by
  intro n
  induction n with
  | zero => exact Or.inl rfl
  | succ n ih =>
    rw [rndS]
    rcases askS_rem (rndS O n S) n with h | h
    · rw [h]; exact ih
    · rcases ih with i | i
      · rw [i] at h ⊢; exact Or.inr h
      · exact Or.inr (Nat.lt_trans h i)
def itA (O : Orc) : Nat → Ak → Ak
  | 0, S => S
  | n + 1, S => itA O n (Rnd O S)
theorem itA_s (O : Orc) : ∀ n S, itA O (n + 1) S = Rnd O (itA O n S) := by
  intro n
  induction n with
  | zero => intro S; rfl
  | succ n ih => intro S; rw [itA, ih (Rnd O S), ← itA]
theorem itA_fix {O : Orc} {S : Ak} (h : Rnd O S = S) : ∀ n, itA O n S = S := by
  intro n
  induction n with
  | zero => rfl
  | succ n ih => rw [itA, h]; exact ih
def S00 : Ak := (fun _ => none, fun _ => 0)
theorem S00_ok (O : Orc) : akOk O S00 := ⟨fun p q h => (by cases h), fun a => (by show 0 < 256; omega)⟩
/-- all the asking -/
def AskF (O : Orc) : Ak := itA O ((prs O).length + 1) S00
def ansAsked (O : Orc) (p : Int32) : Int32 := if inR p (oP O) = true then oV ((AskF O).1 p.toNatClampNeg) else -1
/-- whoever ends with a round in which nobody asks has the same -/
theorem AskF_eq {O : Orc} : ∀ n S, remA O S ≤ n → ∀ m, Rnd O (itA O m S) = itA O m S → itA O (n + 1) S = itA O m S := by
  intro n
  induction n with
  | zero =>
    intro S h m hm
    have r : Rnd O S = S := by
      rcases rndS_rem (O := O) S (oP O) with q | q
      · exact q
      · omega
    rw [itA_fix r, itA_fix r]
  | succ n ih =>
    intro S h m hm
    by_cases r : Rnd O S = S
    · rw [itA_fix r, itA_fix r]
    · have q : remA O (Rnd O S) < remA O S := by
        rcases rndS_rem (O := O) S (oP O) with q | q
        · exact absurd q r
        · exact q
      cases m with
      | zero => exact absurd hm r
      | succ m => exact ih (Rnd O S) (by omega) m hm
theorem remA_le (O : Orc) (S : Ak) : remA O S ≤ (prs O).length := List.countP_le_length
