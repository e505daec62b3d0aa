/-! a draft, and how an item is read into it -/
def upN (f : Nat → Nat) (k v : Nat) : Nat → Nat := fun x => if x = k then v else f x
theorem updN (f : Nat → Nat) (k v x : Nat) : upN f k v x = if x = k then v else f x := rfl
def addH (O : Orc) (s g l c : Nat) : Orc := (oP O + 1, oT O, upN (oS O) (oP O) s, upN (oG O) (oP O) g, upN (oL O) (oP O) l, upN (oC O) (oP O) c, upN (oQ O) (oP O) 0, oH O, oR O, oB O)
def addQ (O : Orc) (a b : Nat) : Orc := (oP O, oT O, oS O, oG O, oL O, oC O, fun x => if x = a then oQ O a ||| 2 ^ b else if x = b then oQ O b ||| 2 ^ a else oQ O x, oH O, oR O, oB O)
def addT (O : Orc) (h r b : Nat) : Orc := (oP O, oT O + 1, oS O, oG O, oL O, oC O, oQ O, upN (oH O) (oT O) h, upN (oR O) (oT O) r, upN (oB O) (oT O) b)
def O00 : Orc := (0, 0, fun _ => 0, fun _ => 0, fun _ => 0, fun _ => 0, fun _ => 0, fun _ => 0, fun _ => 0, fun _ => 0)
theorem O00_ok : oOk O00 := ⟨Nat.zero_le _, Nat.zero_le _, fun p hp => absurd hp (Nat.not_lt_zero p), fun a b ha => absurd ha (Nat.not_lt_zero a), fun t ht => absurd ht (Nat.not_lt_zero t)⟩
theorem addH_ok {O : Orc} (h : oOk O) {s g l c : Nat} (hP : oP O < 8) (hs : s ≤ 1) (hg : 1 ≤ g ∧ g ≤ 9) (hl : 1 ≤ l ∧ l ≤ 9) (hc : 1 ≤ c ∧ c ≤ 9) : oOk (addH O s g l c) := by
  obtain ⟨h1, h2, h3, h4, h5⟩ := h
  refine ⟨by show oP O + 1 ≤ 8; omega, h2, fun p hp => ?_, fun a b ha hq => ?_, h5⟩
  · have hp : p < oP O + 1 := hp
    show upN (oS O) (oP O) s p ≤ 1 ∧ (1 ≤ upN (oG O) (oP O) g p ∧ upN (oG O) (oP O) g p ≤ 9) ∧ (1 ≤ upN (oL O) (oP O) l p ∧ upN (oL O) (oP O) l p ≤ 9) ∧ (1 ≤ upN (oC O) (oP O) c p ∧ upN (oC O) (oP O) c p ≤ 9) ∧ upN (oQ O) (oP O) 0 p < 256
    rw [updN, updN, updN, updN, updN]
    by_cases e : p = oP O
    · rw [if_pos e, if_pos e, if_pos e, if_pos e, if_pos e]; exact ⟨hs, hg, hl, hc, by omega⟩
    · rw [if_neg e, if_neg e, if_neg e, if_neg e, if_neg e]; exact h3 p (by omega)
  · have ha : a < oP O + 1 := ha
    have hq : (upN (oQ O) (oP O) 0 a).testBit b = true := hq
    show b < oP O + 1 ∧ b ≠ a ∧ (upN (oQ O) (oP O) 0 b).testBit a = true
    rw [updN] at hq ⊢
    by_cases e : a = oP O
    · rw [if_pos e, Nat.zero_testBit] at hq; cases hq
    · rw [if_neg e] at hq
      obtain ⟨q1, q2, q3⟩ := h4 a b (by omega) hq
      rw [if_neg (by omega)]
      exact ⟨by omega, q2, q3⟩
theorem addQ_ok {O : Orc} (h : oOk O) {a b : Nat} (ha : a < oP O) (hb : b < oP O) (hab : a ≠ b) : oOk (addQ O a b) := by
  obtain ⟨h1, h2, h3, h4, h5⟩ := h
  refine ⟨h1, h2, fun p hp => ?_, fun x y hx hq => ?_, h5⟩
  · have hp : p < oP O := hp
    obtain ⟨a1, a2, a3, a4, a5⟩ := h3 p hp
    refine ⟨a1, a2, a3, a4, ?_⟩
    show (if p = a then oQ O a ||| 2 ^ b else if p = b then oQ O b ||| 2 ^ a else oQ O p) < 256
    split
    · exact Nat.or_lt_two_pow (n := 8) (h3 a ha).2.2.2.2 (pow2_lt8 (by omega))
    · split
      · exact Nat.or_lt_two_pow (n := 8) (h3 b hb).2.2.2.2 (pow2_lt8 (by omega))
      · exact a5
  · have hx : x < oP O := hx
    have bit : ∀ u v, (if u = a then oQ O a ||| 2 ^ b else if u = b then oQ O b ||| 2 ^ a else oQ O u).testBit v = ((oQ O u).testBit v || (decide (u = a) && decide (v = b)) || (decide (u = b) && decide (v = a))) := fun u v => by
      by_cases e1 : u = a
      · subst e1
        rw [if_pos rfl, Nat.testBit_or, bitset]
        have : ¬ u = b := hab
        by_cases e2 : b = v
        · simp [e2]
        · simp [e2, this, Ne.symm e2]
      · rw [if_neg e1]
        by_cases e3 : u = b
        · subst e3
          rw [if_pos rfl, Nat.testBit_or, bitset]
          by_cases e2 : a = v
          · simp [e2]
          · simp [e1, e2, Ne.symm e2]
        · rw [if_neg e3]; simp [e1, e3]
    have hq : (if x = a then oQ O a ||| 2 ^ b else if x = b then oQ O b ||| 2 ^ a else oQ O x).testBit y = true := hq
    show y < oP O ∧ y ≠ x ∧ (if y = a then oQ O a ||| 2 ^ b else if y = b then oQ O b ||| 2 ^ a else oQ O y).testBit x = true
    rw [bit] at hq ⊢
    simp only [Bool.or_eq_true, Bool.and_eq_true, decide_eq_true_eq] at hq ⊢
    rcases hq with (hq | ⟨rfl, rfl⟩) | ⟨rfl, rfl⟩
    · obtain ⟨q1, q2, q3⟩ := h4 x y hx hq
      exact ⟨q1, q2, Or.inl (Or.inl q3)⟩
    · exact ⟨hb, fun e => hab e.symm, Or.inr ⟨rfl, rfl⟩⟩
    · exact ⟨ha, hab, Or.inl (Or.inr ⟨rfl, rfl⟩)⟩
theorem addT_ok {O : Orc} (h : oOk O) {g r b : Nat} (hT : oT O < 5) (hg : 1 ≤ g ∧ g ≤ 9) (hr : r ≤ 20) (hb : b ≤ 99) : oOk (addT O g r b) := by
  obtain ⟨h1, h2, h3, h4, h5⟩ := h
  refine ⟨h1, by show oT O + 1 ≤ 5; omega, h3, h4, fun t ht => ?_⟩
  have ht : t < oT O + 1 := ht
  show (1 ≤ upN (oH O) (oT O) g t ∧ upN (oH O) (oT O) g t ≤ 9) ∧ upN (oR O) (oT O) r t ≤ 20 ∧ upN (oB O) (oT O) b t ≤ 99
  rw [updN, updN, updN]
  by_cases e : t = oT O
  · rw [if_pos e, if_pos e, if_pos e]; exact ⟨hg, hr, hb⟩
  · rw [if_neg e, if_neg e, if_neg e]; exact h5 t (by omega)
/-- whether token i is a number of a stretch -/
def numB (t : Tx) (i lo hi : Nat) : Bool := decide (tk t i = 4) && (decide (lo ≤ tv t i) && decide (tv t i ≤ hi))
/-- an item from token i on: where it fails, or the draft and the token behind it -/
def rdI (t : Tx) (O : Orc) (i : Nat) : Nat ⊕ (Orc × Nat) :=
  if tk t i = 0 ∨ tk t i = 1 then
    (if 8 ≤ oP O then .inl i else if numB t (i + 1) 1 9 = false then .inl (i + 1) else if numB t (i + 2) 1 9 = false then .inl (i + 2) else if numB t (i + 3) 1 9 = false then .inl (i + 3) else if ¬ tk t (i + 4) = 5 then .inl (i + 4) else .inr (addH O (tk t i) (tv t (i + 1)) (tv t (i + 2)) (tv t (i + 3)), i + 5))
  else if tk t i = 2 then
    (if (numB t (i + 1) 0 (oP O - 1) && decide (0 < oP O)) = false then .inl (i + 1) else if (numB t (i + 2) 0 (oP O - 1) && decide (tv t (i + 2) ≠ tv t (i + 1))) = false then .inl (i + 2) else if ¬ tk t (i + 3) = 5 then .inl (i + 3) else .inr (addQ O (tv t (i + 1)) (tv t (i + 2)), i + 4))
  else if tk t i = 3 then
    (if 5 ≤ oT O then .inl i else if numB t (i + 1) 1 9 = false then .inl (i + 1) else if numB t (i + 2) 0 20 = false then .inl (i + 2) else if numB t (i + 3) 0 99 = false then .inl (i + 3) else if ¬ tk t (i + 4) = 5 then .inl (i + 4) else .inr (addT O (tv t (i + 1)) (tv t (i + 2)) (tv t (i + 3)), i + 5))
  else .inl i
def rdAll (t : Tx) : Nat → Orc → Nat → Nat → Nat ⊕ (Orc × Nat)
  | 0, _, _, _ => .inl 0
  | n + 1, O, i, k => if tk t i = 6 then .inr (O, k) else match rdI t O i with
    | .inl f => .inl f
    | .inr q => rdAll t n q.1 q.2 (k + 1)
