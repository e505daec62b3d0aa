/-! sets as bits -/
def popN (s : Nat) : Nat := (s.testBit 0).toNat + (s.testBit 1).toNat + (s.testBit 2).toNat + (s.testBit 3).toNat + (s.testBit 4).toNat + (s.testBit 5).toNat + (s.testBit 6).toNat + (s.testBit 7).toNat
def bcX1 (a0 : Int32) : Int32 := (a0 - (((a0.toUInt32 >>> ((1 : Int32).toUInt32 &&& Int32.toUInt32 31)).toInt32) &&& (1431655765 : Int32)))
def bcX2 (z1 : Int32) : Int32 := ((z1 &&& (858993459 : Int32)) + (((z1.toUInt32 >>> ((2 : Int32).toUInt32 &&& Int32.toUInt32 31)).toInt32) &&& (858993459 : Int32)))
def bcX3 (z2 : Int32) : Int32 := ((z2 + ((z2.toUInt32 >>> ((4 : Int32).toUInt32 &&& Int32.toUInt32 31)).toInt32)) &&& (252645135 : Int32))
def bcX4 (z3 : Int32) : Int32 := (z3 + ((z3.toUInt32 >>> ((8 : Int32).toUInt32 &&& Int32.toUInt32 31)).toInt32))
def bcX5 (z4 : Int32) : Int32 := (z4 + ((z4.toUInt32 >>> ((16 : Int32).toUInt32 &&& Int32.toUInt32 31)).toInt32))
theorem bc_all : ∀ s : Fin 256, (bcX5 (bcX4 (bcX3 (bcX2 (bcX1 (nI s.val)))))) &&& (63 : Int32) = nI (popN s.val) := by decide +kernel
theorem s_bitCount {σ : St} {s : Nat} {P : Int32 → Prop} (hs : s < 256) (hP : P (nI (popN s))) : wJ6_bitCount_0f7a4 σ (nI s) P := by
  have h := bc_all ⟨s, hs⟩
  unfold wJ6_bitCount_0f7a4
  intro z1 h1 z2 h2 z3 h3 z4 h4 z5 h5
  have e1 : z1 = bcX1 (nI s) := h1
  have e2 : z2 = bcX2 z1 := h2
  have e3 : z3 = bcX3 z2 := h3
  have e4 : z4 = bcX4 z3 := h4
  have e5 : z5 = bcX5 z4 := h5
  have h : bcX5 (bcX4 (bcX3 (bcX2 (bcX1 (nI s))))) &&& (63 : Int32) = nI (popN s) := h
  rw [e5, e4, e3, e2, e1, h]
  exact hP
/-- the least bit of a set -/
def lowb (s : Nat) : Nat := if s.testBit 0 then 0 else if s.testBit 1 then 1 else if s.testBit 2 then 2 else if s.testBit 3 then 3 else if s.testBit 4 then 4 else if s.testBit 5 then 5 else if s.testBit 6 then 6 else if s.testBit 7 then 7 else 8
theorem lowb_all : ∀ s : Fin 256, s.val ≠ 0 → lowb s.val < 8 ∧ s.val.testBit (lowb s.val) = true ∧ (∀ j : Fin 8, j.val < lowb s.val → s.val.testBit j.val = false) ∧ (nI s.val &&& (-(nI s.val))) = nI (2 ^ lowb s.val) ∧ (nI s.val ^^^ (-1 : Int32)) &&& (nI s.val - (1 : Int32)) = nI (2 ^ lowb s.val - 1) := by decide +kernel
theorem lowb_lt {s : Nat} (hs : s < 256) (h0 : s ≠ 0) : lowb s < 8 := (lowb_all ⟨s, hs⟩ h0).1
theorem lowb_bit {s : Nat} (hs : s < 256) (h0 : s ≠ 0) : s.testBit (lowb s) = true := (lowb_all ⟨s, hs⟩ h0).2.1
theorem lowb_min {s j : Nat} (hs : s < 256) (h0 : s ≠ 0) (hj : j < lowb s) : s.testBit j = false := (lowb_all ⟨s, hs⟩ h0).2.2.1 ⟨j, by have := lowb_lt hs h0; omega⟩ hj
theorem lowb_neg {s : Nat} (hs : s < 256) (h0 : s ≠ 0) : (nI s &&& (-(nI s))) = nI (2 ^ lowb s) := (lowb_all ⟨s, hs⟩ h0).2.2.2.1
theorem s_ntz {σ : St} {s : Nat} {P : Int32 → Prop} (hs : s < 256) (h0 : s ≠ 0) (hP : P (nI (lowb s))) : wJ6_numberOfTrailingZeros_0f7a4 σ (nI s) P := by
  have h := (lowb_all ⟨s, hs⟩ h0).2.2.2.2
  have h : (nI s ^^^ (-1 : Int32)) &&& (nI s - (1 : Int32)) = nI (2 ^ lowb s - 1) := h
  have hl := lowb_lt hs h0
  unfold wJ6_numberOfTrailingZeros_0f7a4
  rw [h]
  intro z1 h1
  subst h1
  generalize lowb s = k at hl hP ⊢
  unfold jn
  rcases (show k = 0 ∨ k = 1 ∨ k = 2 ∨ k = 3 ∨ k = 4 ∨ k = 5 ∨ k = 6 ∨ k = 7 by omega) with rfl | rfl | rfl | rfl | rfl | rfl | rfl | rfl
  · exact ⟨fun c => absurd c (by decide), fun _ => hP⟩
  all_goals
    refine ⟨fun _ => ⟨fun _ => ⟨fun _ => ⟨fun c => ?_, fun c z16 h16 z17 h17 => ?_⟩, fun c => absurd (by decide) c⟩, fun c => absurd (by decide) c⟩, fun c => absurd (by decide) c⟩
  all_goals first
    | exact absurd c (by decide)
    | exact absurd (by decide) c
    | ((try subst h16); (try subst h17)
       refine ⟨fun c2 => ?_, fun c2 z13 h13 z14 h14 => ?_⟩ <;> first
        | exact absurd c2 (by decide)
        | exact absurd (by decide) c2
        | exact hP
        | (subst h13; subst h14; exact hP))
/-- s without m -/
def sd (s m : Nat) : Nat := s ^^^ (s &&& m)
theorem sd_bit (s m i : Nat) : (sd s m).testBit i = (s.testBit i && !m.testBit i) := by
  unfold sd
  rw [Nat.testBit_xor, Nat.testBit_and]
  cases s.testBit i <;> cases m.testBit i <;> rfl
theorem sdI (s m : Nat) : nI s &&& (nI m ^^^ (-1 : Int32)) = nI (sd s m) := by
  apply Int32.toBitVec_inj.mp
  show BitVec.ofNat 32 s &&& (BitVec.ofNat 32 m ^^^ BitVec.allOnes 32) = BitVec.ofNat 32 (sd s m)
  apply BitVec.eq_of_getLsbD_eq
  intro i hi
  rw [BitVec.getLsbD_and, BitVec.getLsbD_xor, BitVec.getLsbD_ofNat, BitVec.getLsbD_ofNat, BitVec.getLsbD_ofNat, BitVec.getLsbD_allOnes, sd_bit]
  simp [hi]
theorem nat_ext {a b : Nat} (h : ∀ i, a.testBit i = b.testBit i) : a = b := Nat.eq_of_testBit_eq h
theorem sd_or (s a b : Nat) : sd s (2 ^ a ||| 2 ^ b) = sd (sd s (2 ^ a)) (2 ^ b) := by
  apply nat_ext
  intro i
  rw [sd_bit, sd_bit, sd_bit, Nat.testBit_or]
  cases s.testBit i <;> cases (2 ^ a).testBit i <;> cases (2 ^ b).testBit i <;> rfl
theorem sd_or' (s a b : Nat) : sd s (2 ^ a ||| 2 ^ b) = sd (sd s (2 ^ b)) (2 ^ a) := by rw [Nat.or_comm]; exact sd_or s b a
theorem sd_all : ∀ (s : Fin 256) (a : Fin 8), sd s.val (2 ^ a.val) ≤ s.val ∧ (s.val.testBit a.val = true → sd s.val (2 ^ a.val) < s.val) := by decide +kernel
theorem sd_le {s a : Nat} (hs : s < 256) (ha : a < 8) : sd s (2 ^ a) ≤ s := (sd_all ⟨s, hs⟩ ⟨a, ha⟩).1
theorem sd_lt {s a : Nat} (hs : s < 256) (ha : a < 8) (h : s.testBit a = true) : sd s (2 ^ a) < s := (sd_all ⟨s, hs⟩ ⟨a, ha⟩).2 h
theorem tb_pow (a i : Nat) : (2 ^ a).testBit i = decide (a = i) := Nat.testBit_two_pow
/-! the greatest of some -/
def isMax (C : Nat → Prop) (m : Nat) : Prop := C m ∧ ∀ x, C x → x ≤ m
theorem isMax_u {C C' : Nat → Prop} {m m' : Nat} (h : isMax C m) (h' : isMax C' m') (e : ∀ x, C x ↔ C' x) : m = m' :=
  Nat.le_antisymm (h'.2 m ((e m).mp h.1)) (h.2 m' ((e m').mpr h'.1))
/-- the greatest of acc and of what those of a stretch give for which c holds -/
def mxL (c : Nat → Bool) (f : Nat → Nat) : Nat → Nat → Nat → Nat
  | 0, _, acc => acc
  | d + 1, b, acc => mxL c f d (b + 1) (if c b = true then max acc (f b) else acc)
theorem mxL_max (c : Nat → Bool) (f : Nat → Nat) : ∀ (d b acc : Nat), isMax (fun x => x = acc ∨ ∃ j, b ≤ j ∧ j < b + d ∧ c j = true ∧ x = f j) (mxL c f d b acc)
  | 0, b, acc => ⟨Or.inl rfl, fun x hx => by
      rcases hx with rfl | ⟨j, h1, h2, -⟩
      · exact Nat.le_refl _
      · omega⟩
  | d + 1, b, acc => by
    have ih := mxL_max c f d (b + 1) (if c b = true then max acc (f b) else acc)
    rw [mxL]
    refine ⟨?_, fun x hx => ?_⟩
    · rcases ih.1 with h | ⟨j, h1, h2, h3, h4⟩
      · by_cases q : c b = true
        · rw [if_pos q] at h
          rcases Nat.le_total acc (f b) with t | t
          · rw [Nat.max_eq_right t] at h
            exact Or.inr ⟨b, Nat.le_refl _, by omega, q, by rw [if_pos q, Nat.max_eq_right t]; exact h⟩
          · rw [Nat.max_eq_left t] at h
            exact Or.inl (by rw [if_pos q, Nat.max_eq_left t]; exact h)
        · rw [if_neg q] at h
          exact Or.inl (by rw [if_neg q]; exact h)
      · exact Or.inr ⟨j, by omega, by omega, h3, h4⟩
    · have h0 : (if c b = true then max acc (f b) else acc) ≤ mxL c f d (b + 1) (if c b = true then max acc (f b) else acc) := ih.2 _ (Or.inl rfl)
      rcases hx with rfl | ⟨j, h1, h2, h3, rfl⟩
      · refine Nat.le_trans ?_ h0
        split
        · exact Nat.le_max_left _ _
        · exact Nat.le_refl _
      · by_cases q : j = b
        · subst q
          refine Nat.le_trans ?_ h0
          rw [if_pos h3]
          exact Nat.le_max_right _ _
        · exact ih.2 _ (Or.inr ⟨j, by omega, by omega, h3, rfl⟩)
/-- the same over a list -/
def mxQ {α : Type} (c : α → Bool) (f : α → Nat) : List α → Nat → Nat
  | [], acc => acc
  | q :: l, acc => mxQ c f l (if c q = true then max acc (f q) else acc)
theorem mxQ_max {α : Type} (c : α → Bool) (f : α → Nat) : ∀ (l : List α) (acc : Nat), isMax (fun x => x = acc ∨ ∃ q, q ∈ l ∧ c q = true ∧ x = f q) (mxQ c f l acc)
  | [], acc => ⟨Or.inl rfl, fun x hx => by
      rcases hx with rfl | ⟨j, h1, -⟩
      · exact Nat.le_refl _
      · cases h1⟩
  | b :: l, acc => by
    have ih := mxQ_max c f l (if c b = true then max acc (f b) else acc)
    rw [mxQ]
    refine ⟨?_, fun x hx => ?_⟩
    · rcases ih.1 with h | ⟨j, h1, h3, h4⟩
      · by_cases q : c b = true
        · rw [if_pos q] at h
          rcases Nat.le_total acc (f b) with t | t
          · rw [Nat.max_eq_right t] at h
            exact Or.inr ⟨b, List.mem_cons_self, q, by rw [if_pos q, Nat.max_eq_right t]; exact h⟩
          · rw [Nat.max_eq_left t] at h
            exact Or.inl (by rw [if_pos q, Nat.max_eq_left t]; exact h)
        · rw [if_neg q] at h
          exact Or.inl (by rw [if_neg q]; exact h)
      · exact Or.inr ⟨j, List.mem_cons_of_mem _ h1, h3, h4⟩
    · have h0 : (if c b = true then max acc (f b) else acc) ≤ mxQ c f l (if c b = true then max acc (f b) else acc) := ih.2 _ (Or.inl rfl)
      rcases hx with rfl | ⟨j, h1, h3, rfl⟩
      · refine Nat.le_trans ?_ h0
        split
        · exact Nat.le_max_left _ _
        · exact Nat.le_refl _
      · rcases List.mem_cons.mp h1 with rfl | h1
        · refine Nat.le_trans ?_ h0
          rw [if_pos h3]
          exact Nat.le_max_right _ _
        · exact ih.2 _ (Or.inr ⟨j, h1, h3, rfl⟩)
/-! WHOLE -/
/-- a set's whole, if those of lesser sets are T -/
def wSt (O : Orc) (T : Nat → Nat) (s : Nat) : Nat :=
  mxL (fun b => (sd s (2 ^ lowb s)).testBit b && oF O (lowb s) b) (fun b => oC O (lowb s) + oC O b + T (sd (sd s (2 ^ lowb s)) (2 ^ b))) (oP O - (lowb s + 1)) (lowb s + 1) (T (sd s (2 ^ lowb s)))
def Wt (O : Orc) : Nat → Nat → Nat
  | 0, _ => 0
  | k + 1, s => if s = k then (if k = 0 then 0 else wSt O (Wt O k) k) else Wt O k s
def W_ (O : Orc) (s : Nat) : Nat := Wt O (s + 1) s
theorem Wt_st (O : Orc) {s k : Nat} (h : s < k) : Wt O k s = W_ O s := by
  induction k with
  | zero => omega
  | succ k ih =>
    by_cases e : s = k
    · subst e; rfl
    · rw [Wt, if_neg e]; exact ih (by omega)
theorem mxL_congr {c : Nat → Bool} {f g : Nat → Nat} : ∀ (d b acc : Nat), (∀ j, b ≤ j → j < b + d → c j = true → f j = g j) → mxL c f d b acc = mxL c g d b acc
  | 0, _, _, _ => rfl
  | d + 1, b, acc, h => by
    rw [mxL, mxL, mxL_congr d (b + 1) _ (fun j h1 h2 h3 => h j (by omega) (by omega) h3)]
    by_cases q : c b = true
    · rw [if_pos q, if_pos q, h b (Nat.le_refl _) (by omega) q]
    · rw [if_neg q, if_neg q]
theorem wSt_congr {O : Orc} (hk : oOk O) {T T' : Nat → Nat} {s : Nat} (hs : s < 256) (h0 : s ≠ 0) (h : ∀ r, r < s → T r = T' r) : wSt O T s = wSt O T' s := by
  have l1 := lowb_lt hs h0
  have l2 := sd_lt hs l1 (lowb_bit hs h0)
  have h8 := hk.1
  unfold wSt
  rw [h _ l2]
  refine mxL_congr _ _ _ (fun j h1 h2 h3 => ?_)
  have := sd_le (s := sd s (2 ^ lowb s)) (a := j) (by omega) (by omega)
  rw [h _ (by omega)]
theorem W_zero (O : Orc) : W_ O 0 = 0 := rfl
theorem W_rec {O : Orc} (hk : oOk O) {s : Nat} (hs : s < 256) (h0 : s ≠ 0) : W_ O s = wSt O (W_ O) s := by
  show (if s = s then (if s = 0 then 0 else wSt O (Wt O s) s) else Wt O s s) = _
  rw [if_pos rfl, if_neg h0]
  exact wSt_congr hk hs h0 (fun r hr => Wt_st O hr)
