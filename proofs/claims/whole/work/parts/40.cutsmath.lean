/-! the fewest cuts: pairs that could fit -/
theorem oU_comm {O : Orc} (hk : oOk O) {a b : Nat} (ha : a < oP O) (hb : b < oP O) : oU O a b = oU O b a := by
  have e : (oQ O a).testBit b = (oQ O b).testBit a := by
    cases h1 : (oQ O a).testBit b <;> cases h2 : (oQ O b).testBit a
    · rfl
    · have := (hk.2.2.2.1 b a hb h2).2.2; rw [h1] at this; cases this
    · have := (hk.2.2.2.1 a b ha h1).2.2; rw [h2] at this; cases this
    · rfl
  unfold oU
  rw [e]
  congr 1
  exact decide_eq_decide.mpr ⟨fun h q => h q.symm, fun h q => h q.symm⟩
theorem oU_side {O : Orc} {a b : Nat} (h : oU O a b = true) : oS O a ≠ oS O b := by
  simp only [oU, Bool.and_eq_true, decide_eq_true_eq] at h
  exact h.1
def dG (O : Orc) (a b : Nat) : Nat := if oG O b ≤ oG O a then oG O a - oG O b else oG O b - oG O a
theorem dG_comm (O : Orc) (a b : Nat) : dG O a b = dG O b a := by
  unfold dG
  split <;> split <;> omega
theorem dG_le {O : Orc} (hk : oOk O) {a b : Nat} (ha : a < oP O) (hb : b < oP O) : dG O a b ≤ 8 := by
  have := (hk.2.2.1 a ha).2.1
  have := (hk.2.2.1 b hb).2.1
  unfold dG
  split <;> omega
/-- a set is all in k pairs that could fit, by so many cuts -/
def MatK (O : Orc) : Nat → Nat → Nat → Prop
  | 0, s, c => s = 0 ∧ c = 0
  | k + 1, s, c => ∃ s' c' a b, MatK O k s' c' ∧ a < oP O ∧ b < oP O ∧ oU O a b = true ∧ s'.testBit a = false ∧ s'.testBit b = false ∧ s = s' ||| (2 ^ a ||| 2 ^ b) ∧ c = c' + dG O a b
def Mat (O : Orc) (s k c : Nat) : Prop := MatK O k s c
theorem Mat.nil {O : Orc} : Mat O 0 0 0 := ⟨rfl, rfl⟩
theorem Mat.add {O : Orc} {s k c a b : Nat} (h : Mat O s k c) (ha : a < oP O) (hb : b < oP O) (hu : oU O a b = true) (sa : s.testBit a = false) (sb : s.testBit b = false) : Mat O (s ||| (2 ^ a ||| 2 ^ b)) (k + 1) (c + dG O a b) := ⟨s, c, a, b, h, ha, hb, hu, sa, sb, rfl, rfl⟩
theorem Mat_ind {O : Orc} {M : Nat → Nat → Nat → Prop} (h0 : M 0 0 0) (h1 : ∀ s k c a b, Mat O s k c → a < oP O → b < oP O → oU O a b = true → s.testBit a = false → s.testBit b = false → M s k c → M (s ||| (2 ^ a ||| 2 ^ b)) (k + 1) (c + dG O a b)) : ∀ k s c, Mat O s k c → M s k c := by
  intro k
  induction k with
  | zero => rintro s c ⟨rfl, rfl⟩; exact h0
  | succ k ih =>
    rintro s c ⟨s', c', a, b, h, ha, hb, hu, sa, sb, rfl, rfl⟩
    exact h1 s' k c' a b h ha hb hu sa sb (ih s' c' h)
theorem bitset {a i : Nat} : (2 ^ a).testBit i = decide (a = i) := Nat.testBit_two_pow
theorem Mat_lt {O : Orc} {s k c : Nat} (h : Mat O s k c) : s < 2 ^ oP O := by
  exact Mat_ind (M := fun s _ _ => s < 2 ^ oP O) (Nat.two_pow_pos _) (fun s k c a b _ ha hb _ _ _ ih => taken_lt ih ha hb) k s c h
theorem or_sd {s a b : Nat} (ha : s.testBit a = true) (hb : s.testBit b = true) : sd s (2 ^ a ||| 2 ^ b) ||| (2 ^ a ||| 2 ^ b) = s := by
  apply nat_ext
  intro i
  rw [Nat.testBit_or, sd_bit, Nat.testBit_or, bitset, bitset]
  by_cases e1 : a = i
  · subst e1; simp [ha]
  · by_cases e2 : b = i
    · subst e2; simp [hb]
    · simp [e1, e2]
theorem sd_or_self {s a b : Nat} (ha : s.testBit a = false) (hb : s.testBit b = false) : sd (s ||| (2 ^ a ||| 2 ^ b)) (2 ^ a ||| 2 ^ b) = s := by
  apply nat_ext
  intro i
  rw [sd_bit, Nat.testBit_or, Nat.testBit_or, bitset, bitset]
  by_cases e1 : a = i
  · subst e1; simp [ha]
  · by_cases e2 : b = i
    · subst e2; simp [hb]
    · simp [e1, e2]
/-- one of the set and whom it is with -/
theorem Mat_rem {O : Orc} (hk : oOk O) {s k c : Nat} (h : Mat O s k c) : ∀ x, s.testBit x = true → ∃ y k' c', x < oP O ∧ y < oP O ∧ y ≠ x ∧ s.testBit y = true ∧ oU O x y = true ∧ Mat O (sd s (2 ^ x ||| 2 ^ y)) k' c' ∧ k = k' + 1 ∧ c = c' + dG O x y := by
  refine Mat_ind (M := fun s k c => ∀ x, s.testBit x = true → ∃ y k' c', x < oP O ∧ y < oP O ∧ y ≠ x ∧ s.testBit y = true ∧ oU O x y = true ∧ Mat O (sd s (2 ^ x ||| 2 ^ y)) k' c' ∧ k = k' + 1 ∧ c = c' + dG O x y) ?_ ?_ k s c h
  · intro x hx; rw [Nat.zero_testBit] at hx; cases hx
  · intro s k c a b h ha hb hu sa sb ih x hx
    have nab : a ≠ b := fun e => oU_side hu (by rw [e])
    rw [Nat.testBit_or, Nat.testBit_or, bitset, bitset] at hx
    by_cases e1 : a = x
    · subst e1
      refine ⟨b, k, c, ha, hb, fun e => nab e.symm, ?_, hu, ?_, rfl, rfl⟩
      · rw [Nat.testBit_or, Nat.testBit_or, bitset, bitset]; simp
      · rw [sd_or_self sa sb]; exact h
    · by_cases e2 : b = x
      · subst e2
        refine ⟨a, k, c, hb, ha, nab, ?_, by rw [oU_comm hk hb ha]; exact hu, ?_, rfl, by rw [dG_comm]⟩
        · rw [Nat.testBit_or, Nat.testBit_or, bitset, bitset]; simp
        · rw [Nat.or_comm (2 ^ b), sd_or_self sa sb]; exact h
      · have hx : s.testBit x = true := by simpa [e1, e2] using hx
        obtain ⟨y, k', c', q1, q2, q3, q4, q5, q6, q7, q8⟩ := ih x hx
        have ya : a ≠ y := fun e => by rw [← e, sa] at q4; cases q4
        have yb : b ≠ y := fun e => by rw [← e, sb] at q4; cases q4
        have xa : (sd s (2 ^ x ||| 2 ^ y)).testBit a = false := by rw [sd_bit, sa]; rfl
        have xb : (sd s (2 ^ x ||| 2 ^ y)).testBit b = false := by rw [sd_bit, sb]; rfl
        have m := Mat.add q6 ha hb hu xa xb
        have e : sd s (2 ^ x ||| 2 ^ y) ||| (2 ^ a ||| 2 ^ b) = sd (s ||| (2 ^ a ||| 2 ^ b)) (2 ^ x ||| 2 ^ y) := by
          apply nat_ext
          intro i
          rw [Nat.testBit_or, sd_bit, sd_bit, Nat.testBit_or, Nat.testBit_or, Nat.testBit_or, bitset, bitset, bitset, bitset]
          by_cases i1 : a = i
          · subst i1; simp [Ne.symm e1, Ne.symm ya, sa]
          · by_cases i2 : b = i
            · subst i2; simp [Ne.symm e2, Ne.symm yb, sb]
            · simp [i1, i2]
        rw [e] at m
        exact ⟨y, k' + 1, c' + dG O a b, q1, q2, q3, by rw [Nat.testBit_or, q4]; rfl, q5, m, by omega, by omega⟩
theorem Mat_ins {O : Orc} {s k c a b : Nat} (h : Mat O (sd s (2 ^ a ||| 2 ^ b)) k c) (ha : a < oP O) (hb : b < oP O) (hu : oU O a b = true) (sa : s.testBit a = true) (sb : s.testBit b = true) : Mat O s (k + 1) (c + dG O a b) := by
  have m := Mat.add h ha hb hu (by rw [sd_bit, Nat.testBit_or, bitset]; simp) (by rw [sd_bit, Nat.testBit_or, bitset, bitset]; simp)
  rw [or_sd sa sb] at m
  exact m
theorem Mat_pop {O : Orc} (hk : oOk O) {s k c : Nat} (h : Mat O s k c) : popN s = 2 * k ∧ c ≤ 8 * k := by
  have h8 := hk.1
  refine Mat_ind (M := fun s k c => popN s = 2 * k ∧ c ≤ 8 * k) ⟨by decide, by omega⟩ ?_ k s c h
  · intro s k c a b h ha hb hu sa sb ih
    have nab : a ≠ b := fun e => oU_side hu (by rw [e])
    have p8 := pow8 h8
    have sl := Mat_lt h
    have d := dG_le hk ha hb
    have t : (s ||| 2 ^ a).testBit b = false := by rw [Nat.testBit_or, sb, bitset]; simp [nab]
    have l2 : s ||| 2 ^ a < 256 := Nat.or_lt_two_pow (n := 8) (by omega) (pow2_lt8 (by omega))
    rw [← Nat.or_assoc, pop_or l2 (by omega) t, pop_or (by omega) (by omega) sa]
    omega
/-! the least of some, if there are any -/
def isMinO (C : Nat → Prop) : Option Nat → Prop
  | none => ∀ x, ¬ C x
  | some m => C m ∧ ∀ x, C x → m ≤ x
theorem minO_ex (C : Nat → Prop) : ∃ o, isMinO C o := by
  by_cases h : ∃ x, C x
  · obtain ⟨x, hx⟩ := h
    induction x using Nat.strongRecOn with
    | _ x ih =>
      by_cases g : ∃ y, y < x ∧ C y
      · obtain ⟨y, h1, h2⟩ := g; exact ih y h1 h2
      · exact ⟨some x, hx, fun y hy => Nat.not_lt.mp (fun q => g ⟨y, q, hy⟩)⟩
  · exact ⟨none, fun x hx => h ⟨x, hx⟩⟩
noncomputable def minO (C : Nat → Prop) : Option Nat := Classical.choose (minO_ex C)
theorem minO_is (C : Nat → Prop) : isMinO C (minO C) := Classical.choose_spec (minO_ex C)
theorem isMinO_u {C D : Nat → Prop} {o o' : Option Nat} (h : isMinO C o) (h' : isMinO D o') (e : ∀ x, C x ↔ D x) : o = o' := by
  cases o with
  | none =>
    cases o' with
    | none => rfl
    | some m => exact absurd ((e m).mpr h'.1) (h m)
  | some m =>
    cases o' with
    | none => exact absurd ((e m).mp h.1) (h' m)
    | some m' => rw [Nat.le_antisymm (h.2 m' ((e m').mpr h'.1)) (h'.2 m ((e m).mp h.1))]
theorem isMinO_iff {C D : Nat → Prop} {o : Option Nat} (h : isMinO C o) (e : ∀ x, C x ↔ D x) : isMinO D o := by
  cases o with
  | none => exact fun x hx => h x ((e x).mpr hx)
  | some m => exact ⟨(e m).mp h.1, fun x hx => h.2 x ((e x).mpr hx)⟩
theorem isMinO_sub {C D : Nat → Prop} {o : Option Nat} (h : isMinO C o) (e : ∀ x, C x → D x) (g : ∀ x, D x → ∃ y, C y ∧ y ≤ x) : isMinO D o := by
  cases o with
  | none => exact fun x hx => by obtain ⟨y, hy, -⟩ := g x hx; exact h y hy
  | some m => exact ⟨e m h.1, fun x hx => by obtain ⟨y, hy, hl⟩ := g x hx; exact Nat.le_trans (h.2 y hy) hl⟩
def fewO : Option Nat → Option Nat → Option Nat
  | none, b => b
  | some a, none => some a
  | some a, some b => some (min a b)
theorem isMinO_or {C D : Nat → Prop} {a b : Option Nat} (h : isMinO C a) (g : isMinO D b) : isMinO (fun x => C x ∨ D x) (fewO a b) := by
  cases a with
  | none =>
    cases b with
    | none => exact fun x hx => hx.elim (h x) (g x)
    | some b => exact ⟨Or.inr g.1, fun x hx => hx.elim (fun q => absurd q (h x)) (g.2 x)⟩
  | some a =>
    cases b with
    | none => exact ⟨Or.inl h.1, fun x hx => hx.elim (h.2 x) (fun q => absurd q (g x))⟩
    | some b =>
      refine ⟨?_, fun x hx => hx.elim (fun q => Nat.le_trans (Nat.min_le_left _ _) (h.2 x q)) (fun q => Nat.le_trans (Nat.min_le_right _ _) (g.2 x q))⟩
      rcases Nat.le_total a b with q | q
      · rw [Nat.min_eq_left q]; exact Or.inl h.1
      · rw [Nat.min_eq_right q]; exact Or.inr g.1
theorem isMinO_one {C : Nat → Prop} {a : Option Nat} (h : isMinO C a) (v : Nat) : isMinO (fun x => C x ∨ x = v) (fewO a (some v)) :=
  isMinO_or h (D := fun x => x = v) (b := some v) ⟨rfl, fun x hx => by rw [hx]; exact Nat.le_refl _⟩
/-- what a set's pairs need, at the least -/
noncomputable def FS (O : Orc) (s : Nat) : Option Nat := minO (fun c => ∃ k, Mat O s k c)
noncomputable def FK (O : Orc) (k : Nat) : Option Nat := minO (fun c => ∃ s, Mat O s k c)
theorem FS_0 (O : Orc) : FS O 0 = some 0 := by
  refine isMinO_u (minO_is _) (D := fun x => x = 0) (o' := some 0) ⟨rfl, fun x hx => by rw [hx]; exact Nat.le_refl _⟩ (fun x => ⟨?_, fun e => ⟨0, by rw [e]; exact Mat.nil⟩⟩)
  rintro ⟨k, h⟩
  cases k with
  | zero => exact h.2
  | succ k =>
    obtain ⟨s', c', a, b, h, ha, hb, hu, sa, sb, e, rfl⟩ := h
    have : ((0 : Nat)).testBit a = (s' ||| (2 ^ a ||| 2 ^ b)).testBit a := by rw [e]
    rw [Nat.zero_testBit, Nat.testBit_or, Nat.testBit_or, bitset] at this
    simp at this
theorem FS_le {O : Orc} (hk : oOk O) {s c : Nat} (h : FS O s = some c) : c ≤ 32 ∧ ∃ k, k ≤ 4 ∧ Mat O s k c := by
  have m := minO_is (fun c => ∃ k, Mat O s k c)
  have h' : minO (fun c => ∃ k, Mat O s k c) = some c := h
  rw [h'] at m
  obtain ⟨⟨k, hm⟩, -⟩ := m
  obtain ⟨p1, p2⟩ := Mat_pop hk hm
  have := pop_P hk.1 (Mat_lt hm)
  have := hk.1
  exact ⟨by omega, k, by omega, hm⟩
/-- by the least one of the set -/
theorem FS_rec {O : Orc} (hk : oOk O) {s : Nat} (hs : s < 2 ^ oP O) (h0 : s ≠ 0) : isMinO (fun x => ∃ b, lowb s + 1 ≤ b ∧ b < oP O ∧ s.testBit b = true ∧ oU O (lowb s) b = true ∧ ∃ c, FS O (sd s (2 ^ lowb s ||| 2 ^ b)) = some c ∧ x = c + dG O (lowb s) b) (FS O s) := by
  have h8 := hk.1
  have p8 := pow8 h8
  have lb := lowb_bit (s := s) (by omega) h0
  have lP := bit_lt hs lb
  -- D ⊆ C here: every matching is met by one at most as dear
  have m := minO_is (fun c => ∃ k, Mat O s k c)
  have e : FS O s = minO (fun c => ∃ k, Mat O s k c) := rfl
  rw [e]
  obtain ⟨o, ho⟩ := minO_ex (fun x => ∃ b, lowb s + 1 ≤ b ∧ b < oP O ∧ s.testBit b = true ∧ oU O (lowb s) b = true ∧ ∃ c, FS O (sd s (2 ^ lowb s ||| 2 ^ b)) = some c ∧ x = c + dG O (lowb s) b)
  have ho' := isMinO_sub (D := fun c => ∃ k, Mat O s k c) ho (by
    rintro x ⟨b, b1, b2, b3, b4, c, b5, rfl⟩
    obtain ⟨-, k, -, hm⟩ := FS_le hk b5
    exact ⟨k + 1, Mat_ins hm lP b2 b4 lb b3⟩) (by
    rintro x ⟨k, hm⟩
    obtain ⟨y, k', c', q1, q2, q3, q4, q5, q6, q7, q8⟩ := Mat_rem hk hm (lowb s) lb
    have yl : lowb s < y := by
      rcases Nat.lt_trichotomy (lowb s) y with q | q | q
      · exact q
      · exact absurd q.symm q3
      · have := lowb_min (by omega) h0 q; rw [q4] at this; cases this
    have m2 := minO_is (fun c => ∃ k, Mat O (sd s (2 ^ lowb s ||| 2 ^ y)) k c)
    cases f : minO (fun c => ∃ k, Mat O (sd s (2 ^ lowb s ||| 2 ^ y)) k c) with
    | none => rw [f] at m2; exact absurd ⟨k', q6⟩ (m2 c')
    | some c =>
      rw [f] at m2
      exact ⟨c + dG O (lowb s) y, ⟨y, yl, q2, q4, q5, c, f, rfl⟩, by rw [q8]; exact Nat.add_le_add_right (m2.2 c' ⟨k', q6⟩) _⟩)
  rw [isMinO_u m ho' (fun x => Iff.rfl)]
  exact ho
