/-! numbers of the machine and natural numbers -/
theorem ltI {x y : Int32} {a b : Nat} (hx : x = nI a) (hy : y = nI b) (ha : a < 2 ^ 31) (hb : b < 2 ^ 31) : x < y ↔ a < b := by subst hx; subst hy; exact nI_ltI ha hb
theorem leI {x y : Int32} {a b : Nat} (hx : x = nI a) (hy : y = nI b) (ha : a < 2 ^ 31) (hb : b < 2 ^ 31) : x ≤ y ↔ a ≤ b := by subst hx; subst hy; exact nI_leI ha hb
theorem eqI {x y : Int32} {a b : Nat} (hx : x = nI a) (hy : y = nI b) (ha : a < 2 ^ 31) (hb : b < 2 ^ 31) : x = y ↔ a = b := by subst hx; subst hy; exact nI_eq ha hb
theorem inI {x : Int32} {a n : Nat} (hx : x = nI a) (h : a < n) (hn : n < 2 ^ 31) : vp_in x n := by subst hx; exact vp_in_nI h hn
theorem cl {n : Nat} (h : n < 2 ^ 31) : (nI n).toNatClampNeg = n := nI_clamp h
theorem toI {n : Nat} (h : n < 2 ^ 31) : (nI n).toInt = (n : Int) := nI_toInt h
theorem lt0 {x : Int32} : x < 0 ↔ x.toInt < 0 := by rw [Int32.lt_iff_toInt_lt]; rfl
/-- whether a number of the machine is one of 0 .. n - 1 -/
def inR (x : Int32) (n : Nat) : Bool := decide (0 ≤ x.toInt) && decide (x.toInt < (n : Int))
def bI (b : Bool) : Int32 := if b then 1 else 0
theorem bI_t : bI true = 1 := rfl
theorem bI_f : bI false = 0 := rfl
theorem inR_nI {k n : Nat} (hk : k < 2 ^ 31) : inR (nI k) n = decide (k < n) := by
  unfold inR
  rw [toI hk]
  by_cases h : k < n
  · simp [h]
  · simp [h]
theorem inR_t {x : Int32} {n : Nat} (h : inR x n = true) (hn : n < 2 ^ 31) : ∃ k : Nat, k < n ∧ x = nI k := by
  unfold inR at h
  simp only [Bool.and_eq_true, decide_eq_true_eq] at h
  exact vp_in_of (vp_in_iff.mpr h) hn
theorem nle_toI {x : Int32} {n : Nat} (hn : n < 2 ^ 31) : nI n ≤ x ↔ (n : Int) ≤ x.toInt := by rw [Int32.le_iff_toInt_le, toI hn]
theorem inR_lt0 {x : Int32} {n : Nat} (h : x < 0) : inR x n = false := by
  have := lt0.mp h
  simp [inR]; omega
theorem inR_ge {x : Int32} {n : Nat} (hn : n < 2 ^ 31) (h : nI n ≤ x) : inR x n = false := by
  have := (nle_toI hn).mp h
  simp [inR]; omega
theorem inR_in {x : Int32} {n : Nat} (hn : n < 2 ^ 31) (h0 : ¬ x < 0) (h : ¬ nI n ≤ x) : inR x n = true := by
  have h1 : ¬ x.toInt < 0 := fun q => h0 (lt0.mpr q)
  have h2 : ¬ (n : Int) ≤ x.toInt := fun q => h ((nle_toI hn).mpr q)
  simp [inR]; omega
theorem bI_ne {b : Bool} : ¬ bI b = 0 ↔ b = true := by cases b <;> simp [bI]
theorem bI_eq0 {b : Bool} : bI b = 0 ↔ b = false := by cases b <;> simp [bI]
theorem nb0 : ¬ (1 : Int32) = 0 := by decide
/-- a branch on an answer that is true or false -/
theorem br_b {b : Bool} {A B : Prop} (f : b = false → A) (t : b = true → B) : (bI b = 0 → A) ∧ (¬ bI b = 0 → B) := ⟨fun c => f (bI_eq0.mp c), fun c => t (bI_ne.mp c)⟩
/-! orchards -/
/-- people, trees, side, gap, long, pace, quarrels (bits), high, ripe, baskets -/
abbrev Orc : Type := Nat × Nat × (Nat → Nat) × (Nat → Nat) × (Nat → Nat) × (Nat → Nat) × (Nat → Nat) × (Nat → Nat) × (Nat → Nat) × (Nat → Nat)
def oP (O : Orc) : Nat := O.1
def oT (O : Orc) : Nat := O.2.1
def oS (O : Orc) : Nat → Nat := O.2.2.1
def oG (O : Orc) : Nat → Nat := O.2.2.2.1
def oL (O : Orc) : Nat → Nat := O.2.2.2.2.1
def oC (O : Orc) : Nat → Nat := O.2.2.2.2.2.1
def oQ (O : Orc) : Nat → Nat := O.2.2.2.2.2.2.1
def oH (O : Orc) : Nat → Nat := O.2.2.2.2.2.2.2.1
def oR (O : Orc) : Nat → Nat := O.2.2.2.2.2.2.2.2.1
def oB (O : Orc) : Nat → Nat := O.2.2.2.2.2.2.2.2.2
def oOk (O : Orc) : Prop := oP O ≤ 8 ∧ oT O ≤ 5 ∧
  (∀ p, p < oP O → oS O p ≤ 1 ∧ (1 ≤ oG O p ∧ oG O p ≤ 9) ∧ (1 ≤ oL O p ∧ oL O p ≤ 9) ∧ (1 ≤ oC O p ∧ oC O p ≤ 9) ∧ oQ O p < 256) ∧
  (∀ a b, a < oP O → (oQ O a).testBit b = true → b < oP O ∧ b ≠ a ∧ (oQ O b).testBit a = true) ∧
  (∀ t, t < oT O → (1 ≤ oH O t ∧ oH O t ≤ 9) ∧ oR O t ≤ 20 ∧ oB O t ≤ 99)
/-- two could fit, were their gaps alike; they fit -/
def oU (O : Orc) (a b : Nat) : Bool := decide (oS O a ≠ oS O b) && !(oQ O a).testBit b
def oF (O : Orc) (a b : Nat) : Bool := oU O a b && decide (oG O a = oG O b)
/-- the class's cells of an orchard -/
def orC (σ : St) (o : Nat) (O : Orc) : Prop := σ.1 o 0 = nI (oP O) ∧ σ.1 o 1 = nI (oT O) ∧
  (∀ p, p < oP O → σ.1 (o + 1) p = nI (oS O p) ∧ σ.1 (o + 2) p = nI (oG O p) ∧ σ.1 (o + 3) p = nI (oL O p) ∧ σ.1 (o + 4) p = nI (oC O p) ∧ σ.1 (o + 5) p = nI (oQ O p)) ∧
  (∀ t, t < oT O → σ.1 (o + 6) t = nI (oH O t) ∧ σ.1 (o + 7) t = nI (oR O t) ∧ σ.1 (o + 8) t = nI (oB O t))
theorem s_hasHalf {σ : St} {o n : Nat} {p : Int32} {P : Int32 → Prop} (ho : isO o) (h0 : σ.1 o 0 = nI n) (hn : n ≤ 8) (hP : P (bI (inR p n))) : wX3_hasHalf σ o p P := by
  unfold wX3_hasHalf
  rw [h0]
  refine ⟨ho, fun c => ?_, fun c => ⟨fun c2 => ?_, fun c2 => ?_⟩⟩
  · rw [inR_lt0 c] at hP; exact hP
  · rw [inR_ge (by omega) c2] at hP; exact hP
  · rw [inR_in (by omega) c c2] at hP; exact hP
theorem s_hasTree {σ : St} {o n : Nat} {p : Int32} {P : Int32 → Prop} (ho : isO o) (h0 : σ.1 o 1 = nI n) (hn : n ≤ 8) (hP : P (bI (inR p n))) : wX3_hasTree σ o p P := by
  unfold wX3_hasTree
  rw [h0]
  refine ⟨ho, fun c => ?_, fun c => ⟨fun c2 => ?_, fun c2 => ?_⟩⟩
  · rw [inR_lt0 c] at hP; exact hP
  · rw [inR_ge (by omega) c2] at hP; exact hP
  · rw [inR_in (by omega) c c2] at hP; exact hP
/-- bits -/
theorem sh_l {k : Nat} (h : k < 31) : ((nI k &&& 31).toBitVec.smod 32).toNat = k := by
  have H : ∀ k, k < 31 → ((nI k &&& 31).toBitVec.smod 32).toNat = k := by decide
  exact H k h
theorem shl1 {k : Nat} (h : k < 31) : (1 : Int32) <<< (nI k &&& 31) = nI (2 ^ k) := by
  have h1 : 2 ^ k < 2 ^ 31 := Nat.pow_lt_pow_right (by omega) h
  have := pk_shlN (n := 1) (nI k &&& 31) k (sh_l h) (by omega)
  rw [Nat.one_mul] at this
  exact this
theorem andN (a b : Nat) : nI a &&& nI b = nI (a &&& b) := by
  apply Int32.toBitVec_inj.mp
  show BitVec.ofNat 32 a &&& BitVec.ofNat 32 b = BitVec.ofNat 32 (a &&& b)
  exact BitVec.ofNat_and.symm
theorem orN (a b : Nat) : nI a ||| nI b = nI (a ||| b) := by
  apply Int32.toBitVec_inj.mp
  show BitVec.ofNat 32 a ||| BitVec.ofNat 32 b = BitVec.ofNat 32 (a ||| b)
  exact BitVec.ofNat_or.symm
theorem bitN {m k : Nat} (hm : m < 2 ^ 31) (hk : k < 31) : ((nI m) >>> (nI k &&& 31)) &&& (1 : Int32) = bI (m.testBit k) := by
  rw [pk_shrN hm (nI k &&& 31) k (sh_l hk), show (1 : Int32) = nI 1 from rfl, andN, Nat.and_one_is_mod]
  rw [Nat.testBit_eq_decide_div_mod_eq]
  rcases Nat.mod_two_eq_zero_or_one (m / 2 ^ k) with h | h <;> rw [h] <;> rfl
theorem s_couldFit {σ : St} {o : Nat} {O : Orc} {a b : Nat} {P : Int32 → Prop} (ho : isO o) (hO : orC σ o O) (hk : oOk O) (ha : a < oP O) (hb : b < oP O) (hP : P (bI (oU O a b))) : wX3_couldFit σ o (nI a) (nI b) P := by
  have h8 := hk.1
  unfold wX3_couldFit
  refine ⟨ho, s_hasHalf ho hO.1 h8 ?_⟩
  rw [inR_nI (by omega), decide_eq_true ha]
  refine ⟨fun c => absurd c nb0, fun _ => s_hasHalf ho hO.1 h8 ?_⟩
  rw [inR_nI (by omega), decide_eq_true hb]
  refine ⟨fun c => absurd c nb0, fun _ => ?_⟩
  have sa := (hk.2.2.1 a ha).1
  have sb := (hk.2.2.1 b hb).1
  have qa := (hk.2.2.1 a ha).2.2.2.2
  refine ⟨vp_in_nI (by omega) (by omega), vp_in_nI (by omega) (by omega), ?_⟩
  rw [cl (by omega), cl (by omega), (hO.2.2.1 a ha).1, (hO.2.2.1 b hb).1, (hO.2.2.1 a ha).2.2.2.2, bitN (by omega) (by omega)]
  refine ⟨fun c => ?_, fun c => ⟨vp_in_nI (by omega) (by omega), ?_⟩⟩
  · have e := (nI_eq (by omega) (by omega)).mp c
    rw [show oU O a b = false by simp [oU, e]] at hP
    exact hP
  · have e : oS O a ≠ oS O b := fun q => c (by rw [q])
    refine ⟨fun c2 => ?_, fun c2 => ?_⟩
    · rw [show oU O a b = false by simp [oU, bI_ne.mp c2]] at hP; exact hP
    · rw [show oU O a b = true by simp [oU, e, bI_eq0.mp c2]] at hP; exact hP
theorem s_fits {σ : St} {o : Nat} {O : Orc} {a b : Nat} {P : Int32 → Prop} (ho : isO o) (hO : orC σ o O) (hk : oOk O) (ha : a < oP O) (hb : b < oP O) (hP : P (bI (oF O a b))) : wX3_fits σ o (nI a) (nI b) P := by
  have h8 := hk.1
  have ga := (hk.2.2.1 a ha).2.1
  have gb := (hk.2.2.1 b hb).2.1
  unfold wX3_fits
  refine ⟨ho, s_couldFit ho hO hk ha hb ?_⟩
  rw [cl (by omega), cl (by omega), (hO.2.2.1 a ha).2.1, (hO.2.2.1 b hb).2.1]
  refine br_b (fun e => ?_) (fun e => ⟨vp_in_nI (by omega) (by omega), vp_in_nI (by omega) (by omega), fun c => ?_, fun c => ?_⟩)
  · rw [show oF O a b = false by simp [oF, e]] at hP; exact hP
  · have c' : ¬ oG O a = oG O b := fun q => c (by rw [q])
    rw [show oF O a b = false by simp [oF, c']] at hP; exact hP
  · have q := (nI_eq (by omega) (by omega)).mp c
    rw [show oF O a b = true by simp [oF, e, q]] at hP; exact hP
theorem s_isRipe {σ : St} {o : Nat} {O : Orc} {t d : Nat} {P : Int32 → Prop} (ho : isO o) (hO : orC σ o O) (hk : oOk O) (ht : t < oT O) (hd : d < 100) (hP : P (bI (decide (oR O t ≤ d) && decide (d ≤ oR O t + 3)))) : wX3_isRipe σ o (nI t) (nI d) P := by
  have h5 := hk.2.1
  have r := (hk.2.2.2.2 t ht).2.1
  unfold wX3_isRipe
  refine ⟨ho, s_hasTree ho hO.2.1 (by omega) ?_⟩
  rw [inR_nI (by omega), decide_eq_true ht, cl (by omega), (hO.2.2.2 t ht).2.1]
  refine ⟨fun c => absurd c nb0, fun _ => ⟨vp_in_nI (by omega) (by omega), fun c => ?_, fun c => ⟨vp_in_nI (by omega) (by omega), fun c2 => ?_, fun c2 => ?_⟩⟩⟩
  · have c := (nI_ltI (by omega) (by omega)).mp c
    rw [show (decide (oR O t ≤ d) && decide (d ≤ oR O t + 3)) = false by simp; omega] at hP; exact hP
  · have c2 := (ltI (a := oR O t + 3) (nI_add _ 3) rfl (by omega) (by omega)).mp c2
    rw [show (decide (oR O t ≤ d) && decide (d ≤ oR O t + 3)) = false by simp; omega] at hP; exact hP
  · have c : ¬ d < oR O t := fun q => c ((nI_ltI (by omega) (by omega)).mpr q)
    have c2 : ¬ oR O t + 3 < d := fun q => c2 ((ltI (a := oR O t + 3) (nI_add _ 3) rfl (by omega) (by omega)).mpr q)
    rw [show (decide (oR O t ≤ d) && decide (d ≤ oR O t + 3)) = true by simp; omega] at hP; exact hP
theorem pow2m1 {n : Nat} (h : n ≤ 8) : ((1 : Int32) <<< (nI n &&& 31)) - (1 : Int32) = nI (2 ^ n - 1) := by
  have H : ∀ n, n < 9 → ((1 : Int32) <<< (nI n &&& 31)) - (1 : Int32) = nI (2 ^ n - 1) := by decide
  exact H n (by omega)
theorem s_everybody {σ : St} {o n : Nat} {P : Int32 → Prop} (ho : isO o) (h0 : σ.1 o 0 = nI n) (hn : n ≤ 8) (hP : P (nI (2 ^ n - 1))) : wX3_everybody σ o P := by
  unfold wX3_everybody
  rw [h0, pow2m1 hn]
  exact ⟨ho, hP⟩
