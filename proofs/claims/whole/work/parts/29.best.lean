/-! BEST -/
/-- a pair may climb tree t, when some are taken; what that and the rest bring -/
def cB (O : Orc) (N : Nw) (t taken : Nat) (q : Nat × Nat) : Bool := decide (0 < pkN O N q t) && decide (taken &&& two q = 0)
def Dr (O : Orc) (N : Nw) : Nat → Nat → Nat
  | 0, _ => 0
  | j + 1, taken => mxQ (cB O N (oT O - (j + 1)) taken) (fun q => pkN O N q (oT O - (j + 1)) + Dr O N j (taken ||| two q)) (prs O) (Dr O N j taken)
/-- the most that tree t and those behind it bring -/
def D_ (O : Orc) (N : Nw) (t taken : Nat) : Nat := Dr O N (oT O - t) taken
def fB (O : Orc) (N : Nw) (t taken : Nat) (q : Nat × Nat) : Nat := pkN O N q t + D_ O N (t + 1) (taken ||| two q)
theorem D_end (O : Orc) (N : Nw) {t : Nat} (h : oT O ≤ t) (taken : Nat) : D_ O N t taken = 0 := by
  unfold D_
  rw [show oT O - t = 0 by omega]
  rfl
theorem D_st (O : Orc) (N : Nw) {t : Nat} (h : t < oT O) (taken : Nat) : D_ O N t taken = mxQ (cB O N t taken) (fB O N t taken) (prs O) (D_ O N (t + 1) taken) := by
  unfold D_
  rw [show oT O - t = (oT O - (t + 1)) + 1 by omega, Dr, show oT O - (oT O - (t + 1) + 1) = t by omega]
  rfl
theorem pkN_le {O : Orc} (hk : oOk O) {N : Nw} {a b t : Nat} (ha : a < oP O) (hb : b < oP O) : pkN O N (a, b) t ≤ 18 := by
  have A := (hk.2.2.1 a ha).2.2.2.1
  have B := (hk.2.2.1 b hb).2.2.2.1
  unfold pkN
  split
  · show min (oC O a + oC O b) (nB N t) ≤ 18; omega
  · omega
theorem D_le {O : Orc} (hk : oOk O) (N : Nw) : ∀ j taken, Dr O N j taken ≤ 18 * j := by
  intro j
  induction j with
  | zero => intro taken; exact Nat.le_refl _
  | succ j ih =>
    intro taken
    rw [Dr]
    rcases (mxQ_max (cB O N (oT O - (j + 1)) taken) (fun q => pkN O N q (oT O - (j + 1)) + Dr O N j (taken ||| two q)) (prs O) (Dr O N j taken)).1 with e | ⟨⟨a, b⟩, hq, -, e⟩
    · rw [e]; have := ih taken; omega
    · obtain ⟨ha, hb, -, -⟩ := prs_mem.mp hq
      have := pkN_le hk (N := N) (t := oT O - (j + 1)) ha hb
      have := ih (taken ||| two (a, b))
      rw [e]
      show pkN O N (a, b) (oT O - (j + 1)) + Dr O N j (taken ||| two (a, b)) ≤ _
      omega
theorem D_lt {O : Orc} (hk : oOk O) (N : Nw) (t taken : Nat) : D_ O N t taken ≤ 90 := by
  have := D_le hk N (oT O - t) taken
  have := hk.2.1
  unfold D_
  omega
/-- sets that can be taken ahead of tree t -/
def rS (O : Orc) (t taken : Nat) : Bool := decide (popN taken ≤ 2 * t) && decide (popN taken = 2 * popN (taken &&& allL O (oP O)))
theorem allL_bit (O : Orc) : ∀ i k, (allL O i).testBit k = (decide (k < i) && decide (oS O k = 0)) := by
  intro i k
  induction i with
  | zero => rw [allL, Nat.zero_testBit]; simp
  | succ i ih =>
    rw [allL]
    by_cases h : oS O i = 0
    · rw [if_pos h, Nat.testBit_or, tb_pow, ih]
      by_cases e : i = k
      · subst e; simp [h]
      · have : (k < i + 1) ↔ k < i := by omega
        simp [e, this]
    · rw [if_neg h, ih]
      by_cases e : i = k
      · subst e; simp [h]
      · have : (k < i + 1) ↔ k < i := by omega
        simp [this]
theorem and2_bit {taken a b : Nat} (h : taken &&& (2 ^ a ||| 2 ^ b) = 0) : taken.testBit a = false ∧ taken.testBit b = false := by
  have g : ∀ i, (taken &&& (2 ^ a ||| 2 ^ b)).testBit i = false := fun i => by rw [h, Nat.zero_testBit]
  constructor
  · have := g a; rw [Nat.testBit_and, Nat.testBit_or, tb_pow] at this; simpa using this
  · have := g b; rw [Nat.testBit_and, Nat.testBit_or, tb_pow, tb_pow] at this; simpa using this
theorem rS_next {O : Orc} {t taken : Nat} (h : rS O t taken = true) : rS O (t + 1) taken = true := by
  unfold rS at h ⊢
  simp only [Bool.and_eq_true, decide_eq_true_eq] at h ⊢
  omega
theorem taken_lt {O : Orc} {taken a b : Nat} (h : taken < 2 ^ oP O) (ha : a < oP O) (hb : b < oP O) : taken ||| (2 ^ a ||| 2 ^ b) < 2 ^ oP O :=
  Nat.or_lt_two_pow h (Nat.or_lt_two_pow (Nat.pow_lt_pow_right (by omega) ha) (Nat.pow_lt_pow_right (by omega) hb))
theorem rS_pair {O : Orc} (hk : oOk O) {t taken a b : Nat} (ht : taken < 2 ^ oP O) (hq : (a, b) ∈ prs O) (h : rS O t taken = true) (hd : taken &&& (2 ^ a ||| 2 ^ b) = 0) : rS O (t + 1) (taken ||| (2 ^ a ||| 2 ^ b)) = true := by
  have h8 := hk.1
  have p8 := pow8 h8
  obtain ⟨ha, hb, hs, hf⟩ := prs_mem.mp hq
  obtain ⟨ta, tb⟩ := and2_bit hd
  have hne : a ≠ b := fun e => oF_side hf (by rw [e])
  have hsb : oS O b ≠ 0 := fun e => oF_side hf (by rw [hs, e])
  have tl : taken ||| 2 ^ a < 256 := Nat.or_lt_two_pow (n := 8) (by omega) (pow2_lt8 (by omega))
  have e1 := pop_or (s := taken) (a := a) (by omega) (by omega) ta
  have e2 := pop_or (s := taken ||| 2 ^ a) (a := b) tl (by omega) (by rw [Nat.testBit_or, tb_pow, tb]; simp [hne])
  have e3 : (taken ||| (2 ^ a ||| 2 ^ b)) &&& allL O (oP O) = (taken &&& allL O (oP O)) ||| 2 ^ a := nat_ext fun i => by
    rw [Nat.testBit_and, Nat.testBit_or, Nat.testBit_or, Nat.testBit_or, Nat.testBit_and, tb_pow, tb_pow, allL_bit]
    by_cases q1 : a = i
    · subst q1; simp [ha, hs]
    · by_cases q2 : b = i
      · subst q2; simp [hsb, hne, q1]
      · simp [q1, q2]
  have e4 := pop_or (s := taken &&& allL O (oP O)) (a := a) (by have : taken &&& allL O (oP O) ≤ taken := Nat.and_le_left; omega) (by omega) (by rw [Nat.testBit_and, ta]; rfl)
  rw [Nat.or_assoc] at e2
  unfold rS at h ⊢
  simp only [Bool.and_eq_true, decide_eq_true_eq] at h ⊢
  rw [e3, e4, e2, e1]
  omega
/-! the class's -/
def gaC (σ : St) (O : Orc) (N : Nw) (t : Nat) : Prop := ∀ (i a b : Nat), (prs O)[i]? = some (a, b) → σ.1 (53 + t) i = nI (pkN O N (a, b) t)
def moC (σ : St) (O : Orc) (N : Nw) (t : Nat) : Prop := ∀ taken, taken < 2 ^ oP O → rS O t taken = true → σ.1 (59 + t) taken = nI (D_ O N t taken)
theorem s_canBeTaken {σ : St} {O : Orc} {taken t : Nat} {P : Int32 → Prop} (hk : oOk O) (hL : σ.1 25 1 = nI (allL O (oP O))) (ht : taken < 2 ^ oP O) (h5 : t ≤ 5) (hP : P (bI (rS O t taken))) : wX5_canBeTaken σ (nI taken) (nI t) P := by
  have h8 := hk.1
  have p8 := pow8 h8
  have q1 := pop_P h8 ht
  have al : taken &&& allL O (oP O) ≤ taken := Nat.and_le_left
  have q2 := pop_P h8 (show taken &&& allL O (oP O) < 2 ^ oP O by omega)
  unfold wX5_canBeTaken
  rw [hL, andN, show (2 : Int32) = nI 2 from rfl, pk_mul]
  refine s_bitCount (by omega) ⟨fun c => ?_, fun c => s_bitCount (by omega) ?_⟩
  · have c := (nI_ltI (by omega) (by omega)).mp c
    rw [show rS O t taken = false by unfold rS; simp; omega] at hP; exact hP
  · have c : ¬ 2 * t < popN taken := fun q => c (nI_lt q (by omega))
    rw [pk_mul]
    refine ⟨fun c2 => ?_, fun c2 => ?_⟩
    · have c2 : ¬ popN taken = 2 * popN (taken &&& allL O (oP O)) := fun q => c2 (by rw [← q])
      rw [show rS O t taken = false by unfold rS; simp; omega] at hP; exact hP
    · have c2 := (nI_eq (by omega) (by omega)).mp c2
      rw [show rS O t taken = true by unfold rS; simp; omega] at hP; exact hP
theorem s_canClimb {σ : St} {O : Orc} {N : Nw} {i a b taken t : Nat} {P : Int32 → Prop} (hk : oOk O) (hp : prC σ O (prs O)) (hg : gaC σ O N t) (hi : (prs O)[i]? = some (a, b)) (ht : taken < 256) (h5 : t < 5) (hP : P (bI (cB O N t taken (a, b)))) : wX5_canClimb σ (nI i) (nI taken) (nI t) P := by
  have hl := prs_len hk
  have hil : i < (prs O).length := (List.getElem?_eq_some_iff.mp hi).1
  obtain ⟨ha, hb, -, -⟩ := prs_at hi
  have pl := pkN_le hk (N := N) (t := t) ha hb
  obtain ⟨-, -, q2, -, -, -⟩ := hp.2 i a b hi
  unfold wX5_canClimb
  rw [cl (by omega), cl (by omega), hg i a b hi, q2, and0 (by omega)]
  refine ⟨vp_in_nI (by omega) (by omega), vp_in_nI (by omega) (by omega), fun c => ?_, fun c => ⟨vp_in_nI (by omega) (by omega), fun c2 => ?_, fun c2 => ?_⟩⟩
  · have c := (leI rfl (b := 0) rfl (by omega) (by omega)).mp c
    rw [show cB O N t taken (a, b) = false by unfold cB; simp; omega] at hP; exact hP
  · rw [show cB O N t taken (a, b) = false by unfold cB two; simp [c2]] at hP; exact hP
  · have c : ¬ pkN O N (a, b) t ≤ 0 := fun q => c ((leI rfl (b := 0) rfl (by omega) (by omega)).mpr q)
    rw [show cB O N t taken (a, b) = true by unfold cB two; simp only [Bool.and_eq_true, decide_eq_true_eq]; exact ⟨by omega, c2⟩] at hP; exact hP
theorem s_with {σ : St} {O : Orc} {N : Nw} {i a b taken t : Nat} {P : Int32 → Prop} (hk : oOk O) (hp : prC σ O (prs O)) (hg : gaC σ O N t) (hm : moC σ O N (t + 1)) (hi : (prs O)[i]? = some (a, b)) (ht : taken < 2 ^ oP O) (hr : rS O t taken = true) (hc : cB O N t taken (a, b) = true) (h5 : t < 5) (hP : P (nI (fB O N t taken (a, b)))) : wX5_with σ (nI i) (nI taken) (nI t) P := by
  have h8 := hk.1
  have p8 := pow8 h8
  have hl := prs_len hk
  have hil : i < (prs O).length := (List.getElem?_eq_some_iff.mp hi).1
  obtain ⟨ha, hb, -, -⟩ := prs_at hi
  obtain ⟨-, -, q2, -, -, -⟩ := hp.2 i a b hi
  unfold cB at hc
  simp only [Bool.and_eq_true, decide_eq_true_eq] at hc
  have tl := taken_lt ht ha hb
  have rr := rS_pair hk ht (List.mem_of_getElem? hi) hr hc.2
  unfold wX5_with
  rw [add1, cl (by omega), cl (by omega), cl (by omega), hg i a b hi, q2, orN, cl (by omega), hm _ tl rr, nI_add]
  exact ⟨vp_in_nI (by omega) (by omega), vp_in_nI (by omega) (by omega), vp_in_nI (by omega) (by omega), vp_in_nI (by omega) (by omega), vp_in_nI (by omega) (by omega), hP⟩
theorem s_mostFrom {σ : St} {O : Orc} {N : Nw} {taken t : Nat} {P : Int32 → Prop} (hk : oOk O) (hp : prC σ O (prs O)) (hg : gaC σ O N t) (hm : moC σ O N (t + 1)) (ht : taken < 2 ^ oP O) (hr : rS O t taken = true) (htT : t < oT O) (hP : P (nI (D_ O N t taken))) : wX5_mostFrom σ (nI taken) (nI t) P := by
  have h8 := hk.1
  have h5 := hk.2.1
  have p8 := pow8 h8
  have hl := prs_len hk
  unfold wX5_mostFrom
  rw [add1, cl (by omega), cl (by omega), hm taken ht (rS_next hr)]
  refine ⟨vp_in_nI (by omega) (by omega), vp_in_nI (by omega) (by omega), fun z3 h3 => ⟨(prs O).length + 1, ?_⟩⟩
  subst h3
  have step : ∀ (l : List (Nat × Nat)) (i acc : Nat), (prs O).drop i = l → i + l.length = (prs O).length → acc ≤ 200 → mxQ (cB O N t taken) (fB O N t taken) l acc = D_ O N t taken → wLX5_mostFrom_15 (nI taken) (nI t) σ (fun y11 => P y11) P (l.length + 1) (nI acc) (nI i) := by
    intro l
    induction l with
    | nil =>
      intro i acc hd hi ha he
      rw [wLX5_mostFrom_15, hp.1]
      have := drop_nil hd
      rw [mxQ] at he
      exact ⟨fun _ => by rw [he]; exact hP, fun c => absurd (nI_le this (by simp at hi; omega)) c⟩
    | cons q l ih =>
      intro i acc hd hi ha he
      obtain ⟨x1, y1⟩ := q
      obtain ⟨d1, d2, d3⟩ := drop_cons hd
      rw [mxQ] at he
      have hlen : l.length + (i + 1) = (prs O).length := by simp at hi; omega
      show wLX5_mostFrom_15 _ _ σ _ P ((l.length + 1) + 1) (nI acc) (nI i)
      rw [wLX5_mostFrom_15, hp.1]
      refine ⟨fun c => absurd c (nI_ge d3 (by omega)), fun _ => s_canClimb hk hp hg d1 (by omega) (by omega) (br_b (fun f z hz => ?_) (fun f => s_with hk hp hg hm d1 ht hr f (by omega) (fun z hz z10 hz10 => ?_)))⟩
      · rw [hz, add1]
        rw [if_neg (by rw [f]; decide)] at he
        exact ih (i + 1) acc d2 (by omega) ha he
      · rw [if_pos f] at he
        obtain ⟨ha1, hb1, -, -⟩ := prs_at d1
        have b1 := pkN_le hk (N := N) (t := t) ha1 hb1
        have b2 := D_lt hk N (t + 1) (taken ||| two (x1, y1))
        have b3 : fB O N t taken (x1, y1) ≤ 108 := by unfold fB; omega
        rw [maxI (by omega) (by omega)] at hz
        rw [hz, hz10, add1]
        exact ih (i + 1) _ d2 (by omega) (by omega) he
  exact step (prs O) 0 (D_ O N (t + 1) taken) rfl (by omega) (by have := D_lt hk N (t + 1) taken; omega) (D_st O N htT taken).symm
