/-! the class's wholes -/
theorem oF_comm {O : Orc} (hk : oOk O) {a b : Nat} (ha : a < oP O) (hb : b < oP O) : oF O a b = oF O b a := by
  have hq : (oQ O a).testBit b = (oQ O b).testBit a := by
    cases h1 : (oQ O a).testBit b <;> cases h2 : (oQ O b).testBit a
    · rfl
    · have := (hk.2.2.2.1 b a hb h2).2.2; rw [h1] at this; cases this
    · have := (hk.2.2.2.1 a b ha h1).2.2; rw [h2] at this; cases this
    · rfl
  unfold oF oU
  rw [hq, show decide (oS O a ≠ oS O b) = decide (oS O b ≠ oS O a) from decide_eq_decide.mpr ⟨fun h q => h q.symm, fun h q => h q.symm⟩, show decide (oG O a = oG O b) = decide (oG O b = oG O a) from decide_eq_decide.mpr ⟨Eq.symm, Eq.symm⟩]
theorem and_pow (m a : Nat) : m &&& 2 ^ a ≠ 0 ↔ m.testBit a = true := by
  constructor
  · intro h
    cases q : m.testBit a with
    | true => rfl
    | false =>
      refine absurd (nat_ext fun i => ?_) h
      rw [Nat.testBit_and, tb_pow, Nat.zero_testBit]
      by_cases e : a = i
      · subst e; rw [q]; rfl
      · simp [e]
  · intro h q
    have : (m &&& 2 ^ a).testBit a = true := by rw [Nat.testBit_and, tb_pow, h]; simp
    rw [q, Nat.zero_testBit] at this
    cases this
theorem two_bit (q : Nat × Nat) (i : Nat) : (two q).testBit i = (decide (q.1 = i) || decide (q.2 = i)) := by
  unfold two
  rw [Nat.testBit_or, tb_pow, tb_pow]
theorem and_sub (m s : Nat) : m &&& s = m ↔ ∀ i, m.testBit i = true → s.testBit i = true := by
  constructor
  · intro h i hi
    rw [← h, Nat.testBit_and, Bool.and_eq_true] at hi
    exact hi.2
  · intro h
    apply nat_ext
    intro i
    rw [Nat.testBit_and]
    cases q : m.testBit i with
    | false => rfl
    | true => rw [h i q]; rfl
theorem W_le {O : Orc} (hk : oOk O) : ∀ s, s < 256 → W_ O s ≤ 20 * s := by
  intro s
  induction s using Nat.strongRecOn with
  | _ s ih =>
    intro hs
    by_cases h0 : s = 0
    · subst h0; exact Nat.le_refl _
    · rw [W_rec hk hs h0]
      have l1 := lowb_lt hs h0
      have l2 := sd_lt hs l1 (lowb_bit hs h0)
      have h8 := hk.1
      unfold wSt
      rcases (mxL_max (fun b => (sd s (2 ^ lowb s)).testBit b && oF O (lowb s) b) (fun b => oC O (lowb s) + oC O b + W_ O (sd (sd s (2 ^ lowb s)) (2 ^ b))) (oP O - (lowb s + 1)) (lowb s + 1) (W_ O (sd s (2 ^ lowb s)))).1 with e | ⟨j, h1, h2, h3, e⟩
      · rw [e]; have := ih _ l2 (by omega); omega
      · rw [e]
        have := sd_le (s := sd s (2 ^ lowb s)) (a := j) (by omega) (by omega)
        have := ih (sd (sd s (2 ^ lowb s)) (2 ^ j)) (by omega) (by omega)
        have c1 := (hk.2.2.1 j (by omega)).2.2.2.1
        have c2 := (hk.2.2.1 (lowb s) (by omega)).2.2.2.1
        omega
def cQ (s : Nat) (q : Nat × Nat) : Bool := decide (two q &&& 2 ^ lowb s ≠ 0) && decide (two q &&& s = two q)
def fQ (O : Orc) (s : Nat) (q : Nat × Nat) : Nat := oC O q.1 + oC O q.2 + W_ O (sd s (two q))
theorem bit_lt {s P i : Nat} (h : s < 2 ^ P) (hi : s.testBit i = true) : i < P := by
  rcases Nat.lt_or_ge i P with q | q
  · exact q
  · have : s < 2 ^ i := Nat.lt_of_lt_of_le h (Nat.pow_le_pow_right (by omega) q)
    rw [Nat.testBit_lt_two_pow this] at hi; cases hi
theorem W_Q {O : Orc} (hk : oOk O) {s : Nat} (hs : s < 2 ^ oP O) (h0 : s ≠ 0) : mxQ (cQ s) (fQ O s) (prs O) (W_ O (sd s (2 ^ lowb s))) = W_ O s := by
  have h8 := hk.1
  have hs8 : s < 256 := Nat.lt_of_lt_of_le hs (Nat.pow_le_pow_right (n := 2) (j := 8) (by omega) h8)
  rw [W_rec hk hs8 h0]
  unfold wSt
  have la := lowb_bit hs8 h0
  have lP := bit_lt hs la
  refine isMax_u (mxQ_max _ _ _ _) (mxL_max _ _ _ _ _) (fun x => or_congr Iff.rfl ⟨?_, ?_⟩)
  · rintro ⟨⟨x1, y1⟩, hq, hc, rfl⟩
    obtain ⟨hx, hy, hs0, hf⟩ := prs_mem.mp hq
    unfold cQ at hc
    rw [Bool.and_eq_true, decide_eq_true_eq, decide_eq_true_eq, and_pow, and_sub, two_bit] at hc
    obtain ⟨hc1, hc2⟩ := hc
    have bx : s.testBit x1 = true := hc2 x1 (by rw [two_bit]; simp)
    have by' : s.testBit y1 = true := hc2 y1 (by rw [two_bit]; simp)
    have hne : x1 ≠ y1 := fun e => oF_side hf (by rw [e])
    have low : ∀ j, s.testBit j = true → j ≠ lowb s → lowb s + 1 ≤ j := fun j hj hn => by
      rcases Nat.lt_or_ge j (lowb s) with q | q
      · rw [lowb_min hs8 h0 q] at hj; cases hj
      · omega
    simp only [Bool.or_eq_true, decide_eq_true_eq] at hc1
    rcases hc1 with rfl | rfl
    · refine ⟨y1, low y1 by' (fun e => hne e.symm), by omega, ?_, ?_⟩
      · rw [Bool.and_eq_true, sd_bit, tb_pow, by', hf]; simp [hne]
      · show _ = oC O (lowb s) + oC O y1 + _; rw [← sd_or]; rfl
    · refine ⟨x1, low x1 bx hne, by omega, ?_, ?_⟩
      · rw [Bool.and_eq_true, sd_bit, tb_pow, bx, oF_comm hk hy hx, hf]; simp; exact fun e => hne e.symm
      · show oC O x1 + oC O (lowb s) + _ = oC O (lowb s) + oC O x1 + _; rw [← sd_or', Nat.add_comm (oC O x1)]; rfl
  · rintro ⟨b, h1, h2, h3, rfl⟩
    rw [Bool.and_eq_true, sd_bit, tb_pow, Bool.and_eq_true] at h3
    obtain ⟨⟨hb, -⟩, hf⟩ := h3
    have hbP : b < oP O := by omega
    have hsd := oF_side hf
    have sa := (hk.2.2.1 (lowb s) lP).1
    have sb := (hk.2.2.1 b hbP).1
    by_cases e : oS O (lowb s) = 0
    · refine ⟨(lowb s, b), prs_mem.mpr ⟨lP, hbP, e, hf⟩, ?_, ?_⟩
      · unfold cQ
        rw [Bool.and_eq_true, decide_eq_true_eq, decide_eq_true_eq, and_pow, and_sub, two_bit]
        refine ⟨by simp, fun i hi => ?_⟩
        rw [two_bit] at hi
        simp only [Bool.or_eq_true, decide_eq_true_eq] at hi
        rcases hi with rfl | rfl
        · exact la
        · exact hb
      · show _ = oC O (lowb s) + oC O b + _; rw [← sd_or]; rfl
    · refine ⟨(b, lowb s), prs_mem.mpr ⟨hbP, lP, by omega, by rw [oF_comm hk hbP lP]; exact hf⟩, ?_, ?_⟩
      · unfold cQ
        rw [Bool.and_eq_true, decide_eq_true_eq, decide_eq_true_eq, and_pow, and_sub, two_bit]
        refine ⟨by simp, fun i hi => ?_⟩
        rw [two_bit] at hi
        simp only [Bool.or_eq_true, decide_eq_true_eq] at hi
        rcases hi with rfl | rfl
        · exact hb
        · exact la
      · show _ = oC O b + oC O (lowb s) + _; rw [← sd_or', Nat.add_comm (oC O b)]; rfl
theorem drop_cons {α : Type} {l t : List α} {q : α} {i : Nat} (h : l.drop i = q :: t) : l[i]? = some q ∧ l.drop (i + 1) = t ∧ i < l.length := by
  have hi : i < l.length := by
    rcases Nat.lt_or_ge i l.length with q1 | q1
    · exact q1
    · rw [List.drop_eq_nil_of_le q1] at h; cases h
  rw [List.drop_eq_getElem_cons hi] at h
  injection h with h1 h2
  exact ⟨by rw [List.getElem?_eq_getElem hi, h1], h2, hi⟩
theorem drop_nil {α : Type} {l : List α} {i : Nat} (h : l.drop i = []) : l.length ≤ i := List.drop_eq_nil_iff.mp h
theorem in0 {n : Nat} (h : 0 < n) (hn : n < 2 ^ 31) : vp_in (0 : Int32) n := vp_in_nI (n := 0) h hn
theorem toN0 : (0 : Int32).toNatClampNeg = 0 := rfl
theorem pow8 {n : Nat} (h : n ≤ 8) : 2 ^ n ≤ 256 := Nat.pow_le_pow_right (n := 2) (j := 8) (by omega) h
theorem s_wholeOf {σ : St} {O : Orc} {s : Nat} {P : Int32 → Prop} (hk : oOk O) (hp : prC σ O (prs O)) (hs : s < 2 ^ oP O) (h0 : s ≠ 0) (hT : ∀ r, r < s → σ.1 33 r = nI (W_ O r)) (hP : P (nI (W_ O s))) : wX7_wholeOf σ (nI s) P := by
  have h8 := hk.1
  have p8 := pow8 h8
  have la := lowb_lt (by omega) h0
  have lb := sd_lt (by omega) la (lowb_bit (by omega) h0)
  have hl := prs_len hk
  have wl := W_le hk
  unfold wX7_wholeOf
  rw [lowb_neg (by omega) h0]
  intro z1 h1
  subst h1
  rw [sdI, cl (by omega), hT _ lb]
  refine ⟨vp_in_nI (by omega) (by omega), fun z3 h3 => ⟨(prs O).length + 1, ?_⟩⟩
  subst h3
  have step : ∀ (l : List (Nat × Nat)) (i acc : Nat), (prs O).drop i = l → i + l.length = (prs O).length → acc < 10000 → mxQ (cQ s) (fQ O s) l acc = W_ O s → wLX7_wholeOf_20 (nI s) (nI (2 ^ lowb s)) σ (fun y15 => P y15) P (l.length + 1) (nI acc) (nI i) := by
    intro l
    induction l with
    | nil =>
      intro i acc hd hi ha he
      rw [wLX7_wholeOf_20, hp.1]
      have := drop_nil hd
      refine ⟨fun _ => ?_, fun c => absurd (nI_le this (by simp at hi; omega)) c⟩
      rw [mxQ] at he
      show P (nI acc); rw [he]; exact hP
    | cons q l ih =>
      intro i acc hd hi ha he
      obtain ⟨x1, y1⟩ := q
      obtain ⟨d1, d2, d3⟩ := drop_cons hd
      obtain ⟨-, -, q2, -, -, q5⟩ := hp.2 i x1 y1 d1
      obtain ⟨hx, hy, hs0, hf⟩ := prs_at d1
      have tl := two_lt (a := x1) (b := y1) (by omega) (by omega)
      have pl := pow2_lt8 la
      rw [mxQ] at he
      have hlen : l.length + (i + 1) = (prs O).length := by simp at hi; omega
      show wLX7_wholeOf_20 _ _ σ _ P ((l.length + 1) + 1) (nI acc) (nI i)
      rw [wLX7_wholeOf_20, hp.1, cl (by omega), q2, q5]
      refine ⟨fun c => absurd c (nI_ge d3 (by omega)), fun _ => ⟨vp_in_nI (by omega) (by omega), fun z6 h6 => ?_⟩⟩
      subst h6
      have two1 : two (x1, y1) = 2 ^ x1 ||| 2 ^ y1 := rfl
      rw [← two1] at tl ⊢
      rw [and0 (by omega), andN, nI_eq (by have : two (x1, y1) &&& s ≤ two (x1, y1) := Nat.and_le_left; omega) (by omega), sdI]
      refine ⟨fun c z hz => ?_, fun c => ⟨fun c2 z hz => ?_, fun c2 => ?_⟩⟩
      · rw [hz, add1]
        have : cQ s (x1, y1) = false := by unfold cQ; simp [c]
        rw [if_neg (by rw [this]; decide)] at he
        exact ih (i + 1) acc d2 (by omega) ha he
      · rw [hz, add1]
        have : cQ s (x1, y1) = false := by unfold cQ; simp [c2]
        rw [if_neg (by rw [this]; decide)] at he
        exact ih (i + 1) acc d2 (by omega) ha he
      · have hc : cQ s (x1, y1) = true := by unfold cQ; rw [Bool.and_eq_true, decide_eq_true_eq, decide_eq_true_eq]; exact ⟨c, c2⟩
        rw [if_pos hc] at he
        have hin := (and_sub _ _).mp c2
        have hsd : sd s (two (x1, y1)) < s := by
          rw [two1, sd_or]
          have g1 := sd_lt (s := s) (a := x1) (by omega) (by omega) (hin x1 (by rw [two_bit]; simp))
          have g2 := sd_le (s := sd s (2 ^ x1)) (a := y1) (by omega) (by omega)
          omega
        have wb := wl (sd s (two (x1, y1))) (by omega)
        have c1 := (hk.2.2.1 x1 hx).2.2.2.1
        have c2 := (hk.2.2.1 y1 hy).2.2.2.1
        rw [cl (by omega), hT _ hsd, nI_add]
        refine ⟨vp_in_nI (by omega) (by omega), vp_in_nI (by omega) (by omega), fun z hz z14 hz14 => ?_⟩
        rw [maxI (by omega) (by omega)] at hz
        rw [hz, hz14, add1]
        exact ih (i + 1) _ d2 (by omega) (by omega) he
  exact step (prs O) 0 (W_ O (sd s (2 ^ lowb s))) rfl (by omega) (by have := wl (sd s (2 ^ lowb s)) (by omega); omega) (W_Q hk hs h0)
theorem s_sums {σ : St} {o : Nat} {O : Orc} {P : St → Prop} (ho : isO o) (hO : orC σ o O) (hk : oOk O) (hp : prC σ O (prs O)) (hP : ∀ σ', frC [33] σ σ' → (∀ s, s < 2 ^ oP O → σ'.1 33 s = nI (W_ O s)) → P σ') : wX7_reckon σ o P := by
  have h8 := hk.1
  have p8 := pow8 h8
  have p1 : 1 ≤ 2 ^ oP O := Nat.one_le_two_pow
  unfold wX7_reckon
  refine ⟨ho, in0 (by omega) (by omega), fun σ2 h2 => ⟨2 ^ oP O, ?_⟩⟩
  have step : ∀ d s σ1, s + d = 2 ^ oP O → 0 < s → frC [33] σ σ1 → (∀ r, r < s → σ1.1 33 r = nI (W_ O r)) → wLX7_reckon_9 o (fun σ9 => P σ9) P (d + 1) σ1 (nI s) := by
    intro d
    induction d with
    | zero =>
      intro s σ1 hs hp0 hf hT
      rw [wLX7_reckon_9]
      have hO1 := orC_fr ho hO hf (by decide)
      refine s_everybody ho hO1.1 h8 ⟨fun _ => hP σ1 hf (by rw [show 2 ^ oP O = s by omega]; exact hT), fun c => absurd (nI_lt (by omega) (by omega)) c⟩
    | succ d ih =>
      intro s σ1 hs hp0 hf hT
      rw [wLX7_reckon_9]
      have hO1 := orC_fr ho hO hf (by decide)
      refine s_everybody ho hO1.1 h8 ⟨fun c => absurd c (nI_nlt (by omega) (by omega)), fun _ => ?_⟩
      refine s_wholeOf hk (prC_kept hp (fun k h1 h2 => hf.1 k (by simp; omega))) (by omega) (by omega) hT ⟨vp_in_nI (by omega) (by omega), fun σ7 h7 z hz => ?_⟩
      rw [cl (by omega)] at h7
      rw [hz, add1]
      refine ih (s + 1) σ7 (by omega) (by omega) (by rw [h7]; exact hf.wr (by simp)) (fun r hr => ?_)
      rw [h7, sI_get]
      by_cases e : r = s
      · subst e; simp
      · rw [if_neg (fun q => e q.2)]; exact hT r (by omega)
  have := step (2 ^ oP O - 1) 1 σ2 (by omega) (by omega) (by rw [h2]; exact frC.rf.wr (by simp)) (fun r hr => by
    rw [show r = 0 by omega, h2]; exact sI_at _ _ _ _)
  rw [show 2 ^ oP O - 1 + 1 = 2 ^ oP O by omega] at this
  exact this
