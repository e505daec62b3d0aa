/-! the reference's days: what it has of a day's numbers, from place s on -/
def nwM (μ : St) (s T : Nat) (N : Nw) : Prop := μ.1 12 s = nI (nD N) ∧ μ.1 12 (s + 1) = nP N ∧ μ.1 12 (s + 2) = nF N ∧ μ.1 12 (s + 3) = nI (nC N) ∧ μ.1 12 (s + 4) = nI (nK N) ∧ μ.1 12 (s + 5) = nL N ∧ ∀ t, t < T → μ.1 12 (s + 6 + t) = nI (nB N t)
theorem nwM_kept {μ μ' : St} {s T : Nat} {N : Nw} (h : nwM μ s T N) (hk : ∀ j, s ≤ j → j < s + 6 + T → μ'.1 12 j = μ.1 12 j) : nwM μ' s T N := by
  obtain ⟨a0, a1, a2, a3, a4, a5, a6⟩ := h
  exact ⟨by rw [hk _ (by omega) (by omega)]; exact a0, by rw [hk _ (by omega) (by omega)]; exact a1, by rw [hk _ (by omega) (by omega)]; exact a2, by rw [hk _ (by omega) (by omega)]; exact a3, by rw [hk _ (by omega) (by omega)]; exact a4, by rw [hk _ (by omega) (by omega)]; exact a5, fun t ht => by rw [hk _ (by omega) (by omega)]; exact a6 t ht⟩
theorem and_two (c a b : Nat) : c &&& (2 ^ a ||| 2 ^ b) = 0 ↔ c.testBit a = false ∧ c.testBit b = false := by
  constructor
  · exact and2_bit
  · rintro ⟨h1, h2⟩
    apply nat_ext
    intro i
    rw [Nat.testBit_and, Nat.testBit_or, tb_pow, tb_pow, Nat.zero_testBit]
    by_cases e1 : a = i
    · subst e1; rw [h1]; rfl
    · by_cases e2 : b = i
      · subst e2; rw [h2]; rfl
      · simp [e1, e2]
theorem pk_pos {O : Orc} (hk : oOk O) {N : Nw} {a b t : Nat} (ha : a < oP O) (hb : b < oP O) : 0 < pkN O N (a, b) t ↔ (oR O t ≤ nD N ∧ nD N ≤ oR O t + 3) ∧ (nK N).testBit t = false ∧ ((nC N).testBit a = false ∧ (nC N).testBit b = false) ∧ oH O t ≤ min (oL O a) (oL O b) ∧ 0 < nB N t := by
  have A := (hk.2.2.1 a ha).2.2.2.1
  have B := (hk.2.2.1 b hb).2.2.2.1
  unfold pkN
  rw [← and_two]
  constructor
  · intro h
    split at h
    · rename_i q
      simp only [Bool.and_eq_true, decide_eq_true_eq, Bool.not_eq_true'] at q
      obtain ⟨⟨⟨⟨q1, q2⟩, q3⟩, q4⟩, q5⟩ := q
      exact ⟨⟨q1, q2⟩, q3, q4, q5, Nat.lt_of_lt_of_le h (Nat.min_le_right _ _)⟩
    · omega
  · rintro ⟨⟨q1, q2⟩, q3, q4, q5, q6⟩
    rw [if_pos (by simp only [Bool.and_eq_true, decide_eq_true_eq, Bool.not_eq_true']; exact ⟨⟨⟨⟨q1, q2⟩, q3⟩, q4⟩, q5⟩)]
    show 0 < min (oC O a + oC O b) (nB N t)
    omega
theorem pk_val {O : Orc} {N : Nw} {a b t : Nat} (h : 0 < pkN O N (a, b) t) : pkN O N (a, b) t = min (oC O a + oC O b) (nB N t) := by
  unfold pkN at h ⊢
  split at h
  · rename_i q; rw [if_pos q]
  · omega
theorem Iz (n : Nat) : nI n + (0 : Int32) = nI n := by rw [show (0 : Int32) = nI 0 from rfl, nI_add]; rfl
theorem ix0 {s : Nat} (h : s ≤ 36) : (nI s + (0 : Int32)).toNatClampNeg = s := by rw [Iz, cl (by omega)]
theorem vx0 {s : Nat} (h : s ≤ 36) : vp_in (nI s + (0 : Int32)) 48 := by rw [Iz]; exact vp_in_nI (by omega) (by omega)
theorem ix1 {s : Nat} (h : s ≤ 36) : (nI s + (1 : Int32)).toNatClampNeg = s + 1 := by rw [show (1 : Int32) = nI 1 from rfl, nI_add, cl (by omega)]
theorem vx1 {s : Nat} (h : s ≤ 36) : vp_in (nI s + (1 : Int32)) 48 := by rw [show (1 : Int32) = nI 1 from rfl, nI_add]; exact vp_in_nI (by omega) (by omega)
theorem ix2 {s : Nat} (h : s ≤ 36) : (nI s + (2 : Int32)).toNatClampNeg = s + 2 := by rw [show (2 : Int32) = nI 2 from rfl, nI_add, cl (by omega)]
theorem vx2 {s : Nat} (h : s ≤ 36) : vp_in (nI s + (2 : Int32)) 48 := by rw [show (2 : Int32) = nI 2 from rfl, nI_add]; exact vp_in_nI (by omega) (by omega)
theorem ix3 {s : Nat} (h : s ≤ 36) : (nI s + (3 : Int32)).toNatClampNeg = s + 3 := by rw [show (3 : Int32) = nI 3 from rfl, nI_add, cl (by omega)]
theorem vx3 {s : Nat} (h : s ≤ 36) : vp_in (nI s + (3 : Int32)) 48 := by rw [show (3 : Int32) = nI 3 from rfl, nI_add]; exact vp_in_nI (by omega) (by omega)
theorem ix4 {s : Nat} (h : s ≤ 36) : (nI s + (4 : Int32)).toNatClampNeg = s + 4 := by rw [show (4 : Int32) = nI 4 from rfl, nI_add, cl (by omega)]
theorem vx4 {s : Nat} (h : s ≤ 36) : vp_in (nI s + (4 : Int32)) 48 := by rw [show (4 : Int32) = nI 4 from rfl, nI_add]; exact vp_in_nI (by omega) (by omega)
theorem ix5 {s : Nat} (h : s ≤ 36) : (nI s + (5 : Int32)).toNatClampNeg = s + 5 := by rw [show (5 : Int32) = nI 5 from rfl, nI_add, cl (by omega)]
theorem vx5 {s : Nat} (h : s ≤ 36) : vp_in (nI s + (5 : Int32)) 48 := by rw [show (5 : Int32) = nI 5 from rfl, nI_add]; exact vp_in_nI (by omega) (by omega)
theorem ix6 {s t : Nat} (h : s ≤ 36) (ht : t < 6) : ((nI s + (6 : Int32)) + nI t).toNatClampNeg = s + 6 + t := by rw [show (6 : Int32) = nI 6 from rfl, nI_add, nI_add, cl (by omega)]
theorem vx6 {s t : Nat} (h : s ≤ 36) (ht : t < 6) : vp_in ((nI s + (6 : Int32)) + nI t) 48 := by rw [show (6 : Int32) = nI 6 from rfl, nI_add, nI_add]; exact vp_in_nI (by omega) (by omega)
theorem m_mayClimb {μ : St} {O : Orc} {N : Nw} {s a b t : Nat} {P : Int32 → Prop} (hM : orM μ O) (hk : oOk O) (hs : s ≤ 36) (hN : nwM μ s (oT O) N) (hNk : nOk (oT O) N) (ha : a < oP O) (hb : b < oP O) (ht : t < oT O) (hP : P (bI (oF O a b && decide (0 < pkN O N (a, b) t)))) : wX10_mayClimb μ (nI s) (nI a) (nI b) (nI t) P := by
  have h8 := hk.1
  have h5 := hk.2.1
  obtain ⟨a0, a1, a2, a3, a4, a5, a6⟩ := hN
  obtain ⟨k1, k2, k3, k4⟩ := hNk
  have k4 := k4 t ht
  have tT := hk.2.2.2.2 t ht
  have A := hk.2.2.1 a ha
  have B := hk.2.2.1 b hb
  have pp := pk_pos hk (N := N) (t := t) ha hb
  have bad : ¬ 0 < pkN O N (a, b) t → P 0 := fun h => by rw [decide_eq_false h, Bool.and_false] at hP; exact hP
  unfold wX10_mayClimb
  rw [ix3 hs, ix0 hs, ix6 hs (by omega), ix4 hs, cl (n := t) (by omega), a3, a4, a0, a6 t ht, bitN (by omega) (by omega), bitN (by omega) (by omega), bitN (by omega) (by omega), (hM.2.2.2.2 t ht).2.1, (hM.2.2.2.2 t ht).1]
  refine ⟨vx3 hs, ?_⟩
  have go : (nC N).testBit a = false → (nC N).testBit b = false → (nK N).testBit t = false → wX10_fits μ (nI a) (nI b) (fun r5 : Int32 =>
      (r5 = 0 → P (0 : Int32)) ∧ (¬ r5 = 0 → vp_in (nI s + (0 : Int32)) 48 ∧ vp_in (nI t) 10 ∧ wX10_in μ (nI (nD N) - nI (oR O t)) (0 : Int32) (3 : Int32) (fun r9 : Int32 => (r9 = 0 → P (0 : Int32)) ∧ (¬ r9 = 0 → vp_in ((nI s + (6 : Int32)) + nI t) 48 ∧ (nI (nB N t) ≤ 0 → P (0 : Int32)) ∧ (¬ nI (nB N t) ≤ 0 → wX10_ladder μ (nI a) (nI b) (fun r13 : Int32 => vp_in (nI t) 10 ∧ (r13 < nI (oH O t) → P (0 : Int32)) ∧ (¬ r13 < nI (oH O t) → P (1 : Int32)))))))) := fun q1 q2 q3 => by
    refine m_fits hM hk ha hb (br_b (fun f => ?_) (fun f => ⟨vx0 hs, vp_in_nI (by omega) (by omega), m_inL (a := 0) (b := 3) (by omega) (by omega) ?_⟩))
    · rw [f, Bool.false_and] at hP; exact hP
    · rw [pk_sub_toInt (by omega) (by omega)]
      by_cases q4 : oR O t ≤ nD N ∧ nD N ≤ oR O t + 3
      · rw [show (decide (((0 : Nat) : Int) ≤ (nD N : Int) - (oR O t : Int)) && decide ((nD N : Int) - (oR O t : Int) ≤ ((3 : Nat) : Int))) = true by simp; omega]
        refine ⟨fun c => absurd c nb0, fun _ => ⟨vx6 hs (by omega), fun c => bad (fun q => ?_), fun c => m_ladder hM hk ha hb ⟨vp_in_nI (by omega) (by omega), fun c2 => bad (fun q => ?_), fun c2 => ?_⟩⟩⟩
        · have := (leI rfl (b := 0) rfl (by omega) (by omega)).mp c
          have := (pp.mp q).2.2.2.2
          omega
        · have := (nI_ltI (by omega) (by omega)).mp c2
          have := (pp.mp q).2.2.2.1
          omega
        · have c : ¬ nB N t ≤ 0 := fun q => c ((leI rfl (b := 0) rfl (by omega) (by omega)).mpr q)
          have c2 : ¬ min (oL O a) (oL O b) < oH O t := fun q => c2 (nI_lt q (by omega))
          rw [f, decide_eq_true (pp.mpr ⟨q4, q3, ⟨q1, q2⟩, by omega, by omega⟩)] at hP
          exact hP
      · rw [show (decide (((0 : Nat) : Int) ≤ (nD N : Int) - (oR O t : Int)) && decide ((nD N : Int) - (oR O t : Int) ≤ ((3 : Nat) : Int))) = false by simp; omega]
        exact ⟨fun _ => bad (fun q => q4 (pp.mp q).1), fun c => absurd rfl c⟩
  have sw : ∀ {b : Bool} {A B : Prop}, (b = true → A) → (b = false → B) → (¬ bI b = 0 → A) ∧ (bI b = 0 → B) := fun h1 h2 => ⟨fun c => h1 (bI_ne.mp c), fun c => h2 (bI_eq0.mp c)⟩
  refine jn_in (sw (fun q1 => ⟨fun _ => bad (fun q => ?_), fun c => absurd rfl c⟩) (fun q1 => ⟨vx3 hs, sw (fun q2 => ⟨fun _ => bad (fun q => ?_), fun c => absurd rfl c⟩) (fun q2 => ⟨vx4 hs, sw (fun q3 => ⟨fun _ => bad (fun q => ?_), fun c => absurd rfl c⟩) (fun q3 => ⟨fun c => absurd c nb0, fun _ => go q1 q2 q3⟩)⟩)⟩))
  · have := (pp.mp q).2.2.1.1; rw [q1] at this; cases this
  · have := (pp.mp q).2.2.1.2; rw [q2] at this; cases this
  · have := (pp.mp q).2.1; rw [q3] at this; cases this
theorem m_picks {μ : St} {O : Orc} {N : Nw} {s a b t : Nat} {P : Int32 → Prop} (hM : orM μ O) (hk : oOk O) (hs : s ≤ 36) (hN : nwM μ s (oT O) N) (hl : nB N t ≤ 198) (ha : a < oP O) (hb : b < oP O) (ht : t < oT O) (hP : P (nI (min (oC O a + oC O b) (nB N t)))) : wX10_picks μ (nI s) (nI a) (nI b) (nI t) P := by
  have h8 := hk.1
  have h5 := hk.2.1
  have A := (hk.2.2.1 a ha).2.2.2.1
  have B := (hk.2.2.1 b hb).2.2.2.1
  unfold wX10_picks
  rw [ix6 hs (by omega), cl (n := a) (by omega), cl (n := b) (by omega), hN.2.2.2.2.2.2 t ht, (hM.2.2.1 a ha).2.2.2, (hM.2.2.1 b hb).2.2.2, nI_add]
  refine ⟨vp_in_nI (by omega) (by omega), vp_in_nI (by omega) (by omega), fun z3 h3 => ⟨vx6 hs (by omega), fun c => ⟨vx6 hs (by omega), ?_⟩, fun c => ?_⟩⟩
  · rw [h3] at c
    have c := (nI_leI (by omega) (by omega)).mp c
    rw [Nat.min_eq_right c] at hP; exact hP
  · rw [h3] at c ⊢
    have c : ¬ nB N t ≤ oC O a + oC O b := fun q => c (nI_le q (by omega))
    rw [Nat.min_eq_left (by omega)] at hP; exact hP
/-- a pair by its number may climb a tree, some being taken -/
def mpB (O : Orc) (N : Nw) (t taken c : Nat) : Bool := decide ((c / 10, c % 10) ∈ prs O) && cB O N t taken (c / 10, c % 10)
theorem divmod10 {c : Nat} (h : c < 1000) : nI c / (10 : Int32) = nI (c / 10) ∧ nI c - nI c / (10 : Int32) * (10 : Int32) = nI (c % 10) := by
  have : (10 : Int32) = nI 10 := rfl
  rw [this]
  exact ⟨divI (by omega) (by omega) (by omega), pk_rem (by omega) (by omega) (by omega)⟩
theorem m_mayPair {μ : St} {O : Orc} {N : Nw} {s c t taken : Nat} {P : Int32 → Prop} (hM : orM μ O) (hk : oOk O) (hs : s ≤ 36) (hN : nwM μ s (oT O) N) (hNk : nOk (oT O) N) (hc : c < 100) (ht : t < oT O) (htk : taken < 256) (hP : P (bI (mpB O N t taken c))) : wX10_mayPair μ (nI s) (nI c) (nI t) (nI taken) P := by
  have h8 := hk.1
  have h5 := hk.2.1
  obtain ⟨e1, e2⟩ := divmod10 (c := c) (by omega)
  unfold wX10_mayPair
  rw [e1, show nI c - nI (c / 10) * (10 : Int32) = nI (c % 10) from by rw [← e1]; exact e2]
  intro z1 h1 z2 h2
  subst h1; subst h2
  generalize hA : c / 10 = a at hP ⊢
  generalize hB : c % 10 = b at hP ⊢
  have hP : P (bI (decide ((a, b) ∈ prs O) && cB O N t taken (a, b))) := by unfold mpB at hP; rw [hA, hB] at hP; exact hP
  have bad : ¬ ((a, b) ∈ prs O) → P 0 := fun h => by rw [decide_eq_false h, Bool.false_and] at hP; exact hP
  have bad2 : cB O N t taken (a, b) = false → P 0 := fun h => by rw [h, Bool.and_false] at hP; exact hP
  refine m_isOne hM hk ?_
  rw [inR_nI (by omega)]
  refine br_b (fun q => bad (fun h => by have := (prs_mem.mp h).1; have := of_decide_eq_false q; omega)) (fun q => m_isOne hM hk ?_)
  have haP := of_decide_eq_true q
  rw [inR_nI (by omega)]
  refine br_b (fun q => bad (fun h => by have := (prs_mem.mp h).2.1; have := of_decide_eq_false q; omega)) (fun q => ?_)
  have hbP := of_decide_eq_true q
  have sa := (hk.2.2.1 a haP).1
  have sb := (hk.2.2.1 b hbP).1
  rw [cl (by omega), cl (by omega), (hM.2.2.1 a haP).1, (hM.2.2.1 b hbP).1, bitN (by omega) (by omega), bitN (by omega) (by omega)]
  refine ⟨vp_in_nI (by omega) (by omega), fun c1 => bad (fun h => c1 (by rw [(prs_mem.mp h).2.2.1]; rfl)), fun c1 => ⟨vp_in_nI (by omega) (by omega), fun c2 => bad (fun h => ?_), fun c2 => ?_⟩⟩
  · have g1 := (prs_mem.mp h).2.2.1
    have g2 := oF_side (prs_mem.mp h).2.2.2
    have : oS O b = 1 := by omega
    exact c2 (by rw [this]; rfl)
  · have g1 : oS O a = 0 := (eqI rfl (b := 0) rfl (by omega) (by omega)).mp c1
    refine (br_b (fun q1 => ?_) (fun q1 => bad2 ?_) |> fun h => ⟨fun c => h.2 c, fun c => h.1 c⟩)
    · refine (br_b (fun q2 => m_mayClimb hM hk hs hN hNk haP hbP ht (br_b (fun q3 => ?_) (fun q3 => ?_))) (fun q2 => bad2 ?_) |> fun h => ⟨fun c => h.2 c, fun c => h.1 c⟩)
      · by_cases f : oF O a b = true
        · rw [f, Bool.true_and] at q3
          exact bad2 (by unfold cB; rw [q3]; rfl)
        · exact bad (fun h => f (prs_mem.mp h).2.2.2)
      · rw [Bool.and_eq_true] at q3
        rw [decide_eq_true (prs_mem.mpr ⟨haP, hbP, g1, q3.1⟩), show cB O N t taken (a, b) = true by
          unfold cB; rw [q3.2, Bool.true_and]; exact decide_eq_true ((and_two taken a b).mpr ⟨q1, q2⟩)] at hP
        exact hP
      · unfold cB
        rw [show decide (taken &&& two (a, b) = 0) = false from decide_eq_false (fun h => by have := ((and_two taken a b).mp h).2; rw [q2] at this; cases this), Bool.and_false]
    · unfold cB
      rw [show decide (taken &&& two (a, b) = 0) = false from decide_eq_false (fun h => by have := ((and_two taken a b).mp h).1; rw [q1] at this; cases this), Bool.and_false]
