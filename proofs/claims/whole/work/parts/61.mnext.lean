/-! the reference's reader -/
def txtM (μ : St) (t : Tx) : Prop := μ.1 0 2 = nI t.1 ∧ ∀ j, j < t.1 → (μ.1 1 j) &&& (255 : Int32) = nI (t.2 j) ∧ t.2 j < 256
/-- what may be written: of cell k the slot j -/
def frJ (D : Nat → Nat → Prop) (μ μ' : St) : Prop := (∀ k j, ¬ D k j → μ'.1 k j = μ.1 k j) ∧ μ'.2 = μ.2
theorem frJ.rf {D : Nat → Nat → Prop} {μ : St} : frJ D μ μ := ⟨fun _ _ _ => rfl, rfl⟩
theorem frJ.tr {D : Nat → Nat → Prop} {a b c : St} (h : frJ D a b) (g : frJ D b c) : frJ D a c := ⟨fun k j hk => (g.1 k j hk).trans (h.1 k j hk), g.2.trans h.2⟩
theorem frJ.wr {D : Nat → Nat → Prop} {μ μ' : St} {k j : Nat} {v : Int32} (h : frJ D μ μ') (hk : D k j) : frJ D μ (sI μ' k j v) := ⟨fun a b hab => by
  rw [sI_get]
  by_cases e : a = k ∧ b = j
  · exact absurd (by rw [e.1, e.2]; exact hk) hab
  · rw [if_neg e]; exact h.1 a b hab, h.2⟩
theorem frJ.up {D E : Nat → Nat → Prop} {μ μ' : St} (h : frJ D μ μ') (g : ∀ k j, D k j → E k j) : frJ E μ μ' := ⟨fun k j hk => h.1 k j (fun q => hk (g k j q)), h.2⟩
def D0 (k j : Nat) : Prop := k = 0 ∧ 13 ≤ j ∧ j ≤ 16
theorem txtM_fr {D : Nat → Nat → Prop} {μ μ' : St} {t : Tx} (h : txtM μ t) (hf : frJ D μ μ') (h0 : ¬ D 0 2) (h1 : ∀ j, ¬ D 1 j) : txtM μ' t :=
  ⟨by rw [hf.1 0 2 h0]; exact h.1, fun j hj => by rw [hf.1 1 j (h1 j)]; exact h.2 j hj⟩
theorem D0_2 : ¬ D0 0 2 := fun h => by have := h.2.1; omega
theorem D0_1 (j : Nat) : ¬ D0 1 j := fun h => by have := h.1; omega
def chM (t : Tx) (j : Nat) : Int32 := if j < t.1 then nI (t.2 j) else -1
theorem m_here {μ : St} {t : Tx} {j : Nat} {P : Int32 → Prop} (hT : txtM μ t) (hl : t.1 ≤ 300) (h13 : μ.1 0 13 = nI j) (hj : j ≤ t.1) (hP : P (chM t j)) : wX10_here μ P := by
  unfold wX10_here
  unfold chM at hP
  rw [h13, hT.1]
  refine ⟨fun c => ?_, fun c => ?_⟩
  · have c := (nI_leI (by omega) (by omega)).mp c
    rw [if_neg (by omega)] at hP; exact hP
  · have c : ¬ t.1 ≤ j := fun q => c (nI_le q (by omega))
    rw [cl (n := j) (by omega), (hT.2 j (by omega)).1]
    rw [if_pos (by omega)] at hP
    exact ⟨vp_in_nI (by omega) (by omega), hP⟩
theorem chM_lt {t : Tx} {j : Nat} (h : j < t.1) : chM t j = nI (t.2 j) := if_pos h
theorem chM_ge {t : Tx} {j : Nat} (h : ¬ j < t.1) : chM t j = -1 := if_neg h
/-- whether a byte, if there is one, is of a stretch -/
theorem m_inB {μ : St} {t : Tx} {j a b : Nat} {f : Nat → Bool} {P : Int32 → Prop} (hf : ∀ c, f c = (decide (a ≤ c) && decide (c ≤ b))) (ha : a < 1000) (hb : b < 1000) (hT : txtM μ t) (hP : P (bI (decide (j < t.1) && f (t.2 j)))) : wX10_in μ (chM t j) (nI a) (nI b) P := by
  by_cases c : j < t.1
  · rw [chM_lt c]
    rw [decide_eq_true c, Bool.true_and, hf] at hP
    have := (hT.2 j c).2
    refine m_inL (by omega) (by omega) ?_
    rw [toI (by omega), show decide ((a : Int) ≤ (t.2 j : Int)) = decide (a ≤ t.2 j) from decide_eq_decide.mpr (by omega), show decide ((t.2 j : Int) ≤ (b : Int)) = decide (t.2 j ≤ b) from decide_eq_decide.mpr (by omega)]
    exact hP
  · rw [chM_ge c]
    rw [decide_eq_false c, Bool.false_and] at hP
    refine m_inL (by omega) (by omega) ?_
    rw [show (-1 : Int32).toInt = -1 from by decide, show decide ((a : Int) ≤ -1) = false from decide_eq_false (by omega), Bool.false_and]
    exact hP
theorem isLB_d (c : Nat) : isLB c = (decide (97 ≤ c) && decide (c ≤ 122)) := rfl
theorem isDB_d (c : Nat) : isDB c = (decide (48 ≤ c) && decide (c ≤ 57)) := rfl
theorem m_skip {t : Tx} {K P : St → Prop} (hl : t.1 ≤ 300) : ∀ d j μ, j + d = t.1 → txtM μ t → μ.1 0 13 = nI j → (∀ μ', frJ D0 μ μ' → μ'.1 0 13 = nI (skS t j) → K μ') → wLX10_next_0 K P (d + 1) μ := by
  intro d
  induction d with
  | zero =>
    intro j μ hj hT h13 hK
    rw [wLX10_next_0]
    refine m_here hT hl h13 (by omega) ?_
    rw [chM_ge (by omega)]
    refine ⟨fun _ => hK μ frJ.rf ?_, fun c => absurd c (by decide)⟩
    rw [show j = t.1 by omega, skS_len, h13, show j = t.1 by omega]
  | succ d ih =>
    intro j μ hj hT h13 hK
    have cj := (hT.2 j (by omega)).2
    rw [wLX10_next_0]
    refine m_here hT hl h13 (by omega) ?_
    rw [chM_lt (by omega)]
    refine ⟨fun c => hK μ frJ.rf ?_, fun c μ3 h3 => ?_⟩
    · rw [skS_no (by omega) (fun q => c (by rw [q]; rfl))]; exact h13
    · have c := (eqI rfl (b := 32) rfl (by omega) (by omega)).mp c
      rw [h13, add1] at h3
      have F : frJ D0 μ μ3 := by rw [h3]; exact frJ.rf.wr ⟨rfl, by omega, by omega⟩
      refine ih (j + 1) μ3 (by omega) (txtM_fr hT F D0_2 D0_1) (by rw [h3, sI_at]) (fun μ' hf h => hK μ' (F.tr hf) ?_)
      rw [skS_sp (by omega) c]; exact h
theorem m_meaning {μ : St} {c v : Nat} {P : Int32 → Prop} (hc : c < 387420489) (hv : v ≤ 99) (hP : P (nI (mean c v))) : wX10_meaning μ (nI c) (nI v) P := by
  unfold wX10_meaning
  unfold mean at hP
  refine ⟨fun z => ?_, fun z => ?_⟩
  · have z := (leI (b := 0) rfl rfl (by omega) (by omega)).mp z
    rw [if_pos (by omega)] at hP
    refine ⟨fun e => ?_, fun e => ?_⟩
    · have e := (eqI rfl (b := 240023) rfl (by omega) (by omega)).mp e
      rw [if_pos e] at hP; exact hP
    · rw [if_neg (fun q => e (by rw [q]; rfl))] at hP
      refine ⟨fun e => ?_, fun e => ?_⟩
      · have e := (eqI rfl (b := 406922) rfl (by omega) (by omega)).mp e
        rw [if_pos e] at hP; exact hP
      · rw [if_neg (fun q => e (by rw [q]; rfl))] at hP
        refine ⟨fun e => ?_, fun e => ?_⟩
        · have e := (eqI rfl (b := 9748424) rfl (by omega) (by omega)).mp e
          rw [if_pos e] at hP; exact hP
        · rw [if_neg (fun q => e (by rw [q]; rfl))] at hP; exact hP
  · have z : ¬ v = 0 := fun q => z ((leI (b := 0) rfl rfl (by omega) (by omega)).mpr (by omega))
    rw [if_neg z] at hP
    refine ⟨fun e => ?_, fun e => ?_⟩
    · rw [if_neg (fun q => e (by rw [q]; rfl))] at hP; exact hP
    · have e := (eqI rfl (b := 255124976) rfl (by omega) (by omega)).mp e
      rw [if_pos e] at hP
      refine ⟨fun e => ?_, fun e => ?_⟩
      · rw [if_neg (fun q => e (by rw [q]; rfl))] at hP; exact hP
      · have e := (eqI rfl (b := 12) rfl (by omega) (by omega)).mp e
        rw [if_pos e] at hP; exact hP
theorem m_lets {t : Tx} {s : Nat} {K : St → Int32 → Int32 → Prop} {P : St → Prop} (hl : t.1 ≤ 300) : ∀ d k μ, s + k + d = t.1 → txtM μ t → μ.1 0 13 = nI (s + k) → μ.1 0 14 = nI s →
    (∀ μ' n, n = runE isLB t.2 d (s + k) - s → frJ (fun a b => a = 0 ∧ b = 13) μ μ' → μ'.1 0 13 = nI (s + n) → K μ' (nI (cdA t s n)) (nI (svA t s n))) → wLX10_next_67 K P (d + 1) μ (nI (cdA t s k)) (nI (svA t s k)) := by
  intro d
  induction d with
  | zero =>
    intro k μ hk hT h13 h14 hK
    rw [wLX10_next_67]
    refine m_here hT hl h13 (by omega) (m_inB (a := 97) (b := 122) isLB_d (by omega) (by omega) hT ?_)
    rw [decide_eq_false (by omega), Bool.false_and]
    refine ⟨fun _ => hK μ k ?_ frJ.rf h13, fun c => absurd rfl c⟩
    show k = (s + k) - s
    omega
  | succ d ih =>
    intro k μ hk hT h13 h14 hK
    rw [wLX10_next_67]
    refine m_here hT hl h13 (by omega) (m_inB (a := 97) (b := 122) isLB_d (by omega) (by omega) hT ?_)
    rw [decide_eq_true (by omega), Bool.true_and]
    rw [runE] at hK
    refine br_b (fun f => ?_) (fun f z38 hz => ?_)
    · rw [if_neg (by rw [f]; decide)] at hK
      exact hK μ k (by omega) frJ.rf h13
    · rw [if_pos f] at hK
      have r := isLB_r f
      rw [h13, h14, pk_sub (by omega), show s + k - s = k by omega] at hz
      have k300 : k ≤ 300 := by omega
      have h96 : (96 : Int32) = nI 96 := rfl
      have go : ∀ v40 v42 : Int32, v40 = nI (cdA t s (k + 1)) → v42 = nI (svA t s (k + 1)) → ∀ μ3 : St, μ3 = sI μ 0 13 ((μ.1 0 13) + (1 : Int32)) → wLX10_next_67 K P (d + 1) μ3 v40 v42 := fun v40 v42 e1 e2 μ3 h3 => by
        rw [h13, add1] at h3
        have F : frJ (fun a b => a = 0 ∧ b = 13) μ μ3 := by rw [h3]; exact frJ.rf.wr ⟨rfl, rfl⟩
        rw [e1, e2]
        refine ih (k + 1) μ3 (by omega) (txtM_fr hT F (fun q => by have := q.2; omega) (fun j q => by have := q.1; omega)) (by rw [h3, sI_at]; rfl) (by rw [h3, sI_off (by decide)]; exact h14) (fun μ' n hn hf h => hK μ' n hn (F.tr hf) h)
      have go2 : ∀ v40 : Int32, v40 = nI (cdA t s (k + 1)) → jn (fun (v42 : Int32) => ∀ μ3 : St, μ3 = sI μ 0 13 ((μ.1 0 13) + (1 : Int32)) → wLX10_next_67 K P (d + 1) μ3 v40 v42) (fun J41 : Int32 → Prop =>
          (¬ z38 = (6 : Int32) → (z38 ≤ (6 : Int32) → J41 (nI (svA t s k))) ∧ (¬ z38 ≤ (6 : Int32) → J41 (99 : Int32))) ∧
          (z38 = (6 : Int32) → wX10_here μ (fun r46 : Int32 => J41 (r46 - (96 : Int32))))) := fun v40 e1 => by
        refine jn_in ⟨fun c => ⟨fun c2 => go v40 _ e1 ?_, fun c2 => go v40 _ e1 ?_⟩, fun c => m_here hT hl h13 (by omega) (go v40 _ e1 ?_)⟩
        · have c : ¬ k = 6 := fun q => c (by rw [hz, q]; rfl)
          have c2 := (leI hz (b := 6) rfl (by omega) (by omega)).mp c2
          rw [svA, if_neg c, if_neg (by omega)]
        · have c2 : ¬ k ≤ 6 := fun q => c2 ((leI hz (b := 6) rfl (by omega) (by omega)).mpr q)
          rw [svA, if_neg (by omega), if_pos (by omega)]; rfl
        · have c := (eqI hz (b := 6) rfl (by omega) (by omega)).mp c
          rw [svA, if_pos c, chM_lt (by omega), h96, pk_sub (by omega)]
      refine jn_in ⟨fun c => go2 _ ?_, fun c => m_here hT hl h13 (by omega) (go2 _ ?_)⟩
      · have c := (leI (a := 6) rfl hz (by omega) (by omega)).mp c
        rw [cdA, if_neg (by omega)]
      · have c : ¬ 6 ≤ k := fun q => c ((leI (a := 6) rfl hz (by omega) (by omega)).mpr q)
        rw [cdA, if_pos (by omega), chM_lt (by omega), show (27 : Int32) = nI 27 from rfl, pk_mul, nI_add, h96, pk_sub (by omega)]
        congr 1
        omega
theorem m_digs {t : Tx} {s : Nat} {f1 : Int32} {K P : St → Prop} (hl : t.1 ≤ 300) : ∀ d k μ, s + k + d = t.1 → (∀ i, i < k → 48 ≤ t.2 (s + i) ∧ t.2 (s + i) ≤ 57) → txtM μ t → μ.1 0 13 = nI (s + k) → μ.1 0 16 = nI (vaA t s k) →
    (∀ μ' n, n = runE isDB t.2 d (s + k) - s → frJ (fun a b => a = 0 ∧ (b = 13 ∨ b = 16)) μ μ' → μ'.1 0 13 = nI (s + n) → μ'.1 0 16 = nI (vaA t s n) → K μ') → wLX10_next_183 f1 K P (d + 1) μ := by
  intro d
  induction d with
  | zero =>
    intro k μ hk hall hT h13 h16 hK
    rw [wLX10_next_183]
    refine m_here hT hl h13 (by omega) (m_inB (a := 48) (b := 57) isDB_d (by omega) (by omega) hT ?_)
    rw [decide_eq_false (by omega), Bool.false_and]
    refine ⟨fun _ => hK μ k ?_ frJ.rf h13 h16, fun c => absurd rfl c⟩
    show k = (s + k) - s
    omega
  | succ d ih =>
    intro k μ hk hall hT h13 h16 hK
    rw [wLX10_next_183]
    refine m_here hT hl h13 (by omega) (m_inB (a := 48) (b := 57) isDB_d (by omega) (by omega) hT ?_)
    rw [decide_eq_true (by omega), Bool.true_and]
    rw [runE] at hK
    refine br_b (fun f => ?_) (fun f => ?_)
    · rw [if_neg (by rw [f]; decide)] at hK
      exact hK μ k (by omega) frJ.rf h13 h16
    · rw [if_pos f] at hK
      have r := isDB_r f
      have va := vaA_b hall k (Nat.le_refl k)
      have go : ∀ v22 : Int32, v22 = nI (vaA t s (k + 1)) → ∀ μ3 : St, μ3 = sI μ 0 16 v22 → ∀ μ4 : St, μ4 = sI μ3 0 13 ((μ3.1 0 13) + (1 : Int32)) → wLX10_next_183 f1 K P (d + 1) μ4 := fun v22 e1 μ3 h3 μ4 h4 => by
        have e13 : μ3.1 0 13 = nI (s + k) := by rw [h3, sI_off (by decide)]; exact h13
        rw [e13, add1] at h4
        have F : frJ (fun a b => a = 0 ∧ (b = 13 ∨ b = 16)) μ μ4 := by rw [h4, h3]; exact (frJ.rf.wr ⟨rfl, Or.inr rfl⟩).wr ⟨rfl, Or.inl rfl⟩
        refine ih (k + 1) μ4 (by omega) (fun i hi => ?_) (txtM_fr hT F (fun q => by have := q.2; omega) (fun j q => by have := q.1; omega)) (by rw [h4, sI_at]; rfl) (by rw [h4, sI_off (by decide), h3, sI_at]; exact e1) (fun μ' n hn hf h h' => hK μ' n hn (F.tr hf) h h')
        by_cases e : i = k
        · rw [e]; exact r
        · exact hall i (by omega)
      refine jn_in ⟨fun c => m_here hT hl h13 (by omega) (go _ ?_), fun c => go _ ?_⟩
      · have c := (leI h16 (b := 99) rfl (by omega) (by omega)).mp c
        rw [vaA, if_pos c, chM_lt (by omega), h16, show (10 : Int32) = nI 10 from rfl, pk_mul, nI_add, show (48 : Int32) = nI 48 from rfl, pk_sub (by omega)]
        congr 1
        omega
      · have c : ¬ vaA t s k ≤ 99 := fun q => c ((leI h16 (b := 99) rfl (by omega) (by omega)).mpr q)
        rw [vaA, if_neg c]; exact h16
/-- where the reference's reader stands, when it has read the token at s -/
def rdP (μ : St) (t : Tx) (s : Nat) : Prop := μ.1 0 14 = nI s ∧ μ.1 0 13 = nI (afP t s) ∧ μ.1 0 15 = nI (srt (tkP t s)) ∧ (tkP t s = 4 → μ.1 0 16 = nI (tvP t s))
theorem m_next {μ : St} {t : Tx} {j : Nat} {P : St → Prop} (hT : txtM μ t) (hl : t.1 ≤ 300) (hj : j ≤ t.1) (h13 : μ.1 0 13 = nI j) (hP : ∀ μ', frJ D0 μ μ' → rdP μ' t (skS t j) → P μ') : wX10_next μ P := by
  unfold wX10_next
  refine ⟨t.1 - j + 1, m_skip hl (t.1 - j) j μ (by omega) hT h13 (fun μ4 f4 h4 μ5 h5 μ6 h6 => ?_)⟩
  have sb := skS_b t hj
  generalize skS t j = s at *
  rw [h4] at h5
  have F6 : frJ D0 μ μ6 := by rw [h6, h5]; exact (f4.wr ⟨rfl, by omega, by omega⟩).wr ⟨rfl, by omega, by omega⟩
  have T6 := txtM_fr hT F6 D0_2 D0_1
  have a13 : μ6.1 0 13 = nI s := by rw [h6, sI_off (by decide), h5, sI_off (by decide)]; exact h4
  have a14 : μ6.1 0 14 = nI s := by rw [h6, sI_off (by decide), h5, sI_at]
  have a16 : μ6.1 0 16 = nI 0 := by rw [h6, sI_at]; rfl
  refine m_here T6 hl a13 sb.2 ?_
  by_cases hs : s < t.1
  · have cs := (T6.2 s hs).2
    have ek : tkP t s = tokK t s := if_pos hs
    have ev : tvP t s = tokV t s := if_pos hs
    have ea : afP t s = tokE t s := if_pos hs
    have tb := tokE_b t hs
    have kb := tokK_b t s
    refine ⟨fun _ => m_inB (a := 97) (b := 122) isLB_d (by omega) (by omega) T6 ?_, fun c => absurd (by rw [chM_lt hs]; exact nI_pos' (by omega)) c⟩
    rw [decide_eq_true hs, Bool.true_and]
    refine br_b (fun fL => m_inB (a := 48) (b := 57) isDB_d (by omega) (by omega) T6 ?_) (fun fL => ⟨t.1 - s + 1, ?_⟩)
    · rw [decide_eq_true hs, Bool.true_and]
      refine br_b (fun fD μ13 h13' => ?_) (fun fD => ⟨t.1 - s + 1, ?_⟩)
      · obtain ⟨o1, o2, o3⟩ := tok_oth fL fD
        rw [a13, add1] at h13'
        have F13 : frJ D0 μ μ13 := by rw [h13']; exact F6.wr ⟨rfl, by omega, by omega⟩
        have go : ∀ v15 : Int32, v15 = nI (srt (tokK t s)) → ∀ μ16 : St, μ16 = sI μ13 0 15 v15 → P μ16 := fun v15 e μ16 h16 => by
          refine hP μ16 (by rw [h16]; exact F13.wr ⟨rfl, by omega, by omega⟩) ⟨?_, ?_, ?_, fun h => ?_⟩
          · rw [h16, sI_off (by decide), h13', sI_off (by decide)]; exact a14
          · rw [h16, sI_off (by decide), h13', sI_at, ea, o1]
          · rw [h16, sI_at, e, ek]
          · rw [ek] at h; exact absurd h o3
        rw [chM_lt hs]
        refine jn_in ⟨fun c => go _ ?_, fun c => go _ ?_⟩
        · rw [o2, if_neg (fun q => c (by rw [q]; rfl))]; rfl
        · have c := (eqI rfl (b := 59) rfl (by omega) (by omega)).mp c
          rw [o2, if_pos c]; rfl
      · refine m_digs (s := s) hl (t.1 - s) 0 μ6 (by omega) (fun i hi => absurd hi (Nat.not_lt_zero i)) T6 a13 a16 (fun μ27 n hn f27 b13 b16 => ?_)
        obtain ⟨d1, d2, d3⟩ := tok_dig hs fD
        have hn : n = tokE t s - s := by rw [hn, tokE_D hs fL fD]; rfl
        rw [← hn] at d1 d2 d3
        have va := vaA_b d3 n (Nat.le_refl n)
        have F27 : frJ D0 μ μ27 := F6.tr (f27.up (fun a b h => ⟨h.1, by have := h.2; omega, by have := h.2; omega⟩))
        have b14 : μ27.1 0 14 = nI s := by rw [f27.1 0 14 (fun q => by have := q.2; omega)]; exact a14
        have go : ∀ v29 : Int32, v29 = nI (srt (tokK t s)) → ∀ μ30 : St, μ30 = sI μ27 0 15 v29 → P μ30 := fun v29 e μ30 h30 => by
          refine hP μ30 (by rw [h30]; exact F27.wr ⟨rfl, by omega, by omega⟩) ⟨?_, ?_, ?_, fun h => ?_⟩
          · rw [h30, sI_off (by decide)]; exact b14
          · rw [h30, sI_off (by decide), b13, ea, hn, show s + (tokE t s - s) = tokE t s by omega]
          · rw [h30, sI_at, e, ek]
          · rw [h30, sI_off (by decide), b16, ev, d2 (by rw [← ek]; exact h)]
        rw [d1] at go
        unfold digK at go
        rw [b14, b13, b16, pk_sub (by omega), show s + n - s = n by omega, chM_lt hs]
        refine jn_in ⟨fun c => go _ ?_, fun c => ⟨fun c2 => go _ ?_, fun c2 => ⟨fun c3 => go _ ?_, fun c3 => go _ ?_⟩⟩⟩
        · have c := (ltI (a := 99) rfl rfl (by omega) (by omega)).mp c
          rw [if_pos c]; rfl
        · have c : ¬ 99 < vaA t s n := fun q => c ((ltI (a := 99) rfl rfl (by omega) (by omega)).mpr q)
          rw [if_neg c, if_neg (fun q => c2 (by rw [q]; rfl))]; rfl
        · have c : ¬ 99 < vaA t s n := fun q => c ((ltI (a := 99) rfl rfl (by omega) (by omega)).mpr q)
          have c2 := (eqI rfl (b := 48) rfl (by omega) (by omega)).mp c2
          have c3 := (leI rfl (b := 1) rfl (by omega) (by omega)).mp c3
          rw [if_neg c, if_pos c2, if_pos c3]; rfl
        · have c : ¬ 99 < vaA t s n := fun q => c ((ltI (a := 99) rfl rfl (by omega) (by omega)).mpr q)
          have c2 := (eqI rfl (b := 48) rfl (by omega) (by omega)).mp c2
          have c3 : ¬ n ≤ 1 := fun q => c3 ((leI rfl (b := 1) rfl (by omega) (by omega)).mpr q)
          rw [if_neg c, if_pos c2, if_neg c3]; rfl
    · refine m_lets (s := s) hl (t.1 - s) 0 μ6 (by omega) T6 a13 a14 (fun μ51 n hn f51 b13 => ?_)
      obtain ⟨w1, w2⟩ := tok_let hs fL
      have hn : n = tokE t s - s := by rw [hn, tokE_L hs fL]; rfl
      rw [← hn] at w1 w2
      have F51 : frJ D0 μ μ51 := F6.tr (f51.up (fun a b h => ⟨h.1, by have := h.2; omega, by have := h.2; omega⟩))
      refine m_meaning (cdA_b w2 n (Nat.le_refl n)).2 (svA_b w2 n (Nat.le_refl n)) (fun μ53 h53 => hP μ53 (by rw [h53]; exact F51.wr ⟨rfl, by omega, by omega⟩) ⟨?_, ?_, ?_, fun h => ?_⟩)
      · rw [h53, sI_off (by decide), f51.1 0 14 (fun q => by have := q.2; omega)]; exact a14
      · rw [h53, sI_off (by decide), b13, ea, hn, show s + (tokE t s - s) = tokE t s by omega]
      · rw [h53, sI_at, ek, w1, srt_lo]
        unfold mean
        split <;> (split <;> (try split) <;> (try split) <;> omega)
      · rw [ek, w1] at h
        exfalso
        unfold mean at h
        split at h <;> (split at h <;> (try split at h) <;> (try split at h) <;> omega)
  · have es : s = t.1 := by omega
    rw [chM_ge hs]
    refine ⟨fun c => absurd c (by decide), fun _ μ55 h55 => hP μ55 (by rw [h55]; exact F6.wr ⟨rfl, by omega, by omega⟩) ⟨?_, ?_, ?_, fun h => ?_⟩⟩
    · rw [h55, sI_off (by decide)]; exact a14
    · rw [h55, sI_off (by decide), a13, show afP t s = t.1 from if_neg hs, es]
    · rw [h55, sI_at, show tkP t s = 6 from if_neg hs]; rfl
    · rw [show tkP t s = 6 from if_neg hs] at h; omega
