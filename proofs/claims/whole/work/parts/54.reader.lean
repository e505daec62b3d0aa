/-! the class's reader -/
def rdC (σ : St) (t : Tx) (i : Nat) : Prop := σ.1 6 1 = nI i ∧ σ.1 6 2 = nI (tk t i) ∧ (tk t i ≠ 6 → σ.1 6 3 = nI (tv t i))
theorem tkC_fr {S : List Nat} {σ σ' : St} {t : Tx} (h : tkC σ t) (hf : frC S σ σ') (hs : ∀ k, k ∈ S → k < 3 ∨ 5 < k) : tkC σ' t := by
  have e : ∀ k, 3 ≤ k → k ≤ 5 → σ'.1 k = σ.1 k := fun k h1 h2 => hf.1 k (fun q => by have := hs k q; omega)
  exact ⟨fun i hi => by rw [e 3 (by omega) (by omega), e 4 (by omega) (by omega)]; exact h.1 i hi, fun i hi => by rw [e 5 (by omega) (by omega)]; exact h.2 i hi⟩
theorem s_look {σ : St} {t : Tx} {i : Nat} {P : St → Prop} (hl : t.1 ≤ 300) (hk : tkC σ t) (h1 : σ.1 6 1 = nI i) (hi : i ≤ nT t) (hP : ∀ σ', frC [6] σ σ' → rdC σ' t i → P σ') : wX6_look σ P := by
  have n300 := (nT_s t).1
  unfold wX6_look
  intro σ1 e1
  rw [h1, if_neg (fun c => by have := (ltI (a := 300) rfl rfl (by omega) (by omega)).mp c; omega)] at e1
  have a1 : σ1.1 6 1 = nI i := by rw [e1, sI_at]
  rw [a1]
  refine ⟨vp_in_nI (by omega) (by omega), fun σ3 e3 => ?_⟩
  rw [cl (n := i) (by omega), e1, sI_ne (by decide), (hk.1 i hi).1, ← e1] at e3
  have a3 : σ3.1 6 1 = nI i := by rw [e3, sI_off (by decide)]; exact a1
  rw [a3]
  refine ⟨vp_in_nI (by omega) (by omega), fun σ5 e5 => hP σ5 (by rw [e5, e3, e1]; exact ((frC.rf.wr (by decide)).wr (by decide)).wr (by decide)) ⟨by rw [e5, sI_off (by decide)]; exact a3, by rw [e5, sI_off (by decide), e3, sI_at], fun h => ?_⟩⟩
  have hin : i < nT t := by
    rcases Nat.lt_or_ge i (nT t) with q | q
    · exact q
    · have : i = nT t := by omega
      rw [this] at h; exact absurd (nT_s t).2.1 h
  rw [e5, sI_at, cl (n := i) (by omega), e3, sI_ne (by decide), e1, sI_ne (by decide)]
  exact hk.2 i hin
theorem s_advance {σ : St} {t : Tx} {i : Nat} {P : St → Prop} (hl : t.1 ≤ 300) (hk : tkC σ t) (h1 : rdC σ t i) (hi : i < nT t) (hP : ∀ σ', frC [6] σ σ' → rdC σ' t (i + 1) → P σ') : wX6_advance σ P := by
  unfold wX6_advance
  intro σ1 e1
  rw [h1.1, add1] at e1
  have F1 : frC [6] σ σ1 := by rw [e1]; exact frC.rf.wr (by decide)
  exact s_look (i := i + 1) hl (tkC_fr hk F1 (by decide)) (by rw [e1, sI_at]) (by omega) (fun σ' hf hr => hP σ' (F1.tr hf) hr)
theorem nT_lt {t : Tx} {i : Nat} (hi : i ≤ nT t) (h : tk t i ≠ 6) : i < nT t := by
  rcases Nat.lt_or_ge i (nT t) with q | q
  · exact q
  · have : i = nT t := by omega
    rw [this] at h; exact absurd (nT_s t).2.1 h
def numZ (t : Tx) (i : Nat) (lo : Nat) (hi : Int32) : Bool := decide (tk t i = 4) && (decide (lo ≤ tv t i) && decide ((tv t i : Int) ≤ hi.toInt))
theorem numZ_I {t : Tx} {i lo hi : Nat} (h : hi < 2 ^ 31) : numZ t i lo (nI hi) = numB t i lo hi := by
  unfold numZ numB
  rw [toI h]
  have : decide ((tv t i : Int) ≤ (hi : Int)) = decide (tv t i ≤ hi) := decide_eq_decide.mpr (by omega)
  rw [this]
theorem s_readNumber {σ : St} {t : Tx} {i lo : Nat} {hi : Int32} {P : Int32 → St → Prop} (hl : t.1 ≤ 300) (hk : tkC σ t) (h1 : rdC σ t i) (hi' : i < nT t) (hlo : lo < 1000) (hP : ∀ σ', frC [6] σ σ' → rdC σ' t (i + 1) → P (bI (numZ t (i + 1) lo hi)) σ') : wX6_readNumber σ (nI lo) hi P := by
  unfold wX6_readNumber
  refine s_advance hl hk h1 hi' (fun σ1 hf hr => ?_)
  have hP := hP σ1 hf hr
  have kb := tk_b t (i + 1)
  rw [hr.2.1]
  unfold numZ at hP
  refine ⟨fun c => ?_, fun c => ?_⟩
  · have c : ¬ tk t (i + 1) = 4 := fun q => c (by rw [q]; rfl)
    rw [decide_eq_false c] at hP; exact hP
  · have c := (eqI rfl (b := 4) rfl (by omega) (by omega)).mp c
    have vb := tv_b t (i + 1) c
    rw [decide_eq_true c, Bool.true_and] at hP
    rw [hr.2.2 (by omega)]
    refine ⟨fun c1 => ?_, fun c1 => ⟨fun c2 => ?_, fun c2 => ?_⟩⟩
    · have c1 := (nI_ltI (by omega) (by omega)).mp c1
      rw [decide_eq_false (by omega), Bool.false_and] at hP; exact hP
    · have c2 := Int32.lt_iff_toInt_lt.mp c2
      rw [toI (by omega)] at c2
      rw [show decide ((tv t (i + 1) : Int) ≤ hi.toInt) = false from decide_eq_false (by omega), Bool.and_false] at hP; exact hP
    · have c1 : ¬ tv t (i + 1) < lo := fun q => c1 (nI_lt q (by omega))
      have c2 : ¬ hi.toInt < (tv t (i + 1) : Int) := fun q => c2 (Int32.lt_iff_toInt_lt.mpr (by rw [toI (by omega)]; exact q))
      rw [show decide (lo ≤ tv t (i + 1)) = true from decide_eq_true (by omega), show decide ((tv t (i + 1) : Int) ≤ hi.toInt) = true from decide_eq_true (by omega)] at hP; exact hP
theorem s_readSemicolon {σ : St} {t : Tx} {i : Nat} {P : Int32 → St → Prop} (hl : t.1 ≤ 300) (hk : tkC σ t) (h1 : rdC σ t i) (hi' : i < nT t) (hP : ∀ σ', frC [6] σ σ' → rdC σ' t (i + 1) → P (bI (decide (tk t (i + 1) = 5))) σ') : wX6_readSemicolon σ P := by
  unfold wX6_readSemicolon
  refine s_advance hl hk h1 hi' (fun σ1 hf hr => ?_)
  have hP := hP σ1 hf hr
  have kb := tk_b t (i + 1)
  rw [hr.2.1]
  refine ⟨fun c => ?_, fun c => ?_⟩
  · rw [decide_eq_false (fun q => c (by rw [q]; rfl))] at hP; exact hP
  · rw [decide_eq_true ((eqI rfl (b := 5) rfl (by omega) (by omega)).mp c)] at hP; exact hP
