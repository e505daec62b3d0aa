theorem numZ_P {t : Tx} {i n : Nat} (h : n < 2 ^ 31) : numZ t i 0 (nI n - (1 : Int32)) = (numB t i 0 (n - 1) && decide (0 < n)) := by
  unfold numZ numB
  rw [predI h]
  cases n with
  | zero =>
    rw [show decide ((tv t i : Int) ≤ ((0 : Nat) : Int) - 1) = false from decide_eq_false (by omega)]
    simp
  | succ n =>
    rw [show decide (0 < n + 1) = true from decide_eq_true (by omega), Bool.and_true]
    have : decide ((tv t i : Int) ≤ ((n + 1 : Nat) : Int) - 1) = decide (tv t i ≤ n + 1 - 1) := decide_eq_decide.mpr (by omega)
    rw [this]
theorem s_readQuarrel {σ : St} {o i : Nat} {O : Orc} {t : Tx} {P : Int32 → St → Prop} (ho : isO o) (hO : orC σ o O) (hk : oOk O) (hl : t.1 ≤ 300) (hT : tkC σ t) (h1 : rdC σ t i) (hi : i < nT t) (hs : tk t i = 2) (hP : itF σ o t P (rdI t O i)) : wX6_readQuarrel σ o P := by
  have h8 := hk.1
  unfold rdI at hP
  rw [if_neg (by omega), if_pos hs] at hP
  unfold wX6_readQuarrel
  rw [hO.1]
  refine ⟨ho, ?_⟩
  refine s_readNumber (lo := 0) (hi := nI (oP O) - (1 : Int32)) hl hT h1 hi (by omega) (fun σ3 hf3 r3 => ?_)
  rw [numZ_P (by omega)]
  cases n1 : (numB t (i + 1) 0 (oP O - 1) && decide (0 < oP O)) with
  | false =>
    rw [if_pos n1] at hP
    exact ⟨fun c => absurd rfl c, fun _ => hP σ3 (Sd_6 hf3) r3.1 (by omega)⟩
  | true =>
    rw [if_neg (by rw [n1]; decide)] at hP
    rw [Bool.and_eq_true, decide_eq_true_eq] at n1
    obtain ⟨t1, v1, w1⟩ := numB_t n1.1
    have b1 := tv_b t _ t1
    have i1' := nT_lt (t := t) (i := i + 1) (by omega) (by omega)
    refine ⟨fun _ z5 h5 => ?_, fun c => absurd c nb0⟩
    rw [r3.2.2 (by omega)] at h5
    rw [(orC_6 ho hO hf3).1]
    refine s_readNumber (lo := 0) (hi := nI (oP O) - (1 : Int32)) hl (tkC_6 hT hf3) r3 i1' (by omega) (fun σ7 hf7 r7 => ?_)
    have F7 := hf3.tr hf7
    rw [numZ_P (by omega)]
    cases n2 : (numB t (i + 2) 0 (oP O - 1) && decide (0 < oP O)) with
    | false =>
      have n2' : numB t (i + 2) 0 (oP O - 1) = false := by
        rw [decide_eq_true n1.2, Bool.and_true] at n2; exact n2
      rw [if_pos (by rw [n2']; rfl)] at hP
      exact ⟨fun _ => hP σ7 (Sd_6 F7) r7.1 (by omega), fun c => absurd rfl c⟩
    | true =>
      rw [Bool.and_eq_true, decide_eq_true_eq] at n2
      obtain ⟨t2, v2, w2⟩ := numB_t n2.1
      have b2 := tv_b t _ t2
      have i2' := nT_lt (t := t) (i := i + 2) (by omega) (by omega)
      have r73 := r7.2.2 (by show tk t (i + 2) ≠ 6; omega)
      have r73 : σ7.1 6 3 = nI (tv t (i + 2)) := r73
      rw [r73, h5]
      refine ⟨fun c => absurd c nb0, fun _ => ⟨fun c z9 h9 => ?_, fun c => ?_⟩⟩
      · have c : ¬ tv t (i + 2) = tv t (i + 1) := fun q => c (by rw [q])
        rw [if_neg (by rw [n2.1]; simp [c])] at hP
        refine s_readSemicolon (i := i + 2) hl (tkC_6 hT F7) r7 i2' (fun σ15 hf15 r15 => ?_)
        have F15 := F7.tr hf15
        by_cases s5 : tk t (i + 3) = 5
        · rw [if_neg (fun h => h s5)] at hP
          rw [decide_eq_true (show tk t (i + 2 + 1) = 5 from s5)]
          have i3' := nT_lt (t := t) (i := i + 3) (by omega) (by omega)
          refine ⟨fun _ => ?_, fun c => absurd c nb0⟩
          rw [h9]
          refine s_addQuarrel ho (orC_6 ho hO F15) hk (by omega) (by omega) (fun q => c q.symm) (fun σ17 hf17 O17 => ?_)
          refine hP (addQ_ok hk (by omega) (by omega) (fun q => c q.symm)) σ17 (i + 3) ((Sd_6 F15).tr (hf17.up So_Sd)) O17 ?_ i3' rfl
          rw [hf17.1 6 (So_6 ho)]; exact r15.1
        · rw [if_pos s5] at hP
          rw [decide_eq_false (show ¬ tk t (i + 2 + 1) = 5 from s5)]
          exact ⟨fun c => absurd rfl c, fun _ => hP σ15 (Sd_6 F15) r15.1 (by omega)⟩
      · have c := (nI_eq (by omega) (by omega)).mp c
        rw [if_pos (by rw [n2.1]; simp [c])] at hP
        exact hP σ7 (Sd_6 F7) r7.1 (by omega)
