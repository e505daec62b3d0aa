theorem s_readItem {σ : St} {o i : Nat} {O : Orc} {t : Tx} {P : Int32 → St → Prop} (ho : isO o) (hO : orC σ o O) (hk : oOk O) (hl : t.1 ≤ 300) (hT : tkC σ t) (h1 : rdC σ t i) (hi : i < nT t) (hP : itF σ o t P (rdI t O i)) : wX6_readItem σ o P := by
  have kb := tk_b t i
  have wr : itF σ o t (fun r2 σ3 => (r2 = 0 ∨ r2 = 1) ∧ P r2 σ3) (rdI t O i) := by
    cases e : rdI t O i with
    | inl f => rw [e] at hP; exact fun σ' a b c => ⟨Or.inl rfl, hP σ' a b c⟩
    | inr q => rw [e] at hP; exact fun ok σ' j a b c d g => ⟨Or.inr rfl, hP ok σ' j a b c d g⟩
  unfold wX6_readItem
  rw [h1.2.1]
  refine ⟨ho, fun c => ?_, fun c0 => ⟨fun c => ?_, fun c1 => ⟨fun c => ?_, fun c2 => ⟨fun c => ?_, fun c3 => ?_⟩⟩⟩⟩
  · have c := (eqI rfl (b := 0) rfl (by omega) (by omega)).mp c
    have := s_readHalf ho hO hk hl hT h1 hi (Or.inl c) wr
    rw [c] at this; exact this
  · have c := (eqI rfl (b := 1) rfl (by omega) (by omega)).mp c
    have := s_readHalf ho hO hk hl hT h1 hi (Or.inr c) wr
    rw [c] at this; exact this
  · have c := (eqI rfl (b := 2) rfl (by omega) (by omega)).mp c
    exact s_readQuarrel ho hO hk hl hT h1 hi c wr
  · have c := (eqI rfl (b := 3) rfl (by omega) (by omega)).mp c
    exact s_readTree ho hO hk hl hT h1 hi c wr
  · have c0 : ¬ tk t i = 0 := fun q => c0 (by rw [q]; rfl)
    have c1 : ¬ tk t i = 1 := fun q => c1 (by rw [q]; rfl)
    have c2 : ¬ tk t i = 2 := fun q => c2 (by rw [q]; rfl)
    have c3 : ¬ tk t i = 3 := fun q => c3 (by rw [q]; rfl)
    unfold rdI at hP
    rw [if_neg (by omega), if_neg c2, if_neg c3] at hP
    exact hP σ frC.rf h1.1 (by omega)
theorem rdI_ge {t : Tx} {O : Orc} {i : Nat} {q : Orc × Nat} (h : rdI t O i = .inr q) : i < q.2 := by
  unfold rdI at h
  repeat' split at h
  all_goals first
    | (cases h; done)
    | (cases h; show i < _; omega)
def raF (σ : St) (o : Nat) (t : Tx) (P : Int32 → St → Prop) (r : Nat ⊕ (Orc × Nat)) : Prop := match r with
  | .inl f => ∀ σ', frC (Sd o) σ σ' → P ((-10 : Int32) - nI (tp t f)) σ'
  | .inr q => oOk q.1 → ∀ σ', frC (Sd o) σ σ' → orC σ' o q.1 → P (nI q.2) σ'
theorem s_readL {σ : St} {o : Nat} {t : Tx} {P : Int32 → St → Prop} {K67 : St → Prop} (ho : isO o) (hl : t.1 ≤ 300) (hT : tkC σ t) : ∀ (n : Nat) (O : Orc) (i k : Nat) (σ1 : St), i ≤ nT t → nT t < n + i → k ≤ i → frC (Sd o) σ σ1 → orC σ1 o O → oOk O → σ1.1 6 1 = nI i → raF σ o t P (rdAll t n O i k) →
    wLX6_readAll_18 o K67 (fun (σ15 : St) => wX6_look σ15 (fun σ16 : St => vp_in (σ16.1 6 1) 301 ∧ P ((-10 : Int32) - (σ16.1 4 (σ16.1 6 1).toNatClampNeg)) σ16)) P n σ1 (nI k) := by
  have n300 := (nT_s t).1
  have or := isO_r ho
  have tks : ∀ {σ1 : St}, frC (Sd o) σ σ1 → tkC σ1 t := fun {σ1} hf => tkC_fr hT hf (fun k hk => by have := Sd_r hk; omega)
  intro n
  induction n with
  | zero => intro O i k σ1 hi hn; omega
  | succ n ih =>
    intro O i k σ1 hi hn hki hf hO hk h1 hP
    rw [wLX6_readAll_18]
    rw [rdAll] at hP
    refine ⟨fun c => absurd ((ltI (a := 300) rfl rfl (by omega) (by omega)).mp c) (by omega), fun _ => s_look hl (tks hf) h1 hi (fun σ5 hf5 r5 => ?_)⟩
    have F5 := hf.tr (Sd_6 hf5)
    have O5 := orC_6 ho hO hf5
    have kb := tk_b t i
    rw [r5.2.1]
    refine ⟨fun c => ?_, fun c => ?_⟩
    · have c : ¬ tk t i = 6 := fun q => c (by rw [q]; rfl)
      rw [if_neg c] at hP
      refine s_readItem ho O5 hk hl (tks F5) r5 (nT_lt hi c) ?_
      cases e : rdI t O i with
      | inl f =>
        rw [e] at hP
        intro σ8 hf8 e8 hfn
        have F8 := F5.tr hf8
        refine ⟨fun c => absurd rfl c, fun _ => s_look hl (tks F8) e8 hfn (fun σ9 hf9 r9 => ?_)⟩
        have F9 := F8.tr (Sd_6 hf9)
        rw [r9.1, cl (n := f) (by omega), ((tks F9).1 f hfn).2]
        exact ⟨vp_in_nI (by omega) (by omega), hP σ9 F9⟩
      | inr q =>
        obtain ⟨O', i'⟩ := q
        rw [e] at hP
        intro ok σ8 j hf8 O8 e8 hj hij
        have hij : i' = j + 1 := hij
        have F8 := F5.tr hf8
        refine ⟨fun _ σ10 h10 z hz => ?_, fun c => absurd c nb0⟩
        have ge : i < i' := rdI_ge e
        rw [e8, add1] at h10
        rw [hz, add1]
        have F10 : frC (Sd o) σ8 σ10 := by rw [h10]; exact frC.rf.wr (by simp [Sd])
        refine ih O' i' (k + 1) σ10 (by omega) (by omega) (by omega) (F8.tr F10) ?_ ok (by rw [h10, sI_at, hij]) hP
        exact orC_6 ho O8 (by rw [h10]; exact frC.rf.wr (by decide))
    · have c := (eqI rfl (b := 6) rfl (by omega) (by omega)).mp c
      rw [if_pos c] at hP
      exact hP hk σ5 F5 O5
def RA (o : Nat) : List Nat := 3 :: 4 :: 5 :: Sd o
theorem RA_r {o k : Nat} (h : k ∈ RA o) : (3 ≤ k ∧ k ≤ 6) ∨ (o ≤ k ∧ k ≤ o + 8) := by
  simp [RA, Sd] at h
  omega
theorem rdI_ok {t : Tx} {O : Orc} {i : Nat} {q : Orc × Nat} (h : rdI t O i = .inr q) (hk : oOk O) : oOk q.1 := by
  unfold rdI at h
  by_cases c : tk t i = 0 ∨ tk t i = 1
  · rw [if_pos c] at h
    by_cases c8 : 8 ≤ oP O
    · rw [if_pos c8] at h; cases h
    rw [if_neg c8] at h
    by_cases n1 : numB t (i + 1) 1 9 = false
    · rw [if_pos n1] at h; cases h
    rw [if_neg n1] at h
    by_cases n2 : numB t (i + 2) 1 9 = false
    · rw [if_pos n2] at h; cases h
    rw [if_neg n2] at h
    by_cases n3 : numB t (i + 3) 1 9 = false
    · rw [if_pos n3] at h; cases h
    rw [if_neg n3] at h
    by_cases s5 : ¬ tk t (i + 4) = 5
    · rw [if_pos s5] at h; cases h
    rw [if_neg s5] at h
    obtain ⟨-, v1⟩ := numB_t (by simpa using n1)
    obtain ⟨-, v2⟩ := numB_t (by simpa using n2)
    obtain ⟨-, v3⟩ := numB_t (by simpa using n3)
    cases h
    exact addH_ok hk (by omega) (by omega) v1 v2 v3
  · rw [if_neg c] at h
    by_cases c2 : tk t i = 2
    · rw [if_pos c2] at h
      by_cases n1 : (numB t (i + 1) 0 (oP O - 1) && decide (0 < oP O)) = false
      · rw [if_pos n1] at h; cases h
      rw [if_neg n1] at h
      by_cases n2 : (numB t (i + 2) 0 (oP O - 1) && decide (tv t (i + 2) ≠ tv t (i + 1))) = false
      · rw [if_pos n2] at h; cases h
      rw [if_neg n2] at h
      by_cases s5 : ¬ tk t (i + 3) = 5
      · rw [if_pos s5] at h; cases h
      rw [if_neg s5] at h
      have n1 : (numB t (i + 1) 0 (oP O - 1) && decide (0 < oP O)) = true := by
        cases e : (numB t (i + 1) 0 (oP O - 1) && decide (0 < oP O)) with
        | true => rfl
        | false => exact absurd e n1
      have n2 : (numB t (i + 2) 0 (oP O - 1) && decide (tv t (i + 2) ≠ tv t (i + 1))) = true := by
        cases e : (numB t (i + 2) 0 (oP O - 1) && decide (tv t (i + 2) ≠ tv t (i + 1))) with
        | true => rfl
        | false => exact absurd e n2
      rw [Bool.and_eq_true, decide_eq_true_eq] at n1 n2
      obtain ⟨-, v1⟩ := numB_t n1.1
      obtain ⟨-, v2⟩ := numB_t n2.1
      have h0 := n1.2
      cases h
      exact addQ_ok hk (by omega) (by omega) (fun q => n2.2 q.symm)
    · rw [if_neg c2] at h
      by_cases c3 : tk t i = 3
      · rw [if_pos c3] at h
        by_cases c5 : 5 ≤ oT O
        · rw [if_pos c5] at h; cases h
        rw [if_neg c5] at h
        by_cases n1 : numB t (i + 1) 1 9 = false
        · rw [if_pos n1] at h; cases h
        rw [if_neg n1] at h
        by_cases n2 : numB t (i + 2) 0 20 = false
        · rw [if_pos n2] at h; cases h
        rw [if_neg n2] at h
        by_cases n3 : numB t (i + 3) 0 99 = false
        · rw [if_pos n3] at h; cases h
        rw [if_neg n3] at h
        by_cases s5 : ¬ tk t (i + 4) = 5
        · rw [if_pos s5] at h; cases h
        rw [if_neg s5] at h
        obtain ⟨-, v1⟩ := numB_t (by simpa using n1)
        obtain ⟨-, v2⟩ := numB_t (by simpa using n2)
        obtain ⟨-, v3⟩ := numB_t (by simpa using n3)
        cases h
        exact addT_ok hk (by omega) v1 v2.2 v3.2
      · rw [if_neg c3] at h; cases h
theorem rdAll_b (t : Tx) : ∀ (n : Nat) (O : Orc) (i k : Nat) (q : Orc × Nat), rdAll t n O i k = .inr q → oOk O → q.2 ≤ k + n ∧ oOk q.1 := by
  intro n
  induction n with
  | zero => intro O i k q h _; rw [rdAll] at h; cases h
  | succ n ih =>
    intro O i k q h hk
    rw [rdAll] at h
    by_cases c : tk t i = 6
    · rw [if_pos c] at h
      cases h
      exact ⟨by show k ≤ k + (n + 1); omega, hk⟩
    · rw [if_neg c] at h
      cases e : rdI t O i with
      | inl f => rw [e] at h; cases h
      | inr p =>
        rw [e] at h
        have := ih p.1 p.2 (k + 1) q h (rdI_ok e hk)
        exact ⟨by omega, this.2⟩
theorem s_readAll {σ : St} {o : Nat} {t : Tx} {P : Int32 → St → Prop} (ho : isO o) (hl : t.1 ≤ 300) (hT : txt σ t)
    (hF : ∀ f, rdAll t 301 O00 0 0 = .inl f → ∀ σ', frC (RA o) σ σ' → P ((-10 : Int32) - nI (tp t f)) σ')
    (hS : ∀ q, rdAll t 301 O00 0 0 = .inr q → ∀ σ', frC (RA o) σ σ' → orC σ' o q.1 → P (nI q.2) σ') : wX6_readAll σ o P := by
  have n300 := (nT_s t).1
  have or := isO_r ho
  unfold wX6_readAll
  refine ⟨ho, s_cut hT hl (fun σ1 hf1 hT1 => ?_)⟩
  unfold wX3_empty
  refine ⟨ho, fun σa ha σb hb σ3 h3 => ⟨301, ?_⟩⟩
  have F3 : frC (Sd o) σ1 σ3 := by rw [h3, hb, ha]; exact ((frC.rf.wr (by simp [Sd])).wr (by simp [Sd])).wr (by simp [Sd])
  have F1 : frC (RA o) σ σ1 := hf1.up (fun k hk => by simp at hk; simp [RA]; omega)
  have up : ∀ k, k ∈ Sd o → k ∈ RA o := fun k hk => by unfold RA; exact List.mem_cons_of_mem _ (List.mem_cons_of_mem _ (List.mem_cons_of_mem _ hk))
  have T3 : tkC σ3 t := tkC_fr hT1 F3 (fun k hk => by have := Sd_r hk; omega)
  have O3 : orC σ3 o O00 := ⟨by rw [h3, sI_ne (by omega), hb, sI_off (by decide), ha, sI_at]; rfl, by rw [h3, sI_ne (by omega), hb, sI_at]; rfl, fun p hp => absurd hp (Nat.not_lt_zero p), fun t ht => absurd ht (Nat.not_lt_zero t)⟩
  refine s_readL ho hl T3 301 O00 0 0 σ3 (Nat.zero_le _) (by omega) (Nat.le_refl _) frC.rf O3 O00_ok (by rw [h3, sI_at]; rfl) ?_
  cases e : rdAll t 301 O00 0 0 with
  | inl f => exact fun σ' hf => hF f e σ' (F1.tr ((F3.tr hf).up up))
  | inr q => exact fun _ σ' hf hO => hS q e σ' (F1.tr ((F3.tr hf).up up)) hO
