theorem s_readItem {σ : St} {o i : Nat} {O : Orc} {t : Tx} {P : Int32 → St → Prop} (ho : isO o) (hO : orC σ o O) (hk : oOk O) (hl : t.1 ≤ 300) (hT : tkC σ t) (h1 : rdC σ t i) (hi : i < nT t) (hP : itF σ o t P (rdI t O i)) : wX6_readItem σ o P := by
  have kb := tk_b t i
  have wr : itF σ o t (fun r2 σ3 => (r2 = 0 ∨ r2 = 1) ∧ P r2 σ3) (rdI t O i) := by
    cases e : rdI t O i with
    | inl f => rw [e] at hP; exact fun σ' a b c => ⟨Or.inl rfl, hP σ' a b c⟩
    | inr q => rw [e] at hP; exact fun ok σ' j a b c d g => ⟨Or.inr rfl, hP ok σ' j a b c d g⟩
  unfold wX6_readItem
  rw [h1.2.1]
  refine ⟨ho, fun c => ?_, fun c0 => ⟨fun c => ?_, fun c1 => ⟨fun c => ?_, fun c2 => ⟨fun c => ?_, fun c3 => ?_⟩⟩⟩⟩
  · have c := (eqI rfl (b := 0) rfl (by omega) (by omega)).mp c
    have := s_readHalf ho hO hk hl hT h1 hi (Or.inl c) wr
    rw [c] at this; exact this
  · have c := (eqI rfl (b := 1) rfl (by omega) (by omega)).mp c
    have := s_readHalf ho hO hk hl hT h1 hi (Or.inr c) wr
    rw [c] at this; exact this
  · have c := (eqI rfl (b := 2) rfl (by omega) (by omega)).mp c
    exact s_readQuarrel ho hO hk hl hT h1 hi c wr
  · have c := (eqI rfl (b := 3) rfl (by omega) (by omega)).mp c
    exact s_readTree ho hO hk hl hT h1 hi c wr
  · have c0 : ¬ tk t i = 0 := fun q => c0 (by rw [q]; rfl)
    have c1 : ¬ tk t i = 1 := fun q => c1 (by rw [q]; rfl)
    have c2 : ¬ tk t i = 2 := fun q => c2 (by rw [q]; rfl)
    have c3 : ¬ tk t i = 3 := fun q => c3 (by rw [q]; rfl)
    unfold rdI at hP
    rw [if_neg (by omega), if_neg c2, if_neg c3] at hP
    exact hP σ frC.rf h1.1 (by omega)
theorem rdI_ge {t : Tx} {O : Orc} {i : Nat} {q : Orc × Nat} (h : rdI t O i = .inr q) : i < q.2 := by
  unfold rdI at h
  repeat' split at h
  all_goals first
    | (cases h; done)
    | (cases h; show i < _; omega)
def raF (σ : St) (o : Nat) (t : Tx) (P : Int32 → St → Prop) (r : Nat ⊕ (Orc × Nat)) : Prop := match r with
  | .inl f => ∀ σ', frC (Sd o) σ σ' → P ((-10 : Int32) - nI (tp t f)) σ'
  | .inr q => oOk q.1 → ∀ σ', frC (Sd o) σ σ' → orC σ' o q.1 → P (nI q.2) σ'
theorem s_readL {σ : St} {o : Nat} {t : Tx} {P : Int32 → St → Prop} {K67 : St → Prop} (ho : isO o) (hl : t.1 ≤ 300) (hT : tkC σ t) : ∀ (n : Nat) (O : Orc) (i k : Nat) (σ1 : St), i ≤ nT t → nT t < n + i → k ≤ i → frC (Sd o) σ σ1 → orC σ1 o O → oOk O → σ1.1 6 1 = nI i → raF σ o t P (rdAll t n O i k) →
    wLX6_readAll_18 o K67 (fun (σ14 : St) => vp_in (σ14.1 6 1) 301 ∧ P ((-10 : Int32) - (σ14.1 4 (σ14.1 6 1).toNatClampNeg)) σ14) P n σ1 (nI k) := by
  have n300 := (nT_s t).1
  have or := isO_r ho
  have tks : ∀ {σ1 : St}, frC (Sd o) σ σ1 → tkC σ1 t := fun {σ1} hf => tkC_fr hT hf (fun k hk => by have := Sd_r hk; omega)
  intro n
  induction n with
  | zero => intro O i k σ1 hi hn; omega
  | succ n ih =>
    intro O i k σ1 hi hn hki hf hO hk h1 hP
    rw [wLX6_readAll_18]
    rw [rdAll] at hP
    refine ⟨fun c => absurd ((ltI (a := 300) rfl rfl (by omega) (by omega)).mp c) (by omega), fun _ => s_look hl (tks hf) h1 hi (fun σ5 hf5 r5 => ?_)⟩
    have F5 := hf.tr (Sd_6 hf5)
    have O5 := orC_6 ho hO hf5
    have kb := tk_b t i
    rw [r5.2.1]
    refine ⟨fun c => ?_, fun c => ?_⟩
    · have c : ¬ tk t i = 6 := fun q => c (by rw [q]; rfl)
      rw [if_neg c] at hP
      refine s_readItem ho O5 hk hl (tks F5) r5 (nT_lt hi c) ?_
      cases e : rdI t O i with
      | inl f =>
        rw [e] at hP
        intro σ8 hf8 e8 hfn
        have F8 := F5.tr hf8
        refine ⟨fun c => absurd rfl c, fun _ => ?_⟩
        rw [e8, cl (n := f) (by omega), ((tks F8).1 f hfn).2]
        exact ⟨vp_in_nI (by omega) (by omega), hP σ8 F8⟩
      | inr q =>
        obtain ⟨O', i'⟩ := q
        rw [e] at hP
        intro ok σ8 j hf8 O8 e8 hj hij
        have hij : i' = j + 1 := hij
        have F8 := F5.tr hf8
        refine ⟨fun _ σ10 h10 z hz => ?_, fun c => absurd c nb0⟩
        have ge : i < i' := rdI_ge e
        rw [e8, add1] at h10
        rw [hz, add1]
        have F10 : frC (Sd o) σ8 σ10 := by rw [h10]; exact frC.rf.wr (by simp [Sd])
        refine ih O' i' (k + 1) σ10 (by omega) (by omega) (by omega) (F8.tr F10) ?_ ok (by rw [h10, sI_at, hij]) hP
        exact orC_6 ho O8 (by rw [h10]; exact frC.rf.wr (by decide))
    · have c := (eqI rfl (b := 6) rfl (by omega) (by omega)).mp c
      rw [if_pos c] at hP
      exact hP hk σ5 F5 O5
