theorem s_readItem {σ : St} {o i : Nat} {O : Orc} {t : Tx} {P : Int32 → St → Prop} (ho : isO o) (hO : orC σ o O) (hk : oOk O) (hl : t.1 ≤ 300) (hT : tkC σ t) (h1 : rdC σ t i) (hi : i < nT t) (hP : itF σ o t P (rdI t O i)) : wX6_readItem σ o P := by
  have kb := tk_b t i
  have wr : itF σ o t (fun r2 σ3 => (r2 = 0 ∨ r2 = 1) ∧ P r2 σ3) (rdI t O i) := by
    cases e : rdI t O i with
    | inl f => rw [e] at hP; exact fun σ' a b c => ⟨Or.inl rfl, hP σ' a b c⟩
    | inr q => rw [e] at hP; exact fun ok σ' j a b c d g => ⟨Or.inr rfl, hP ok σ' j a b c d g⟩
  unfold wX6_readItem
  rw [h1.2.1]
  refine ⟨ho, fun c => ?_, fun c0 => ⟨fun c => ?_, fun c1 => ⟨fun c => ?_, fun c2 => ⟨fun c => ?_, fun c3 => ?_⟩⟩⟩⟩
  · have c := (eqI rfl (b := 0) rfl (by omega) (by omega)).mp c
    have := s_readHalf ho hO hk hl hT h1 hi (Or.inl c) wr
    rw [c] at this; exact this
  · have c := (eqI rfl (b := 1) rfl (by omega) (by omega)).mp c
    have := s_readHalf ho hO hk hl hT h1 hi (Or.inr c) wr
    rw [c] at this; exact this
  · have c := (eqI rfl (b := 2) rfl (by omega) (by omega)).mp c
    exact s_readQuarrel ho hO hk hl hT h1 hi c wr
  · have c := (eqI rfl (b := 3) rfl (by omega) (by omega)).mp c
    exact s_readTree ho hO hk hl hT h1 hi c wr
  · have c0 : ¬ tk t i = 0 := fun q => c0 (by rw [q]; rfl)
    have c1 : ¬ tk t i = 1 := fun q => c1 (by rw [q]; rfl)
    have c2 : ¬ tk t i = 2 := fun q => c2 (by rw [q]; rfl)
    have c3 : ¬ tk t i = 3 := fun q => c3 (by rw [q]; rfl)
    unfold rdI at hP
    rw [if_neg (by omega), if_neg c2, if_neg c3] at hP
    exact hP σ frC.rf h1.1 (by omega)
