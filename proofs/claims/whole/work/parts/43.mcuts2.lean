theorem m_cut66 {μ : St} {f1 f2 : Int32} {K : St → Prop} {P : Int32 → St → Prop} (hK : ∀ μ', frC [20] μ μ' → (∀ t, t < 1280 → μ'.1 20 t = μ.1 19 t) → K μ') : ∀ d t μ1, t + d = 1280 → frC [20] μ μ1 → (∀ u, u < t → μ1.1 20 u = μ.1 19 u) → wLX10_cuts_66 f1 f2 K P (d + 1) μ1 (nI t) := by
  intro d
  induction d with
  | zero =>
    intro t μ1 ht hf hu
    rw [wLX10_cuts_66]
    exact ⟨fun _ => hK μ1 hf (fun u h => hu u (by omega)), fun c => absurd ((leI (a := 1280) rfl rfl (by omega) (by omega)).mpr (by omega)) c⟩
  | succ d ih =>
    intro t μ1 ht hf hu
    rw [wLX10_cuts_66, cl (n := t) (by omega)]
    refine ⟨fun c => absurd ((leI (a := 1280) rfl rfl (by omega) (by omega)).mp c) (by omega), fun _ => ⟨vp_in_nI (by omega) (by omega), vp_in_nI (by omega) (by omega), fun σ h z hz => ?_⟩⟩
    rw [hz, add1]
    refine ih (t + 1) σ (by omega) (by rw [h]; exact hf.wr (by decide)) (fun u hu' => ?_)
    by_cases e : u = t
    · subst e; rw [h, sI_at, hf.1 19 (by decide)]
    · rw [h, sI_off e]; exact hu u (by omega)
theorem m_cut114 {μ : St} {f1 f2 : Int32} {K : St → Prop} {P : Int32 → St → Prop} (hK : ∀ μ', frC [19] μ μ' → (∀ t, t < 1280 → μ'.1 19 t = μ.1 20 t) → K μ') : ∀ d t μ1, t + d = 1280 → frC [19] μ μ1 → (∀ u, u < t → μ1.1 19 u = μ.1 20 u) → wLX10_cuts_114 f1 f2 K P (d + 1) μ1 (nI t) := by
  intro d
  induction d with
  | zero =>
    intro t μ1 ht hf hu
    rw [wLX10_cuts_114]
    exact ⟨fun _ => hK μ1 hf (fun u h => hu u (by omega)), fun c => absurd ((leI (a := 1280) rfl rfl (by omega) (by omega)).mpr (by omega)) c⟩
  | succ d ih =>
    intro t μ1 ht hf hu
    rw [wLX10_cuts_114, cl (n := t) (by omega)]
    refine ⟨fun c => absurd ((leI (a := 1280) rfl rfl (by omega) (by omega)).mp c) (by omega), fun _ => ⟨vp_in_nI (by omega) (by omega), vp_in_nI (by omega) (by omega), fun σ h z hz => ?_⟩⟩
    rw [hz, add1]
    refine ih (t + 1) σ (by omega) (by rw [h]; exact hf.wr (by decide)) (fun u hu' => ?_)
    by_cases e : u = t
    · subst e; rw [h, sI_at, hf.1 20 (by decide)]
    · rw [h, sI_off e]; exact hu u (by omega)
theorem m_cut93 {μ : St} {O : Orc} {a : Nat} {f1 : Int32} {K : St → Prop} {P : Int32 → St → Prop} (hM : orM μ O) (hk : oOk O) (ha : a < oP O) (sa : oS O a = 0) (h19 : ∀ t, t < 1280 → μ.1 19 t = nI (oMn (FI O a t))) (hK : ∀ μ', frC [20] μ μ' → (∀ t, t < 1280 → μ'.1 20 t = nI (oMn (FI O (a + 1) t))) → K μ') :
    ∀ d i μ1, i + d = 1024 → frC [20] μ μ1 → (∀ t, t < 1280 → ∃ q, isMinO (Cs O a i 0 t) q ∧ μ1.1 20 t = nI (oMn q)) → wLX10_cuts_93 f1 (nI a) K P (d + 1) μ1 (nI i) := by
  intro d
  induction d with
  | zero =>
    intro i μ1 hi hf hq
    rw [wLX10_cuts_93]
    have e : i = 1024 := by omega
    subst e
    refine ⟨fun _ => hK μ1 hf (fun t ht => ?_), fun c => absurd ((leI (a := 1024) rfl rfl (by omega) (by omega)).mpr (by omega)) c⟩
    obtain ⟨q, q1, q2⟩ := hq t ht
    rw [q2, Cs_done hk ha sa ht q1]
  | succ d ih =>
    intro i μ1 hi hf hq
    rw [wLX10_cuts_93]
    refine ⟨fun c => absurd ((leI (a := 1024) rfl rfl (by omega) (by omega)).mp c) (by omega), fun _ => m_cutOne (orM_fr hM hf (by decide)) hk ha sa (by omega) (fun t ht => by rw [hf.1 19 (by decide)]; exact h19 t ht) hq (fun μ2 hf2 hq2 z hz => ?_)⟩
    rw [hz, add1]
    exact ih (i + 1) μ2 (by omega) (hf.tr hf2) hq2
theorem m_cutL {μ : St} {O : Orc} {f1 : Int32} {K : St → Prop} {P : Int32 → St → Prop} (hM : orM μ O) (hk : oOk O) (hK : ∀ μ', frC [19, 20] μ μ' → (∀ t, t < 1280 → μ'.1 19 t = nI (oMn (FI O (oP O) t))) → K μ') :
    ∀ d a μ1, a + d = oP O → frC [19, 20] μ μ1 → (∀ t, t < 1280 → μ1.1 19 t = nI (oMn (FI O a t))) → wLX10_cuts_45 f1 K P (d + 1) μ1 (nI a) := by
  have h8 := hk.1
  intro d
  induction d with
  | zero =>
    intro a μ1 hd hf hq
    rw [wLX10_cuts_45, toN0, (orM_fr hM hf (by decide)).1]
    have e : a = oP O := by omega
    subst e
    exact ⟨in0 (by omega) (by omega), fun _ => hK μ1 hf hq, fun c => absurd (nI_le (Nat.le_refl _) (by omega)) c⟩
  | succ d ih =>
    intro a μ1 hd hf hq
    have aP : a < oP O := by omega
    have M1 := orM_fr hM hf (by decide)
    rw [wLX10_cuts_45, toN0, M1.1, cl (n := a) (by omega), (M1.2.2.1 a aP).1]
    have A := (hk.2.2.1 a aP).1
    refine ⟨in0 (by omega) (by omega), fun c => absurd c (nI_ge aP (by omega)), fun _ => ⟨vp_in_nI (by omega) (by omega), fun c z hz => ?_, fun c => ⟨1281, ?_⟩⟩⟩
    · have sa : ¬ oS O a = 0 := fun q => c (by rw [q]; rfl)
      rw [hz, add1]
      refine ih (a + 1) μ1 (by omega) hf (fun t ht => ?_)
      rw [hq t ht]
      have : FI O a t = FI O (a + 1) t := isMinO_u (minO_is (MIt O a t)) (minO_is (MIt O (a + 1) t)) (fun x => ⟨fun h => Or.inl h, fun h => by
        rcases h with h | ⟨h, -⟩
        · exact h
        · exact absurd h sa⟩)
      rw [this]
    · have sa : oS O a = 0 := (eqI rfl (b := 0) rfl (by omega) (by omega)).mp c
      refine m_cut66 (fun μ2 hf2 e2 => ⟨1025, ?_⟩) 1280 0 μ1 (by omega) frC.rf (fun u hu => absurd hu (Nat.not_lt_zero u))
      have M2 := orM_fr M1 hf2 (by decide)
      refine m_cut93 M2 hk aP sa (fun t ht => by rw [hf2.1 19 (by decide)]; exact hq t ht) (fun μ3 hf3 e3 => ⟨1281, ?_⟩) 1024 0 μ2 (by omega) frC.rf (fun t ht => ⟨FI O a t, isMinO_iff (minO_is (MIt O a t)) (fun x => ⟨fun h => Or.inl h, fun h => ?_⟩), by rw [e2 t ht]; exact hq t ht⟩)
      · rcases h with h | ⟨i', b', h, -⟩
        · exact h
        · omega
      · refine m_cut114 (fun μ4 hf4 e4 z hz => ?_) 1280 0 μ3 (by omega) frC.rf (fun u hu => absurd hu (Nat.not_lt_zero u))
        rw [hz, add1]
        exact ih (a + 1) μ4 (by omega) (((hf.tr (hf2.up (by decide))).tr (hf3.up (by decide))).tr (hf4.up (by decide))) (fun t ht => by rw [e4 t ht]; exact e3 t ht)
theorem FI_0 (O : Orc) (t : Nat) : FI O 0 t = if t = 0 then some 0 else none := by
  by_cases e : t = 0
  · subst e
    rw [if_pos rfl]
    exact isMinO_u (minO_is (MIt O 0 0)) (D := fun x => x = 0) (o' := some 0) ⟨rfl, fun x hx => by rw [hx]; exact Nat.le_refl _⟩ (fun x => ⟨fun h => h.2.2, fun h => ⟨rfl, rfl, h⟩⟩)
  · rw [if_neg e]
    refine isMinO_u (minO_is (MIt O 0 t)) (D := fun _ => False) (o' := none) (fun _ h => h) (fun x => ⟨fun h => ?_, fun h => h.elim⟩)
    have h1 : t / 256 = 0 := h.1
    have h2 : t % 256 = 0 := h.2.1
    omega
theorem m_cut13 {μ : St} {O : Orc} {f1 : Int32} {K : St → Prop} {P : Int32 → St → Prop} (hK : ∀ μ', frC [19] μ μ' → (∀ t, t < 1280 → μ'.1 19 t = nI (oMn (FI O 0 t))) → K μ') : ∀ d t μ1, t + d = 1280 → frC [19] μ μ1 → (∀ u, u < t → μ1.1 19 u = nI (oMn (FI O 0 u))) → wLX10_cuts_13 f1 K P (d + 1) μ1 (nI t) := by
  intro d
  induction d with
  | zero =>
    intro t μ1 ht hf hu
    rw [wLX10_cuts_13]
    exact ⟨fun _ => hK μ1 hf (fun u h => hu u (by omega)), fun c => absurd ((leI (a := 1280) rfl rfl (by omega) (by omega)).mpr (by omega)) c⟩
  | succ d ih =>
    intro t μ1 ht hf hu
    have go : ∀ v : Int32, v = nI (oMn (FI O 0 t)) → vp_in (nI t) 1280 ∧ ∀ σ7 : St, σ7 = sI μ1 19 t v → ∀ z8 : Int32, z8 = nI t + (1 : Int32) → wLX10_cuts_13 f1 K P (d + 1) σ7 z8 := fun v hv => ⟨vp_in_nI (by omega) (by omega), fun σ h z hz => by
      rw [hz, add1]
      refine ih (t + 1) σ (by omega) (by rw [h]; exact hf.wr (by decide)) (fun u hu' => ?_)
      by_cases e : u = t
      · subst e; rw [h, sI_at, hv]
      · rw [h, sI_off e]; exact hu u (by omega)⟩
    rw [wLX10_cuts_13, cl (n := t) (by omega)]
    refine ⟨fun c => absurd ((leI (a := 1280) rfl rfl (by omega) (by omega)).mp c) (by omega), fun _ => jn_in ⟨fun c => go _ ?_, fun c => go _ ?_⟩⟩
    · rw [FI_0, if_neg (fun e => c (by rw [e]; rfl))]; rfl
    · rw [FI_0, if_pos ((eqI rfl (b := 0) rfl (by omega) (by omega)).mp c)]; rfl
theorem m_cut151 {μ : St} {O : Orc} {k : Nat} {K : Int32 → Prop} {P : Int32 → St → Prop} (hk : oOk O) (k4 : k ≤ 4) (h19 : ∀ t, t < 1280 → μ.1 19 t = nI (oMn (FI O (oP O) t))) (hK : ∀ q, isMinO (fun c => ∃ R, R < 256 ∧ MLt O (oP O) k R c) q → K (nI (oMn q))) :
    ∀ d i q, i + d = 256 → isMinO (fun c => ∃ R, R < i ∧ MLt O (oP O) k R c) q → wLX10_cuts_151 (nI k) μ K P (d + 1) (nI (oMn q)) (nI i) := by
  intro d
  induction d with
  | zero =>
    intro i q hi hq
    rw [wLX10_cuts_151]
    have e : i = 256 := by omega
    subst e
    exact ⟨fun _ => hK q hq, fun c => absurd ((leI (a := 256) rfl rfl (by omega) (by omega)).mpr (by omega)) c⟩
  | succ d ih =>
    intro i q hi hq
    have d1 : (256 * k + i) / 256 = k := by omega
    have d2 : (256 * k + i) % 256 = i := by omega
    have m : isMinO (MIt O (oP O) (256 * k + i)) (FI O (oP O) (256 * k + i)) := minO_is _
    have nx : isMinO (fun c => ∃ R, R < i + 1 ∧ MLt O (oP O) k R c) (fewO q (FI O (oP O) (256 * k + i))) := by
      refine isMinO_iff (isMinO_or hq m) (fun x => ⟨?_, ?_⟩)
      · rintro (⟨R, r1, r2⟩ | h)
        · exact ⟨R, by omega, r2⟩
        · unfold MIt at h; rw [d1, d2] at h; exact ⟨i, by omega, h⟩
      · rintro ⟨R, r1, r2⟩
        by_cases e : R = i
        · subst e; exact Or.inr (by unfold MIt; rw [d1, d2]; exact r2)
        · exact Or.inl ⟨R, by omega, r2⟩
    have ql : oMn q ≤ 9999 := by
      cases q with
      | none => exact Nat.le_refl _
      | some v =>
        obtain ⟨⟨R, -, h⟩, -⟩ := hq
        have := (ML_lt hk (oP O) k R v (Nat.le_refl _) h).2
        show v ≤ 9999; omega
    have fl : oMn (FI O (oP O) (256 * k + i)) ≤ 9999 := by
      cases f : FI O (oP O) (256 * k + i) with
      | none => exact Nat.le_refl _
      | some v => have := (FI_le hk (Nat.le_refl _) f).1; show v ≤ 9999; omega
    rw [wLX10_cuts_151, show (256 : Int32) = nI 256 from rfl, pk_mul, nI_add, cl (n := 256 * k + i) (by omega), h19 _ (by omega)]
    refine ⟨fun c => absurd ((nI_leI (by omega) (by omega)).mp c) (by omega), fun _ => ⟨vp_in_nI (by omega) (by omega), fun c z hz => ?_, fun c => ⟨vp_in_nI (by omega) (by omega), fun z42 h42 z hz => ?_⟩⟩⟩
    · have c := (nI_leI (by omega) (by omega)).mp c
      rw [hz, add1]
      have := ih (i + 1) _ (by omega) nx
      have e : fewO q (FI O (oP O) (256 * k + i)) = q := by
        cases f : FI O (oP O) (256 * k + i) with
        | none => cases q <;> rfl
        | some v =>
          rw [f] at c
          have c : oMn q ≤ v := c
          have vl := (FI_le hk (Nat.le_refl _) f).1
          cases q with
          | none => exact absurd c (by show ¬ 9999 ≤ v; omega)
          | some w => have c : w ≤ v := c; show some (min w v) = some w; rw [Nat.min_eq_left c]
      rw [e] at this
      exact this
    · have c : ¬ oMn q ≤ oMn (FI O (oP O) (256 * k + i)) := fun h => c (nI_le h (by omega))
      rw [h42, hz, add1]
      have := ih (i + 1) _ (by omega) nx
      have e : oMn (fewO q (FI O (oP O) (256 * k + i))) = oMn (FI O (oP O) (256 * k + i)) := by
        cases f : FI O (oP O) (256 * k + i) with
        | none => rw [f] at c; exact absurd ql c
        | some v =>
          rw [f] at c
          have c : ¬ oMn q ≤ v := c
          cases q with
          | none => rfl
          | some w => have c : ¬ w ≤ v := c; show min w v = v; rw [Nat.min_eq_right (by omega)]
      rw [e] at this
      exact this
theorem m_cuts10 {μ : St} {O : Orc} {k : Int32} {P : Int32 → St → Prop} (hM : orM μ O) (hk : oOk O) (hP : ∀ μ', frC [19, 20] μ μ' → P (ansCuts O k) μ') : wX10_cuts μ k P := by
  unfold wX10_cuts
  refine m_inL (a := 1) (b := 4) (by omega) (by omega) ((br_b (fun q => ?_) (fun q => ?_)) |> fun h => ⟨fun c => h.2 c, fun c => h.1 c⟩)
  · have q : (decide (1 ≤ k.toInt) && decide (k.toInt ≤ 4)) = false := q
    have := hP μ frC.rf
    unfold ansCuts at this
    rw [if_neg (by rw [q]; decide)] at this; exact this
  · have q : (decide (1 ≤ k.toInt) && decide (k.toInt ≤ 4)) = true := q
    have q2 := q
    simp only [Bool.and_eq_true, decide_eq_true_eq] at q2
    obtain ⟨j, hj, rfl⟩ := inR_t (x := k) (n := 5) (by simp [inR]; omega) (by omega)
    unfold ansCuts at hP
    rw [if_pos q, cl (by omega)] at hP
    rw [toI (by omega)] at q2
    refine ⟨1281, m_cut13 (O := O) (fun μ1 hf1 e1 => ⟨oP O + 1, ?_⟩) 1280 0 μ (by omega) frC.rf (fun u hu => absurd hu (Nat.not_lt_zero u))⟩
    have M1 := orM_fr hM hf1 (by decide)
    refine m_cutL M1 hk (fun μ2 hf2 e2 => ⟨257, ?_⟩) (oP O) 0 μ1 (by omega) frC.rf e1
    have hP2 := hP μ2 ((hf1.up (by decide)).tr hf2)
    refine m_cut151 hk (by omega) e2 (fun q hq => ?_) 256 0 none (by omega) (fun x hx => by obtain ⟨R, h, -⟩ := hx; omega)
    -- what the right ones say, sets of people say
    have e : q = FK O j := isMinO_u hq (minO_is (fun c => ∃ s, Mat O s j c)) (fun x => ⟨?_, ?_⟩)
    · have ql : ∀ c, q = some c → c ≤ 32 := fun c h => by
        rw [h] at hq
        obtain ⟨⟨R, -, h⟩, -⟩ := hq
        have := (ML_lt hk (oP O) j R c (Nat.le_refl _) h).2
        omega
      rw [← e] at hP2
      cases q with
      | none => exact ⟨fun c => absurd rfl c, fun _ => hP2⟩
      | some v =>
        have vl := ql v rfl
        refine ⟨fun _ => hP2, fun c => ?_⟩
        have c := (eqI (a := v) (b := 9999) rfl rfl (by omega) (by omega)).mp c
        omega
    · rintro ⟨R, -, h⟩
      obtain ⟨s, m, -⟩ := ML_Mat (oP O) j R x (Nat.le_refl _) h
      exact ⟨s, m⟩
    · rintro ⟨s, m⟩
      obtain ⟨R, -, h⟩ := Mat_ML hk (oP O) (Nat.le_refl _) s j x m (fun y hy _ => bit_lt (Mat_lt m) hy)
      exact ⟨R, (ML_lt hk _ _ _ _ (Nat.le_refl _) h).1, h⟩
