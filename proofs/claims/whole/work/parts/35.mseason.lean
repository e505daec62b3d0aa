/-! the reference's season -/
def fS (μ μ' : St) : Prop := frC [12, 14, 15] μ μ' ∧ ∀ j, (j < 12 ∨ 24 ≤ j) → μ'.1 12 j = μ.1 12 j
theorem fS.rf {μ : St} : fS μ μ := ⟨frC.rf, fun _ _ => rfl⟩
theorem fS.tr {a b c : St} (h : fS a b) (g : fS b c) : fS a c := ⟨h.1.tr g.1, fun j hj => (g.2 j hj).trans (h.2 j hj)⟩
theorem fS_12 {μ μ' : St} (h : f12 12 μ μ') : fS μ μ' := ⟨h.1.up (by decide), h.2⟩
theorem fS_b {μ μ' : St} (h : frC [14, 15] μ μ') : fS μ μ' := ⟨h.up (by decide), fun j _ => by rw [h.1 12 (by decide)]⟩
theorem fS_M {O : Orc} {μ μ' : St} (h : fS μ μ') (hM : orM μ O) : orM μ' O := orM_fr hM h.1 (by decide)
theorem m_carry {μ : St} {O : Orc} {N : Nw} {f1 f2 f3 : Int32} {K : St → Prop} {P : Int32 → St → Prop} (hk : oOk O) (hNk : nOk (oT O) N) (hM : orM μ O) (hp : ∀ t, t < oT O → μ.1 15 t = paV (cqF O N t (tkN O N t))) (hK : ∀ μ', f12 12 μ μ' → nwM μ' 12 (oT O) (caN O N (oT O)) → K μ') :
    ∀ d t μ1, t + d = oT O → f12 12 μ μ1 → nwM μ1 12 (oT O) (caN O N t) → wLX10_season_46 f1 f2 f3 K P (d + 1) μ1 (nI t) := by
  have h8 := hk.1
  have h5 := hk.2.1
  intro d
  induction d with
  | zero =>
    intro t μ1 hd hf h1
    rw [wLX10_season_46, toN0, (f12_M hf hM).2.1]
    have e : t = oT O := by omega
    subst e
    exact ⟨in0 (by omega) (by omega), fun _ => hK μ1 hf h1, fun c => absurd (nI_le (Nat.le_refl _) (by omega)) c⟩
  | succ d ih =>
    intro t μ1 hd hf h1
    have tT : t < oT O := by omega
    have M1 := f12_M hf hM
    have e15 : μ1.1 15 t = paV (cqF O N t (tkN O N t)) := by rw [hf.1.1 15 (by decide)]; exact hp t tT
    rw [wLX10_season_46, toN0, M1.2.1, cl (n := t) (by omega), e15]
    refine ⟨in0 (by omega) (by omega), fun c => absurd c (nI_ge (by omega) (by omega)), fun _ => ⟨vp_in_nI (by omega) (by omega), ?_⟩⟩
    cases e : cqF O N t (tkN O N t) with
    | none =>
      refine ⟨fun _ z hz => ?_, fun c => absurd rfl c⟩
      rw [hz, add1]
      have := ih (t + 1) μ1 (by omega) hf
      rw [caN, e] at this
      exact this h1
    | some q =>
      obtain ⟨a, b⟩ := q
      obtain ⟨q1, q2, q3⟩ := cqF_some e
      obtain ⟨ha, hb, -, -⟩ := prs_mem.mp q1
      have pv : paV (some (a, b)) = nI (10 * a + b) := rfl
      rw [pv]
      obtain ⟨e1, e2⟩ := divmod10 (c := 10 * a + b) (by omega)
      have d1 : (10 * a + b) / 10 = a := by omega
      have d2 : (10 * a + b) % 10 = b := by omega
      have ne : ¬ nI (10 * a + b) = (-9 : Int32) := fun c => by
        have : (nI (10 * a + b)).toInt = (-9 : Int32).toInt := by rw [c]
        rw [toI (by omega), show (-9 : Int32).toInt = -9 from rfl] at this
        omega
      refine ⟨fun c => absurd c ne, fun _ => ⟨vp_in_nI (by omega) (by omega), m_leftOf (by omega) ⟨vp_in_nI (by omega) (by omega), ?_⟩⟩⟩
      rw [e2, d1, d2]
      unfold cB at q2
      rw [Bool.and_eq_true, decide_eq_true_eq] at q2
      have el := caN_left O N t t (Nat.le_refl _)
      refine m_climbs (s := 12) M1 hk (by omega) h1 (by rw [el]; exact hNk.2.2.2 t tT) ha hb tT (fun μ' hf' h' z hz => ?_)
      rw [hz, add1]
      rw [el, ← pk_val q2.1] at h'
      have := ih (t + 1) μ' (by omega) (hf.tr hf')
      rw [caN, e] at this
      exact this h'
theorem m_seaL {μ : St} {O : Orc} {k : Nat} {P : Int32 → St → Prop} (hk : oOk O) (hk8 : k ≤ 8) : ∀ (d i : Nat) (μ1 : St) (N : Nw) (acc : Nat), i + d = k → orM μ1 O → nwM μ1 12 (oT O) N → nOk (oT O) N → nD N ≤ 30 → fS μ μ1 → (∀ μ', fS μ μ' → P (nI (acc + seaN O d N)) μ') → wLX10_season_23 (nI k) (fun (σ27 : St) (y26 : Int32) => P y26 σ27) P (d + 1) μ1 (nI acc) (nI i) := by
  have h5 := hk.2.1
  intro d
  induction d with
  | zero =>
    intro i μ1 N acc hi hM hN hNk hd hf hK
    rw [wLX10_season_23]
    exact ⟨fun _ => hK μ1 hf, fun c => absurd (nI_le (by omega) (by omega)) c⟩
  | succ d ih =>
    intro i μ1 N acc hi hM hN hNk hd hf hK
    rw [wLX10_season_23]
    refine ⟨fun c => absurd c (nI_ge (by omega) (by omega)), fun _ => m_findBest (s := 12) hM hk (by omega) hN hNk (fun μ5 hf5 e14 e15 => ⟨in0 (by omega) (by omega), fun z7 h7 => ⟨oT O + 1, ?_⟩⟩)⟩
    rw [toN0, e14, nI_add] at h7
    subst h7
    have M5 := orM_fr hM hf5 (by decide)
    have N5 : nwM μ5 12 (oT O) N := nwM_kept hN (fun j _ _ => by rw [hf5.1 12 (by decide)])
    have F5 := hf.tr (fS_b hf5)
    obtain ⟨ok, dd⟩ := caN_ok hk hNk (oT O) (Nat.le_refl _)
    refine m_carry hk hNk M5 e15 (fun μ6 hf6 N6 => ?_) (oT O) 0 μ5 (by omega) f12.rf N5
    have F6 := F5.tr (fS_12 hf6)
    have M6 := f12_M hf6 M5
    have e12 : μ6.1 12 12 = nI (nD N) := by rw [← dd]; exact N6.1
    rw [show (12 : Int32).toNatClampNeg = 12 from rfl, e12]
    refine ⟨inI (a := 12) rfl (by omega) (by omega), fun c => ?_, fun c => ?_⟩
    · have c : ¬ nD N = 30 := fun q => c (by rw [q]; rfl)
      refine m_endDay (s := 12) M6 hk (by omega) N6 (by omega) (fun μ7 hf7 N7 z hz => ?_)
      rw [hz, add1]
      refine ih (i + 1) μ7 (nEnd O (caN O N (oT O))) (acc + D_ O N 0 0) (by omega) (f12_M hf7 M6) N7 (nEnd_ok ok (by omega)) (by show nD (caN O N (oT O)) + 1 ≤ 30; omega) (F6.tr (fS_12 hf7)) (fun μ' hf' => ?_)
      have := hK μ' hf'
      rw [seaN, if_neg c, ← Nat.add_assoc] at this
      exact this
    · have c := (eqI rfl (b := 30) rfl (by omega) (by omega)).mp c
      have := hK μ6 F6
      rw [seaN, if_pos c, Nat.add_zero] at this
      exact this
theorem m_season10 {μ : St} {O : Orc} {N : Nw} {k : Int32} {P : Int32 → St → Prop} (hM : orM μ O) (hk : oOk O) (hN : nwM μ 0 (oT O) N) (hNk : nOk (oT O) N) (hd : nD N ≤ 30) (hP : ∀ μ', fS μ μ' → P (ansSeason O N k) μ') : wX10_season μ k P := by
  unfold wX10_season
  refine m_inL (a := 1) (b := 8) (by omega) (by omega) ((br_b (fun q => ?_) (fun q => ?_)) |> fun h => ⟨fun c => h.2 c, fun c => h.1 c⟩)
  · have := hP μ fS.rf
    unfold ansSeason at this
    rw [if_neg (by
      have q : (decide (1 ≤ k.toInt) && decide (k.toInt ≤ 8)) = false := q
      rw [q]; decide)] at this
    exact this
  · have q' : (decide (1 ≤ k.toInt) && decide (k.toInt ≤ 8)) = true := q
    have q2 := q'
    simp only [Bool.and_eq_true, decide_eq_true_eq] at q2
    obtain ⟨j, hj, rfl⟩ := inR_t (x := k) (n := 9) (by simp [inR]; omega) (by omega)
    refine m_copy (f1 := 0) (f2 := 12) hk.2.1 (by omega) (by omega) (by omega) hN (fun μ3 hf3 N3 => ⟨j + 1, ?_⟩)
    refine m_seaL (μ := μ) hk (by omega) j 0 μ3 N 0 (by omega) (f12_M hf3 hM) N3 hNk hd (fS_12 hf3) (fun μ' hf' => ?_)
    have := hP μ' hf'
    unfold ansSeason at this
    rw [if_pos q', cl (by omega)] at this
    rw [Nat.zero_add]
    exact this
