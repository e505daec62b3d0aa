/-! the class's days -/
def cor (σ : St) (O : Orc) : Prop := isO σ.2.2.1 ∧ orC σ σ.2.2.1 O ∧ prC σ O (prs O) ∧ σ.1 25 1 = nI (allL O (oP O))
theorem cor_fr {S : List Nat} {σ σ' : St} {O : Orc} (h : cor σ O) (hf : frC S σ σ') (hs : ∀ k, k ∈ S → k < 7 ∨ 32 ≤ k) : cor σ' O := by
  obtain ⟨h1, h2, h3, h4⟩ := h
  refine ⟨by rw [hf.2]; exact h1, by rw [hf.2]; exact orC_fr h1 h2 hf (fun k hk => by have := hs k hk; omega), prC_kept h3 (fun k k1 k2 => hf.1 k (fun q => by have := hs k q; omega)), ?_⟩
  rw [hf.1 25 (fun q => by have := hs 25 q; omega)]; exact h4
/-- the days' numbers as the plan has them carried out, up to tree t -/
def caN (O : Orc) (N : Nw) : Nat → Nw
  | 0 => N
  | t + 1 => match cqF O N t (tkN O N t) with
    | none => caN O N t
    | some q => nPick (caN O N t) q t (pkN O N q t)
theorem caN_left (O : Orc) (N : Nw) : ∀ t u, t ≤ u → nB (caN O N t) u = nB N u := by
  intro t
  induction t with
  | zero => intro u _; rfl
  | succ t ih =>
    intro u hu
    rw [caN]
    split
    · exact ih u (by omega)
    · show (if u = t then _ else nB (caN O N t) u) = _
      rw [if_neg (by omega)]; exact ih u (by omega)
theorem pkN_left (O : Orc) (N : Nw) (q : Nat × Nat) (t : Nat) : pkN O N q t ≤ nB N t := by
  unfold pkN
  split
  · exact Nat.min_le_right _ _
  · exact Nat.zero_le _
theorem nPick_ok {T t b a c : Nat} {N : Nw} (h : nOk T N) (hT : t < 5) (ha : a < 8) (hc : c < 8) : nOk T (nPick N (a, c) t b) := by
  obtain ⟨h1, h2, h3, h4⟩ := h
  refine ⟨h1, Nat.or_lt_two_pow (n := 8) h2 (two_lt ha hc), Nat.or_lt_two_pow (n := 5) h3 (Nat.pow_lt_pow_right (by omega) hT), fun u hu => ?_⟩
  show (if u = t then nB N t - b else nB N u) ≤ 198
  have := h4 u hu
  split
  · rename_i e; subst e; omega
  · exact this
theorem caN_ok {O : Orc} (hk : oOk O) {N : Nw} (h : nOk (oT O) N) : ∀ t, t ≤ oT O → nOk (oT O) (caN O N t) ∧ nD (caN O N t) = nD N := by
  have h8 := hk.1
  have h5 := hk.2.1
  intro t
  induction t with
  | zero => intro _; exact ⟨h, rfl⟩
  | succ t ih =>
    intro ht
    obtain ⟨i1, i2⟩ := ih (by omega)
    rw [caN]
    cases e : cqF O N t (tkN O N t) with
    | none => exact ⟨i1, i2⟩
    | some q =>
      obtain ⟨a, b⟩ := q
      obtain ⟨ha, hb, -, -⟩ := prs_mem.mp (cqF_some e).1
      exact ⟨nPick_ok i1 (by omega) (by omega) (by omega), i2⟩
theorem nEnd_ok {O : Orc} {T : Nat} {N : Nw} (h : nOk T N) (hd : nD N ≤ 30) : nOk T (nEnd O N) := by
  refine ⟨by show nD N + 1 ≤ 31; omega, by show 0 < 256; omega, by show 0 < 32; omega, fun t ht => ?_⟩
  show (if nGone O (nD N + 1) t = true then 0 else nB N t) ≤ 198
  have := h.2.2.2 t ht
  split
  · omega
  · exact this
theorem s_carryOut {σ : St} {o n : Nat} {O : Orc} {N : Nw} {P : St → Prop} (ho : isO o) (hn : isN n) (hO : orC σ o O) (hk : oOk O) (hp : prC σ O (prs O)) (hN : nwC σ n (oT O) N) (hg : ∀ t, t < oT O → gaC σ O N t) (hc : ∀ t, t < oT O → chC σ O N t)
    (hP : ∀ σ', frC [n, n + 1] σ σ' → nwC σ' n (oT O) (caN O N (oT O)) → P σ') : wX5_carryOut σ o n P := by
  have h8 := hk.1
  have h5 := hk.2.1
  have hl := prs_len hk
  have hno := isO_N ho hn
  have nr := isN_r hn
  unfold wX5_carryOut
  refine ⟨ho, hn, oT O + 1, ?_⟩
  have step : ∀ d t σ1, t + d = oT O → frC [n, n + 1] σ σ1 → nwC σ1 n (oT O) (caN O N t) → wLX5_carryOut_3 o n (fun σ11 => P σ11) P (d + 1) σ1 (nI t) := by
    intro d
    induction d with
    | zero =>
      intro t σ1 hd hf h1
      rw [wLX5_carryOut_3]
      have hO1 : orC σ1 o O := orC_kept hO (fun k h1 h2 => hf.1 k (by simp; omega))
      rw [hO1.2.1]
      exact ⟨fun _ => hP σ1 hf (by rw [show oT O = t by omega] at h1 ⊢; exact h1), fun c => absurd (nI_le (by omega) (by omega)) c⟩
    | succ d ih =>
      intro t σ1 hd hf h1
      have tT : t < oT O := by omega
      rw [wLX5_carryOut_3]
      have hO1 : orC σ1 o O := orC_kept hO (fun k h1 h2 => hf.1 k (by simp; omega))
      have ch := hc t tT
      have e51 : σ1.1 51 = σ.1 51 := hf.1 51 (by simp; omega)
      rw [hO1.2.1, cl (by omega), e51]
      refine ⟨fun c => absurd c (nI_ge (by omega) (by omega)), fun _ => ⟨vp_in_nI (by omega) (by omega), fun z3 h3 => ?_⟩⟩
      unfold chC at ch
      cases e : cqF O N t (tkN O N t) with
      | none =>
        rw [e] at ch
        have ch : σ.1 51 t = -1 := ch
        rw [ch] at h3
        subst h3
        refine ⟨fun _ z hz => ?_, fun c => absurd rfl c⟩
        rw [hz, add1]
        have := ih (t + 1) σ1 (by omega) hf
        rw [caN, e] at this
        exact this h1
      | some q =>
        rw [e] at ch
        obtain ⟨i, hi, ei⟩ := ch
        obtain ⟨a, b⟩ := q
        have hil : i < (prs O).length := (List.getElem?_eq_some_iff.mp hi).1
        rw [ei] at h3
        subst h3
        have ne : ¬ nI i = (-1 : Int32) := fun c => by
          have : (nI i).toInt = (-1 : Int32).toInt := by rw [c]
          rw [toI (by omega), show (-1 : Int32).toInt = -1 from rfl] at this
          omega
        refine ⟨fun c => absurd c ne, fun _ => ?_⟩
        rw [cl (by omega), hf.1 28 (by simp; omega), (hp.2 i a b hi).2.2.1, hf.1 (53 + t) (by simp; omega), hg t tT i a b hi]
        have bl := pkN_left O N (a, b) t
        refine ⟨vp_in_nI (by omega) (by omega), vp_in_nI (by omega) (by omega), vp_in_nI (by omega) (by omega), s_pick (q := (a, b)) hn h5 h1 tT (by rw [caN_left O N t t (Nat.le_refl _)]; exact bl) (fun σ9 hf9 h9 z hz => ?_)⟩
        rw [hz, add1]
        have := ih (t + 1) σ9 (by omega) (hf.tr hf9)
        rw [caN, e] at this
        exact this h9
  exact step (oT O) 0 σ (by omega) frC.rf hN
def ansBest (O : Orc) (N : Nw) (t : Int32) : Int32 := if t = -1 then nI (D_ O N 0 0) else if inR t (oT O) = true then (match cqF O N t.toNatClampNeg (tkN O N t.toNatClampNeg) with
    | none => -9
    | some q => nI (10 * q.1 + q.2)) else -1
theorem s_best9 {σ : St} {O : Orc} {N : Nw} {t : Int32} {P : Int32 → St → Prop} (hc : cor σ O) (hk : oOk O) (hN : nwC σ 65 (oT O) N) (hNk : nOk (oT O) N) (hP : ∀ σ', frC S51 σ σ' → P (ansBest O N t) σ') : wX9_best σ t P := by
  have h5 := hk.2.1
  obtain ⟨ho, hO, hp, hL⟩ := hc
  have go : (t = -1 ∨ inR t (oT O) = true) → isO σ.2.2.1 ∧ wX5_make σ (σ.2.2.1) 65 (fun (r3 : Int32) (σ4 : St) => (¬ t = (-1 : Int32) → vp_in t 5 ∧ ∀ z7 : Int32, z7 = (σ4.1 51 t.toNatClampNeg) → (¬ z7 = (-1 : Int32) → wX4_numberOf σ4 z7 (fun r9 : Int32 => P r9 σ4)) ∧ (z7 = (-1 : Int32) → P (-9 : Int32) σ4)) ∧ (t = (-1 : Int32) → P r3 σ4)) := fun ht => by
    refine ⟨ho, s_make ho isN_65 hO hk hp hL hN hNk (fun σ4 hf hg hch => ⟨fun c => ?_, fun c => ?_⟩)⟩
    · have hin : inR t (oT O) = true := by rcases ht with q | q; exact absurd q c; exact q
      have hP4 := hP σ4 hf
      obtain ⟨k, hkT, rfl⟩ := inR_t hin (by omega)
      unfold ansBest at hP4
      rw [if_neg c, if_pos hin, cl (by omega)] at hP4
      have ch := hch k hkT
      rw [cl (by omega)]
      refine ⟨vp_in_nI (by omega) (by omega), fun z7 h7 => ?_⟩
      unfold chC at ch
      cases e : cqF O N k (tkN O N k) with
      | none =>
        rw [e] at ch hP4
        rw [h7, show σ4.1 51 k = -1 from ch]
        exact ⟨fun c => absurd rfl c, fun _ => hP4⟩
      | some q =>
        rw [e] at ch hP4
        obtain ⟨i, hi, ei⟩ := ch
        obtain ⟨a, b⟩ := q
        have hil : i < (prs O).length := (List.getElem?_eq_some_iff.mp hi).1
        have hl := prs_len hk
        rw [h7, ei]
        refine ⟨fun _ => s_numberOf hk (prC_kept hp (fun k h1 h2 => hf.1 k (fun q => by have := S51_r q; omega))) hi hP4, fun c => ?_⟩
        have : (nI i).toInt = (-1 : Int32).toInt := by rw [c]
        rw [toI (by omega), show (-1 : Int32).toInt = -1 from rfl] at this
        omega
    · have hP4 := hP σ4 hf
      unfold ansBest at hP4
      rw [if_pos c] at hP4
      exact hP4
  unfold wX9_best
  refine jn_in ⟨fun c => go (Or.inl c), fun c => ⟨ho, s_hasTree ho hO.2.1 (by omega) ⟨fun c2 => go (Or.inr (bI_ne.mp c2)), fun c2 => ?_⟩⟩⟩
  have hP := hP σ frC.rf
  unfold ansBest at hP
  rw [if_neg c, if_neg (by rw [bI_eq0.mp c2]; decide)] at hP
  exact hP
/-- so many days, each as BEST tells -/
def seaN (O : Orc) : Nat → Nw → Nat
  | 0, _ => 0
  | k + 1, N => D_ O N 0 0 + (if nD N = 30 then 0 else seaN O k (nEnd O (caN O N (oT O))))
def ansSeason (O : Orc) (N : Nw) (k : Int32) : Int32 := if (decide (1 ≤ k.toInt) && decide (k.toInt ≤ 8)) = true then nI (seaN O k.toNatClampNeg N) else -1
theorem S51_67 : ∀ k, k ∈ S51 ++ [67, 68] → k < 7 ∨ 32 ≤ k := by decide
theorem s_seaL {σ : St} {O : Orc} {k : Nat} {K : St → Int32 → Prop} {P : Int32 → St → Prop} (hk : oOk O) (hk8 : k ≤ 8) : ∀ (d i : Nat) (σ1 : St) (N : Nw) (acc : Nat), i + d = k → cor σ1 O → nwC σ1 67 (oT O) N → nOk (oT O) N → nD N ≤ 30 → frC (S51 ++ [67, 68]) σ σ1 → (∀ σ', frC (S51 ++ [67, 68]) σ σ' → K σ' (nI (acc + seaN O d N))) → wLX9_season_28 (nI k) K P (d + 2) σ1 (nI acc) (nI i) := by
  intro d
  induction d with
  | zero =>
    intro i σ1 N acc hi hc hN hNk hd hf hK
    rw [wLX9_season_28]
    exact ⟨fun _ => hK σ1 hf, fun c => absurd (nI_le (by omega) (by omega)) c⟩
  | succ d ih =>
    intro i σ1 N acc hi hc hN hNk hd hf hK
    rw [wLX9_season_28, hN.1]
    refine ⟨fun c => absurd c (nI_ge (by omega) (by omega)), fun _ => ⟨fun c => absurd ((ltI (a := 30) rfl rfl (by omega) (by omega)).mp c) (by omega), fun _ => ⟨hc.1, s_make hc.1 isN_67 hc.2.1 hk hc.2.2.1 hc.2.2.2 hN hNk (fun σ8 hf8 hg hch z9 h9 => ?_)⟩⟩⟩
    have c8 := cor_fr hc hf8 (fun k hk => by have := S51_r hk; omega)
    have N8 : nwC σ8 67 (oT O) N := nwC_kept hN (hf8.1 67 (by decide)) (hf8.1 68 (by decide))
    refine ⟨c8.1, s_carryOut c8.1 isN_67 c8.2.1 hk c8.2.2.1 N8 hg hch (fun σ11 hf11 N11 => ?_)⟩
    have c11 := cor_fr c8 hf11 (by decide)
    obtain ⟨ok11, d11⟩ := caN_ok hk hNk (oT O) (Nat.le_refl _)
    refine ⟨c11.1, s_endDay isN_67 c11.1 c11.2.1 hk N11 (by omega) (fun σ14 hf14 N14 z15 h15 => ?_)⟩
    have c14 := cor_fr c11 hf14 (by decide)
    have F14 : frC (S51 ++ [67, 68]) σ σ14 := ((hf.tr (hf8.up (by decide))).tr (hf11.up (by decide))).tr (hf14.up (by decide))
    rw [h9, nI_add, h15, add1 i]
    by_cases e : nD N = 30
    · -- the last day: the next round stops
      show wLX9_season_28 (nI k) K P (d + 1 + 1) σ14 _ _
      rw [wLX9_season_28, N14.1]
      have hK14 := hK σ14 F14
      rw [seaN, if_pos e, Nat.add_zero] at hK14
      refine ⟨fun _ => hK14, fun _ => ⟨fun _ => hK14, fun c => absurd ((ltI (a := 30) rfl rfl (by omega) (by show nD (caN O N (oT O)) + 1 < 2 ^ 31; omega)).mpr (by show 30 < nD (caN O N (oT O)) + 1; omega)) c⟩⟩
    · refine ih (i + 1) σ14 (nEnd O (caN O N (oT O))) (acc + D_ O N 0 0) (by omega) c14 N14 (nEnd_ok ok11 (by omega)) (by show nD (caN O N (oT O)) + 1 ≤ 30; omega) F14 (fun σ' hf' => ?_)
      have := hK σ' hf'
      rw [seaN, if_neg e, ← Nat.add_assoc] at this
      exact this
theorem s_season9 {σ : St} {O : Orc} {N : Nw} {k : Int32} {P : Int32 → St → Prop} (hc : cor σ O) (hk : oOk O) (hN : nwC σ 65 (oT O) N) (hNk : nOk (oT O) N) (hd : nD N ≤ 30) (hP : ∀ σ', frC (S51 ++ [67, 68]) σ σ' → P (ansSeason O N k) σ') : wX9_season σ k P := by
  have bad : ¬ (1 ≤ k.toInt ∧ k.toInt ≤ 8) → P (-1) σ := fun h => by
    have := hP σ frC.rf
    unfold ansSeason at this
    rw [if_neg (by simp only [Bool.and_eq_true, decide_eq_true_eq]; exact h)] at this
    exact this
  unfold wX9_season
  refine ⟨fun c => bad (fun q => ?_), fun c => ⟨fun c2 => ?_, fun c2 => bad (fun q => c2 ?_)⟩⟩
  · have c := Int32.lt_iff_toInt_lt.mp c
    rw [show (1 : Int32).toInt = 1 from rfl] at c
    omega
  · have c1 : ¬ k.toInt < 1 := fun q => c (Int32.lt_iff_toInt_lt.mpr q)
    have c2 := Int32.le_iff_toInt_le.mp c2
    rw [show (8 : Int32).toInt = 8 from rfl] at c2
    obtain ⟨j, hj, rfl⟩ := inR_t (x := k) (n := 9) (by simp [inR]; omega) (by omega)
    rw [toI (by omega)] at c1 c2
    refine s_become hk.2.1 isN_67 isN_65 (by decide) hN (fun σ3 hf3 N3 => ⟨j + 2, ?_⟩)
    refine s_seaL (σ := σ) hk (by omega) j 0 σ3 N 0 (by omega) (cor_fr hc hf3 (by decide)) N3 hNk hd (hf3.up (by decide)) (fun σ' hf' => ?_)
    have := hP σ' hf'
    unfold ansSeason at this
    rw [toI (by omega), if_pos (by simp; omega), cl (by omega)] at this
    rw [Nat.zero_add]
    exact this
  · exact Int32.le_iff_toInt_le.mpr q.2
