/-! the reference's days go on -/
def f12 (s : Nat) (μ μ' : St) : Prop := frC [12] μ μ' ∧ ∀ j, (j < s ∨ s + 12 ≤ j) → μ'.1 12 j = μ.1 12 j
theorem f12.rf {s : Nat} {μ : St} : f12 s μ μ := ⟨frC.rf, fun _ _ => rfl⟩
theorem f12.tr {s : Nat} {a b c : St} (h : f12 s a b) (g : f12 s b c) : f12 s a c := ⟨h.1.tr g.1, fun j hj => (g.2 j hj).trans (h.2 j hj)⟩
theorem f12.wr {s j : Nat} {v : Int32} {μ μ' : St} (h : f12 s μ μ') (h1 : s ≤ j) (h2 : j < s + 12) : f12 s μ (sI μ' 12 j v) := ⟨h.1.wr (by decide), fun i hi => by rw [sI_off (by omega)]; exact h.2 i hi⟩
theorem f12_nw {s s' T : Nat} {N : Nw} {μ μ' : St} (h : f12 s μ μ') (hN : nwM μ s' T N) (hT : T ≤ 5) (hs : s' + 12 ≤ s ∨ s + 12 ≤ s') : nwM μ' s' T N :=
  nwM_kept hN (fun j h1 h2 => h.2 j (by omega))
theorem f12_M {s : Nat} {O : Orc} {μ μ' : St} (h : f12 s μ μ') (hM : orM μ O) : orM μ' O := orM_fr hM h.1 (by decide)
theorem s12 (μ : St) (i j : Nat) (v : Int32) : (sI μ 12 i v).1 12 j = if j = i then v else μ.1 12 j := by rw [sI_get]; simp
theorem m_climbs {μ : St} {O : Orc} {N : Nw} {s a b t : Nat} {P : Int32 → St → Prop} (hM : orM μ O) (hk : oOk O) (hs : s ≤ 36) (hN : nwM μ s (oT O) N) (hl : nB N t ≤ 198) (ha : a < oP O) (hb : b < oP O) (ht : t < oT O)
    (hP : ∀ μ', f12 s μ μ' → nwM μ' s (oT O) (nPick N (a, b) t (min (oC O a + oC O b) (nB N t))) → P (nI (min (oC O a + oC O b) (nB N t))) μ') : wX10_climbs μ (nI s) (nI a) (nI b) (nI t) P := by
  have h8 := hk.1
  have h5 := hk.2.1
  unfold wX10_climbs
  refine m_picks hM hk hs hN hl ha hb ht ?_
  obtain ⟨a0, a1, a2, a3, a4, a5, a6⟩ := hN
  generalize hv : min (oC O a + oC O b) (nB N t) = v at hP ⊢
  have vl : v ≤ nB N t := by omega
  rw [ix6 hs (by omega), ix1 hs, ix3 hs, ix4 hs, a6 t ht, pk_sub vl, shl1 (k := a) (by omega), shl1 (k := b) (by omega), shl1 (k := t) (by omega), orN]
  refine ⟨vx6 hs (by omega), vx6 hs (by omega), fun σ4 h4 => ⟨vx1 hs, vx1 hs, fun σ7 h7 => ⟨vx3 hs, vx3 hs, fun σ10 h10 => ⟨vx4 hs, vx4 hs, fun σ13 h13 => hP σ13 ?_ ?_⟩⟩⟩⟩
  · rw [h13, h10, h7, h4]
    exact (((f12.rf.wr (by omega) (by omega)).wr (by omega) (by omega)).wr (by omega) (by omega)).wr (by omega) (by omega)
  · have e1 : σ4.1 12 (s + 1) = nP N := by rw [h4, s12, if_neg (by omega)]; exact a1
    rw [e1] at h7
    have e3 : σ7.1 12 (s + 3) = nI (nC N) := by rw [h7, s12, if_neg (by omega), h4, s12, if_neg (by omega)]; exact a3
    rw [e3, orN] at h10
    have e4 : σ10.1 12 (s + 4) = nI (nK N) := by rw [h10, s12, if_neg (by omega), h7, s12, if_neg (by omega), h4, s12, if_neg (by omega)]; exact a4
    rw [e4, orN] at h13
    have e : ∀ j, σ13.1 12 j = if j = s + 4 then nI (nK N ||| 2 ^ t) else if j = s + 3 then nI (nC N ||| (2 ^ a ||| 2 ^ b)) else if j = s + 1 then nP N + nI v else if j = s + 6 + t then nI (nB N t - v) else μ.1 12 j := fun j => by
      rw [h13, s12, h10, s12, h7, s12, h4, s12]
    refine ⟨?_, ?_, ?_, ?_, ?_, ?_, fun u hu => ?_⟩
    · rw [e, if_neg (by omega), if_neg (by omega), if_neg (by omega), if_neg (by omega)]; exact a0
    · rw [e, if_neg (by omega), if_neg (by omega), if_pos rfl]; rfl
    · rw [e, if_neg (by omega), if_neg (by omega), if_neg (by omega), if_neg (by omega)]; exact a2
    · rw [e, if_neg (by omega), if_pos rfl]; rfl
    · rw [e, if_pos rfl]; rfl
    · rw [e, if_neg (by omega), if_neg (by omega), if_neg (by omega), if_neg (by omega)]; exact a5
    · rw [e, if_neg (by omega), if_neg (by omega), if_neg (by omega)]
      show _ = nI (if u = t then nB N t - v else nB N u)
      by_cases q : u = t
      · subst q; rw [if_pos rfl, if_pos rfl]
      · rw [if_neg (by omega), if_neg q]; exact a6 u hu
theorem m_endDay {μ : St} {O : Orc} {N : Nw} {s : Nat} {P : Int32 → St → Prop} (hM : orM μ O) (hk : oOk O) (hs : s ≤ 36) (hN : nwM μ s (oT O) N) (hd : nD N ≤ 31)
    (hP : ∀ μ', f12 s μ μ' → nwM μ' s (oT O) (nEnd O N) → P (nI (nFalls O N (oT O))) μ') : wX10_endDay μ (nI s) P := by
  have h5 := hk.2.1
  obtain ⟨a0, a1, a2, a3, a4, a5, a6⟩ := hN
  unfold wX10_endDay
  rw [ix0 hs, ix3 hs, ix4 hs, ix2 hs, a0, add1]
  refine ⟨vx0 hs, vx0 hs, fun σ3 h3 => ⟨vx3 hs, fun σ5 h5' => ⟨vx4 hs, fun σ7 h7 => ⟨oT O + 1, ?_⟩⟩⟩⟩
  have F7 : f12 s μ σ7 := by rw [h7, h5', h3]; exact ((f12.rf.wr (by omega) (by omega)).wr (by omega) (by omega)).wr (by omega) (by omega)
  have e7 : ∀ j, σ7.1 12 j = if j = s + 4 then 0 else if j = s + 3 then 0 else if j = s then nI (nD N + 1) else μ.1 12 j := fun j => by
    rw [h7, s12, h5', s12, h3, s12]
  have step : ∀ d i σ8, i + d = oT O → f12 s μ σ8 → (∀ j, (j < s + 6 ∨ s + 6 + oT O ≤ j) → σ8.1 12 j = σ7.1 12 j) → (∀ t, t < oT O → σ8.1 12 (s + 6 + t) = if t < i ∧ nGone O (nD N + 1) t = true then 0 else nI (nB N t)) →
      wLX10_endDay_34 (nI s) (fun (σ20 : St) (y19 : Int32) => vp_in (nI s + (2 : Int32)) 48 ∧ vp_in (nI s + (2 : Int32)) 48 ∧ ∀ σ23 : St, σ23 = sI σ20 12 (s + 2) ((σ20.1 12 (s + 2)) + y19) → P y19 σ23) P (d + 1) σ8 (nI (nFalls O N i)) (nI i) := by
    intro d
    induction d with
    | zero =>
      intro i σ8 hi hf hs8 hb
      have e : i = oT O := by omega
      subst e
      rw [wLX10_endDay_34, toN0, (f12_M hf hM).2.1]
      refine ⟨in0 (by omega) (by omega), fun _ => ⟨vx2 hs, vx2 hs, fun σ23 h23 => hP σ23 (by rw [h23]; exact hf.wr (by omega) (by omega)) ?_⟩, fun c => absurd (nI_le (Nat.le_refl _) (by omega)) c⟩
      rw [hs8 (s + 2) (by omega), e7, if_neg (by omega), if_neg (by omega), if_neg (by omega), a2] at h23
      have e : ∀ j, j < s + 6 → σ23.1 12 j = if j = s + 2 then nF N + nI (nFalls O N (oT O)) else if j = s + 4 then 0 else if j = s + 3 then 0 else if j = s then nI (nD N + 1) else μ.1 12 j := fun j hj => by
        rw [h23, s12, hs8 j (by omega), e7]
      refine ⟨?_, ?_, ?_, ?_, ?_, ?_, fun u hu => ?_⟩
      · rw [e _ (by omega), if_neg (by omega), if_neg (by omega), if_neg (by omega), if_pos rfl]; rfl
      · rw [e _ (by omega), if_neg (by omega), if_neg (by omega), if_neg (by omega), if_neg (by omega)]; exact a1
      · rw [e _ (by omega), if_pos rfl]; rfl
      · rw [e _ (by omega), if_neg (by omega), if_neg (by omega), if_pos rfl]; rfl
      · rw [e _ (by omega), if_neg (by omega), if_pos rfl]; rfl
      · rw [e _ (by omega), if_neg (by omega), if_neg (by omega), if_neg (by omega), if_neg (by omega)]; exact a5
      · rw [h23, s12, if_neg (by omega), hb u hu]
        show _ = nI (if nGone O (nD N + 1) u then 0 else nB N u)
        by_cases g : nGone O (nD N + 1) u = true
        · rw [if_pos ⟨hu, g⟩, if_pos g]; rfl
        · rw [if_neg (fun q => g q.2), if_neg g]
    | succ d ih =>
      intro i σ8 hi hf hs8 hb
      have hiT : i < oT O := by omega
      have hM8 := f12_M hf hM
      have r := (hk.2.2.2.2 i hiT).2.1
      rw [wLX10_endDay_34, toN0, hM8.2.1, cl (n := i) (by omega), (hM8.2.2.2.2 i hiT).2.1, ix0 hs, ix6 hs (by omega), hs8 s (by omega), e7 s, if_neg (by omega), if_neg (by omega), if_pos rfl, show (3 : Int32) = nI 3 from rfl, nI_add]
      refine ⟨in0 (by omega) (by omega), fun c => absurd c (nI_ge (by omega) (by omega)), fun _ => ⟨vx0 hs, vp_in_nI (by omega) (by omega), fun c z hz => ?_, fun c => ⟨vx6 hs (by omega), fun z15 h15 => ⟨vx6 hs (by omega), fun σ17 h17 z18 h18 => ?_⟩⟩⟩⟩
      · have c := (nI_leI (by omega) (by omega)).mp c
        have g : nGone O (nD N + 1) i = false := by simp [nGone]; omega
        rw [hz, add1]
        have := ih (i + 1) σ8 (by omega) hf hs8 (fun t ht => by
          rw [hb t ht]
          by_cases e : t = i
          · subst e; simp [g]
          · have q : t < i ↔ t < i + 1 := by omega
            simp only [q])
        rw [show nFalls O N (i + 1) = nFalls O N i from by show nFalls O N i + (if nGone O (nD N + 1) i = true then nB N i else 0) = _; rw [if_neg (by rw [g]; decide)]; rfl] at this
        exact this
      · have c : ¬ nD N + 1 ≤ oR O i + 3 := fun q => c (nI_le q (by omega))
        have g : nGone O (nD N + 1) i = true := by simp [nGone]; omega
        rw [hb i hiT, if_neg (fun q => absurd q.1 (Nat.lt_irrefl i)), nI_add] at h15
        rw [h15, h18, add1]
        have := ih (i + 1) σ17 (by omega) (by rw [h17]; exact hf.wr (by omega) (by omega)) (fun j hj => by rw [h17, s12, if_neg (by omega)]; exact hs8 j hj) (fun t ht => by
          rw [h17, s12]
          by_cases e : t = i
          · subst e; simp [g]
          · rw [if_neg (by omega), hb t ht]
            have q : t < i ↔ t < i + 1 := by omega
            simp only [q])
        rw [show nFalls O N (i + 1) = nFalls O N i + nB N i from by show nFalls O N i + (if nGone O (nD N + 1) i = true then nB N i else 0) = _; rw [if_pos g]] at this
        exact this
  refine step (oT O) 0 σ7 (by omega) F7 (fun _ _ => rfl) (fun t ht => ?_)
  rw [e7, if_neg (by omega), if_neg (by omega), if_neg (by omega), a6 t ht]; simp
theorem m_begin {μ : St} {T : Nat} {N : Nw} {P : St → Prop} (hN : nwM μ 0 T N) (hP : ∀ μ', f12 0 μ μ' → nwM μ' 0 T (nBeg N) → P μ') : wX10_begin μ P := by
  obtain ⟨a0, a1, a2, a3, a4, a5, a6⟩ := hN
  unfold wX10_begin
  rw [toN0, show (1 : Int32).toNatClampNeg = 1 from rfl, show (2 : Int32).toNatClampNeg = 2 from rfl, show (3 : Int32).toNatClampNeg = 3 from rfl, show (4 : Int32).toNatClampNeg = 4 from rfl]
  refine ⟨in0 (by omega) (by omega), fun σ2 h2 => ⟨inI (a := 1) rfl (by omega) (by omega), fun σ4 h4 => ⟨inI (a := 2) rfl (by omega) (by omega), fun σ6 h6 => ⟨inI (a := 3) rfl (by omega) (by omega), fun σ8 h8 => ⟨inI (a := 4) rfl (by omega) (by omega), fun σ10 h10 => hP σ10 ?_ ?_⟩⟩⟩⟩⟩
  · rw [h10, h8, h6, h4, h2]
    exact ((((f12.rf.wr (by omega) (by omega)).wr (by omega) (by omega)).wr (by omega) (by omega)).wr (by omega) (by omega)).wr (by omega) (by omega)
  · have e : ∀ j, σ10.1 12 j = if j = 4 then 0 else if j = 3 then 0 else if j = 2 then 0 else if j = 1 then 0 else if j = 0 then 0 else μ.1 12 j := fun j => by
      rw [h10, s12, h8, s12, h6, s12, h4, s12, h2, s12]
    refine ⟨by rw [e]; rfl, by rw [e]; rfl, by rw [e]; rfl, by rw [e]; rfl, by rw [e]; rfl, by rw [e]; exact a5, fun t ht => ?_⟩
    rw [e, if_neg (by omega), if_neg (by omega), if_neg (by omega), if_neg (by omega), if_neg (by omega)]; exact a6 t ht
theorem m_copyL {μ : St} {f1 f2 : Nat} {K P : St → Prop} (h1 : f1 ≤ 36) (h2 : f2 ≤ 36) (hne : f1 + 12 ≤ f2 ∨ f2 + 12 ≤ f1) (hK : ∀ μ', f12 f2 μ μ' → (∀ j, j < 12 → μ'.1 12 (f2 + j) = μ.1 12 (f1 + j)) → K μ') :
    ∀ d i μ1, i + d = 12 → f12 f2 μ μ1 → (∀ j, j < i → μ1.1 12 (f2 + j) = μ.1 12 (f1 + j)) → wLX10_copy_2 (nI f1) (nI f2) K P (d + 1) μ1 (nI i) := by
  intro d
  induction d with
  | zero =>
    intro i μ1 hi hf hb
    rw [wLX10_copy_2]
    exact ⟨fun _ => hK μ1 hf (fun j hj => hb j (by omega)), fun c => absurd ((leI (a := 12) rfl rfl (by omega) (by omega)).mpr (by omega)) c⟩
  | succ d ih =>
    intro i μ1 hi hf hb
    rw [wLX10_copy_2, nI_add, nI_add, cl (by omega), cl (by omega)]
    refine ⟨fun c => absurd ((leI (a := 12) rfl rfl (by omega) (by omega)).mp c) (by omega), fun _ => ⟨vp_in_nI (by omega) (by omega), vp_in_nI (by omega) (by omega), fun σ4 h4 z hz => ?_⟩⟩
    rw [hz, add1]
    refine ih (i + 1) σ4 (by omega) (by rw [h4]; exact hf.wr (by omega) (by omega)) (fun j hj => ?_)
    rw [h4, s12]
    by_cases e : j = i
    · subst e; rw [if_pos rfl]; exact hf.2 _ (by omega)
    · rw [if_neg (by omega)]; exact hb j (by omega)
theorem m_copy {μ : St} {T f1 f2 : Nat} {N : Nw} {P : St → Prop} (hT : T ≤ 5) (h1 : f1 ≤ 36) (h2 : f2 ≤ 36) (hne : f1 + 12 ≤ f2 ∨ f2 + 12 ≤ f1) (hN : nwM μ f1 T N) (hP : ∀ μ', f12 f2 μ μ' → nwM μ' f2 T N → P μ') : wX10_copy μ (nI f1) (nI f2) P := by
  unfold wX10_copy
  refine ⟨13, m_copyL h1 h2 hne (fun μ' hf e => hP μ' hf ?_) 12 0 μ (by omega) f12.rf (fun j hj => absurd hj (Nat.not_lt_zero j))⟩
  obtain ⟨a0, a1, a2, a3, a4, a5, a6⟩ := hN
  exact ⟨(e 0 (by omega)).trans a0, (e 1 (by omega)).trans a1, (e 2 (by omega)).trans a2, (e 3 (by omega)).trans a3, (e 4 (by omega)).trans a4, (e 5 (by omega)).trans a5, fun t ht => by
    have := e (6 + t) (by omega)
    rw [← Nat.add_assoc, ← Nat.add_assoc] at this
    exact this.trans (a6 t ht)⟩
noncomputable def ansYear (O : Orc) (N : Nw) : Int32 := nI (sumT (nB (nBlo O (nBeg N))) (oT O))
theorem m_year {μ : St} {O : Orc} {N : Nw} {P : Int32 → St → Prop} (hM : orM μ O) (hk : oOk O) (hN : nwM μ 0 (oT O) N) (hP : ∀ μ', f12 0 μ μ' → nwM μ' 0 (oT O) (nBlo O (nBeg N)) → P (ansYear O N) μ') : wX10_year μ P := by
  have h5 := hk.2.1
  unfold wX10_year
  refine m_begin hN (fun σ1 hf1 N1 => ⟨oT O + 1, ?_⟩)
  have M1 := f12_M hf1 hM
  obtain ⟨a0, a1, a2, a3, a4, a5, a6⟩ := N1
  unfold ansYear at hP
  have nb : ∀ t, nB (nBlo O (nBeg N)) t = oB O t * drawN (lotK (nL N) (t + 1)) / 10 := fun t => rfl
  have step : ∀ d i σ2, i + d = oT O → f12 0 σ1 σ2 → (∀ j, j < 5 → σ2.1 12 j = σ1.1 12 j) → σ2.1 12 5 = lotK (nL N) i → (∀ t, t < i → σ2.1 12 (6 + t) = nI (nB (nBlo O (nBeg N)) t)) →
      wLX10_year_8 (fun (σ15 : St) (y14 : Int32) => P y14 σ15) P (d + 1) σ2 (nI (sumT (nB (nBlo O (nBeg N))) i)) (nI i) := by
    intro d
    induction d with
    | zero =>
      intro i σ2 hi hf hs hl hb
      rw [wLX10_year_8, toN0, (f12_M hf M1).2.1]
      have e : i = oT O := by omega
      subst e
      refine ⟨in0 (by omega) (by omega), fun _ => hP σ2 (hf1.tr hf) ⟨(hs 0 (by omega)).trans a0, (hs 1 (by omega)).trans a1, (hs 2 (by omega)).trans a2, (hs 3 (by omega)).trans a3, (hs 4 (by omega)).trans a4, hl, fun t ht => ?_⟩, fun c => absurd (nI_le (Nat.le_refl _) (by omega)) c⟩
      rw [Nat.zero_add]; exact hb t ht
    | succ d ih =>
      intro i σ2 hi hf hs hl hb
      have hiT : i < oT O := by omega
      have ob := (hk.2.2.2.2 i hiT).2.2
      have M2 := f12_M hf M1
      have dl := draw_le (lotK (nL N) (i + 1))
      have ml := Nat.mul_le_mul ob dl
      rw [wLX10_year_8, toN0, M2.2.1, show (5 : Int32).toNatClampNeg = 5 from rfl, hl, lotK_s, cl (n := i) (by omega), show (6 : Int32) = nI 6 from rfl, nI_add, cl (n := 6 + i) (by omega)]
      refine ⟨in0 (by omega) (by omega), fun c => absurd c (nI_ge (by omega) (by omega)), fun _ => ⟨inI (a := 5) rfl (by omega) (by omega), inI (a := 5) rfl (by omega) (by omega), fun σ6 h6 => ⟨vp_in_nI (by omega) (by omega), inI (a := 5) rfl (by omega) (by omega), vp_in_nI (by omega) (by omega), ?_⟩⟩⟩
      have e65 : σ6.1 12 5 = lotK (nL N) (i + 1) := by rw [h6, s12, if_pos rfl]
      have e611 : σ6.1 11 i = nI (oB O i) := by rw [h6, sI_ne (by decide)]; exact (M2.2.2.2.2 i hiT).2.2
      rw [e65, e611, drawI, pk_mul, show (10 : Int32) = nI 10 from rfl, divI (by omega) (by omega) (by omega)]
      refine fun σ10 h10 => ⟨vp_in_nI (by omega) (by omega), fun z12 h12 z13 h13 => ?_⟩
      have e10 : σ10.1 12 (6 + i) = nI (nB (nBlo O (nBeg N)) i) := by rw [h10, s12, if_pos rfl]; rfl
      rw [e10, nI_add] at h12
      rw [h12, h13, add1]
      have F6 : f12 0 σ1 σ6 := by rw [h6]; exact hf.wr (by omega) (by omega)
      refine ih (i + 1) σ10 (by omega) (by rw [h10]; exact F6.wr (by omega) (by omega)) (fun j hj => ?_) ?_ (fun t ht => ?_)
      · rw [h10, s12, if_neg (by omega), h6, s12, if_neg (by omega)]; exact hs j hj
      · rw [h10, s12, if_neg (by omega)]; exact e65
      · by_cases e : t = i
        · subst e; exact e10
        · rw [h10, s12, if_neg (by omega), h6, s12, if_neg (by omega)]; exact hb t (by omega)
  exact step (oT O) 0 σ1 (by omega) f12.rf (fun _ _ => rfl) a5 (fun t ht => absurd ht (Nat.not_lt_zero t))
/-- how it stands -/
def ansNow (O : Orc) (N : Nw) (what : Int32) : Int32 := if what = 0 then nI (nD N) else if what = 1 then nP N else if what = 2 then nF N else if what = 3 then nI (sumT (nB N) (oT O)) else if what = 4 then nI (nC N) else -1
theorem m_now {μ : St} {O : Orc} {N : Nw} {what : Int32} {P : Int32 → Prop} (hM : orM μ O) (hk : oOk O) (hN : nwM μ 0 (oT O) N) (hP : P (ansNow O N what)) : wX10_now μ what P := by
  have h5 := hk.2.1
  obtain ⟨a0, a1, a2, a3, a4, a5, a6⟩ := hN
  unfold wX10_now
  refine ⟨oT O + 1, ?_⟩
  have step : ∀ (K : Int32 → Prop), K (nI (sumT (nB N) (oT O))) → ∀ d i, i + d = oT O → wLX10_now_4 what μ K P (d + 1) (nI (sumT (nB N) i)) (nI i) := by
    intro K hK d
    induction d with
    | zero =>
      intro i hi
      rw [wLX10_now_4, toN0, hM.2.1]
      exact ⟨in0 (by omega) (by omega), fun _ => by rw [show i = oT O by omega]; exact hK, fun c => absurd (nI_le (by omega) (by omega)) c⟩
    | succ d ih =>
      intro i hi
      have e : μ.1 12 (6 + i) = nI (nB N i) := by have := a6 i (by omega); rw [Nat.zero_add] at this; exact this
      rw [wLX10_now_4, toN0, hM.2.1, show (6 : Int32) = nI 6 from rfl, nI_add, cl (by omega), e]
      refine ⟨in0 (by omega) (by omega), fun c => absurd c (nI_ge (by omega) (by omega)), fun _ => ⟨vp_in_nI (by omega) (by omega), fun z4 h4 z5 hz5 => ?_⟩⟩
      rw [h4, hz5, add1, nI_add]
      exact ih (i + 1) (by omega)
  refine step _ ?_ (oT O) 0 (by omega)
  unfold ansNow at hP
  refine ⟨fun c0 => ⟨fun c1 => ⟨fun c2 => ⟨fun c3 => ⟨fun c4 => ?_, fun c4 => ⟨inI (a := 3) rfl (by omega) (by omega), ?_⟩⟩, fun c3 => ?_⟩, fun c2 => ⟨inI (a := 2) rfl (by omega) (by omega), ?_⟩⟩, fun c1 => ⟨inI (a := 1) rfl (by omega) (by omega), ?_⟩⟩, fun c0 => ⟨in0 (by omega) (by omega), ?_⟩⟩
  · rw [if_neg c0, if_neg c1, if_neg c2, if_neg c3, if_neg c4] at hP; exact hP
  · rw [if_neg c0, if_neg c1, if_neg c2, if_neg c3, if_pos c4, ← a3] at hP; exact hP
  · rw [if_neg c0, if_neg c1, if_neg c2, if_pos c3] at hP; exact hP
  · rw [if_neg c0, if_neg c1, if_pos c2, ← a2] at hP; exact hP
  · rw [if_neg c0, if_pos c1, ← a1] at hP; exact hP
  · rw [if_pos c0, ← a0] at hP; exact hP
theorem m_lot {μ : St} {T : Nat} {N : Nw} {v : Int32} {P : Int32 → St → Prop} (hN : nwM μ 0 T N) (hP : ∀ μ', f12 0 μ μ' → nwM μ' 0 T (nD N, nC N, nK N, nP N, nF N, v, nB N) → P (nL N) μ') : wX10_lot μ v P := by
  obtain ⟨a0, a1, a2, a3, a4, a5, a6⟩ := hN
  unfold wX10_lot
  rw [show (5 : Int32).toNatClampNeg = 5 from rfl, show μ.1 12 5 = nL N from a5]
  refine ⟨inI (a := 5) rfl (by omega) (by omega), fun z2 h2 => ⟨inI (a := 5) rfl (by omega) (by omega), fun σ4 h4 => ?_⟩⟩
  rw [h2]
  refine hP σ4 (by rw [h4]; exact f12.rf.wr (by omega) (by omega)) ?_
  have e : ∀ j, σ4.1 12 j = if j = 5 then v else μ.1 12 j := fun j => by rw [h4, s12]
  exact ⟨by rw [e]; exact a0, by rw [e]; exact a1, by rw [e]; exact a2, by rw [e]; exact a3, by rw [e]; exact a4, by rw [e]; rfl, fun t ht => by rw [e, if_neg (by omega)]; exact a6 t ht⟩
/-- a day's end; what is then -/
def ansEnds (O : Orc) (N : Nw) : Int32 := if nD N = 30 then -2 else nI (nFalls O N (oT O))
def nwEnds (O : Orc) (N : Nw) : Nw := if nD N = 30 then N else nEnd O N
theorem m_ends {μ : St} {O : Orc} {N : Nw} {P : Int32 → St → Prop} (hM : orM μ O) (hk : oOk O) (hN : nwM μ 0 (oT O) N) (hd : nD N ≤ 30) (hP : ∀ μ', f12 0 μ μ' → nwM μ' 0 (oT O) (nwEnds O N) → P (ansEnds O N) μ') : wX10_ends μ P := by
  unfold wX10_ends
  have e0 : μ.1 12 0 = nI (nD N) := hN.1
  rw [toN0, e0]
  refine ⟨in0 (by omega) (by omega), fun c => ?_, fun c => ?_⟩
  · have c : ¬ nD N = 30 := fun q => c (by rw [q]; rfl)
    refine m_endDay (s := 0) hM hk (by omega) hN (by omega) (fun μ' hf h => ?_)
    have := hP μ' hf
    unfold nwEnds ansEnds at this
    rw [if_neg c, if_neg c] at this
    exact this h
  · have c := (eqI rfl (b := 30) rfl (by omega) (by omega)).mp c
    have := hP μ f12.rf
    unfold nwEnds ansEnds at this
    rw [if_pos c, if_pos c] at this
    exact this hN
/-- a pair climbs -/
def climbOk (O : Orc) (N : Nw) (a b t : Nat) : Bool := oF O a b && decide (0 < pkN O N (a, b) t)
def cl3 (O : Orc) (a b t : Int32) : Bool := inR a (oP O) && inR b (oP O) && decide (a ≠ b) && inR t (oT O)
def ansClimb (O : Orc) (N : Nw) (a b t : Int32) : Int32 := if cl3 O a b t = true then (if climbOk O N a.toNatClampNeg b.toNatClampNeg t.toNatClampNeg = true then nI (pkN O N (a.toNatClampNeg, b.toNatClampNeg) t.toNatClampNeg) else -2) else -1
def nwClimb (O : Orc) (N : Nw) (a b t : Int32) : Nw := if cl3 O a b t = true then (if climbOk O N a.toNatClampNeg b.toNatClampNeg t.toNatClampNeg = true then nPick N (a.toNatClampNeg, b.toNatClampNeg) t.toNatClampNeg (pkN O N (a.toNatClampNeg, b.toNatClampNeg) t.toNatClampNeg) else N) else N
theorem m_climb {μ : St} {O : Orc} {N : Nw} {a b t : Int32} {P : Int32 → St → Prop} (hM : orM μ O) (hk : oOk O) (hN : nwM μ 0 (oT O) N) (hNk : nOk (oT O) N) (hP : ∀ μ', f12 0 μ μ' → nwM μ' 0 (oT O) (nwClimb O N a b t) → P (ansClimb O N a b t) μ') : wX10_climb μ a b t P := by
  have h8 := hk.1
  have h5 := hk.2.1
  have bad : cl3 O a b t = false → P (-1) μ := fun h => by
    have := hP μ f12.rf
    unfold nwClimb ansClimb at this
    rw [if_neg (by rw [h]; decide), if_neg (by rw [h]; decide)] at this
    exact this hN
  unfold wX10_climb
  refine m_isOne hM hk (br_b (fun q => bad (by unfold cl3; rw [q]; rfl)) (fun qa => m_isOne hM hk (br_b (fun q => bad (by unfold cl3; rw [q]; simp)) (fun qb => ⟨fun c => bad (by unfold cl3; simp [c]), fun c => m_isTree hM hk ?_⟩))))
  refine (br_b (fun qt => bad (by unfold cl3; rw [qt]; simp)) (fun qt => ?_) |> fun h => ⟨fun c => h.2 c, fun c => h.1 c⟩)
  have good : cl3 O a b t = true := by unfold cl3; rw [qa, qb, qt]; simp [c]
  obtain ⟨a, ha, rfl⟩ := inR_t qa (by omega)
  obtain ⟨b, hb, rfl⟩ := inR_t qb (by omega)
  obtain ⟨t, ht, rfl⟩ := inR_t qt (by omega)
  unfold nwClimb ansClimb at hP
  rw [if_pos good, if_pos good, cl (n := a) (by omega), cl (n := b) (by omega), cl (n := t) (by omega)] at hP
  refine m_mayClimb (s := 0) hM hk (by omega) hN hNk ha hb ht (br_b (fun q => ?_) (fun q => ?_))
  · have := hP μ f12.rf
    unfold climbOk at this
    rw [if_neg (by rw [q]; decide), if_neg (by rw [q]; decide)] at this
    exact this hN
  · unfold climbOk at hP
    rw [if_pos q, if_pos q] at hP
    rw [Bool.and_eq_true, decide_eq_true_eq] at q
    rw [pk_val q.2] at hP
    exact m_climbs (s := 0) hM hk (by omega) hN (hNk.2.2.2 t ht) ha hb ht (fun μ' hf h => hP μ' hf h)
theorem m_best10 {μ : St} {O : Orc} {N : Nw} {t : Int32} {P : Int32 → St → Prop} (hM : orM μ O) (hk : oOk O) (hN : nwM μ 0 (oT O) N) (hNk : nOk (oT O) N) (hP : ∀ μ', frC [14, 15] μ μ' → P (ansBest O N t) μ') : wX10_best μ t P := by
  have h5 := hk.2.1
  unfold wX10_best
  rw [toN0, hM.2.1]
  refine ⟨in0 (by omega) (by omega), m_in ?_⟩
  rw [predI (by omega), show (-1 : Int32).toInt = -1 from rfl]
  refine (br_b (fun q => ?_) (fun q => ?_) |> fun h => ⟨fun c => h.2 c, fun c => h.1 c⟩)
  · have := hP μ frC.rf
    unfold ansBest at this
    rw [if_neg (by
      rintro rfl
      rw [show (-1 : Int32).toInt = -1 from rfl] at q
      simp at q; omega), if_neg (by
      intro h
      unfold inR at h
      simp only [Bool.and_eq_true, decide_eq_true_eq] at h
      simp at q; omega)] at this
    exact this
  · refine m_findBest (s := 0) hM hk (by omega) hN hNk (fun μ' hf e14 e15 => ⟨fun c => ?_, fun c => ⟨in0 (by omega) (by omega), ?_⟩⟩)
    · have hin : inR t (oT O) = true := by
        have : t.toInt ≠ -1 := fun q => c (by rw [← Int32.toInt_inj, q]; rfl)
        unfold inR
        simp only [Bool.and_eq_true, decide_eq_true_eq] at q ⊢
        omega
      have := hP μ' hf
      unfold ansBest at this
      rw [if_neg c, if_pos hin] at this
      obtain ⟨t, ht, rfl⟩ := inR_t hin (by omega)
      rw [cl (by omega)] at this ⊢
      rw [e15 t ht]
      refine ⟨vp_in_nI (by omega) (by omega), ?_⟩
      cases e : cqF O N t (tkN O N t) with
      | none => rw [e] at this; exact this
      | some q => rw [e] at this; exact this
    · have := hP μ' hf
      unfold ansBest at this
      rw [if_pos c] at this
      rw [e14]; exact this
