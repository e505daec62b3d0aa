/-! what the days change -/
theorem i1 : (1 : Int32) = nI 1 := rfl
theorem add1 (n : Nat) : nI n + (1 : Int32) = nI (n + 1) := by rw [i1, nI_add]
/-- day, who did climb (bits), which trees (bits), picked, fallen, the lot, left -/
abbrev Nw : Type := Nat × Nat × Nat × Int32 × Int32 × Int32 × (Nat → Nat)
def nD (N : Nw) : Nat := N.1
def nC (N : Nw) : Nat := N.2.1
def nK (N : Nw) : Nat := N.2.2.1
def nP (N : Nw) : Int32 := N.2.2.2.1
def nF (N : Nw) : Int32 := N.2.2.2.2.1
def nL (N : Nw) : Int32 := N.2.2.2.2.2.1
def nB (N : Nw) : Nat → Nat := N.2.2.2.2.2.2
def nOk (T : Nat) (N : Nw) : Prop := nD N ≤ 31 ∧ nC N < 256 ∧ nK N < 32 ∧ ∀ t, t < T → nB N t ≤ 198
def nwC (σ : St) (n T : Nat) (N : Nw) : Prop := σ.1 n 0 = nI (nD N) ∧ σ.1 n 1 = nI (nC N) ∧ σ.1 n 2 = nI (nK N) ∧ σ.1 n 3 = nP N ∧ σ.1 n 4 = nF N ∧ σ.1 n 5 = nL N ∧ ∀ t, t < T → σ.1 (n + 1) t = nI (nB N t)
theorem nwC_kept {σ σ' : St} {n T : Nat} {N : Nw} (h : nwC σ n T N) (h0 : σ'.1 n = σ.1 n) (h1 : σ'.1 (n + 1) = σ.1 (n + 1)) : nwC σ' n T N := by
  unfold nwC; rw [h0, h1]; exact h
theorem isN_r {n : Nat} (h : isN n) : 65 ≤ n ∧ n + 1 < 75 ∧ n ≠ 69 ∧ n ≠ 70 ∧ n + 1 ≠ 69 ∧ n + 1 ≠ 70 := by rcases h with rfl | rfl | rfl | rfl <;> omega
/-- two different ones share no cell -/
theorem isN_ap {n n' : Nat} (h : isN n) (h' : isN n') (hn : n ≠ n') : n' ≠ n ∧ n' ≠ n + 1 ∧ n' + 1 ≠ n ∧ n' + 1 ≠ n + 1 := by
  rcases h with rfl | rfl | rfl | rfl <;> rcases h' with rfl | rfl | rfl | rfl <;> omega
def nBeg (N : Nw) : Nw := (0, 0, 0, 0, 0, nL N, nB N)
theorem s_begin {σ : St} {n T : Nat} {N : Nw} {P : St → Prop} (hn : isN n) (hN : nwC σ n T N) (hP : ∀ σ', frC [n, n + 1] σ σ' → nwC σ' n T (nBeg N) → P σ') : wX2_begin σ n P := by
  unfold wX2_begin
  refine ⟨hn, fun σ1 h1 σ2 h2 σ3 h3 σ4 h4 σ5 h5 => hP σ5 ?_ ?_⟩
  · rw [h5, h4, h3, h2, h1]
    exact ((((frC.rf.wr (by simp)).wr (by simp)).wr (by simp)).wr (by simp)).wr (by simp)
  · have e : ∀ j, σ5.1 n j = if j = 4 then 0 else if j = 3 then 0 else if j = 2 then 0 else if j = 1 then 0 else if j = 0 then 0 else σ.1 n j := fun j => by
      rw [h5, sI_get, h4, sI_get, h3, sI_get, h2, sI_get, h1, sI_get]; simp
    have e1 : σ5.1 (n + 1) = σ.1 (n + 1) := by
      rw [h5, sI_ne (by omega), h4, sI_ne (by omega), h3, sI_ne (by omega), h2, sI_ne (by omega), h1, sI_ne (by omega)]
    obtain ⟨a0, a1, a2, a3, a4, a5, a6⟩ := hN
    refine ⟨by rw [e]; rfl, by rw [e]; rfl, by rw [e]; rfl, by rw [e]; rfl, by rw [e]; rfl, by rw [e]; exact a5, fun t ht => by rw [e1]; exact a6 t ht⟩
def nSetB (N : Nw) (f : Nat → Nat) : Nw := (nD N, nC N, nK N, nP N, nF N, nL N, f)
theorem isO_N {o n : Nat} (ho : isO o) (hn : isN n) : o + 8 < n ∧ o + 8 < 25 := by
  have := isO_r ho; have := isN_r hn; omega
theorem s_bear {σ : St} {n o : Nat} {N : Nw} {O : Orc} {P : St → Prop} (hn : isN n) (ho : isO o) (hO : orC σ o O) (hk : oOk O) {T0 : Nat} (hN : nwC σ n T0 N) (hP : ∀ σ', frC [n + 1] σ σ' → nwC σ' n (oT O) (nSetB N (oB O)) → P σ') : wX2_bearAsTold σ n o P := by
  have h5 := hk.2.1
  have hno := isO_N ho hn
  unfold wX2_bearAsTold
  refine ⟨hn, ho, oT O + 1, ?_⟩
  have step : ∀ d i σ1, i + d = oT O → frC [n + 1] σ σ1 → (∀ t, t < i → σ1.1 (n + 1) t = nI (oB O t)) → wLX2_bearAsTold_2 n o (fun σ6 => P σ6) P (d + 1) σ1 (nI i) := by
    intro d
    induction d with
    | zero =>
      intro i σ1 hi hf hb
      rw [wLX2_bearAsTold_2]
      have hO1 : orC σ1 o O := orC_kept hO (fun k h1 h2 => hf.1 k (by simp; omega))
      rw [hO1.2.1]
      refine ⟨fun _ => hP σ1 hf ?_, fun c => absurd (nI_le (by omega) (by omega)) c⟩
      obtain ⟨a0, a1, a2, a3, a4, a5, a6⟩ := hN
      have e := hf.1 n (by simp)
      exact ⟨by rw [e]; exact a0, by rw [e]; exact a1, by rw [e]; exact a2, by rw [e]; exact a3, by rw [e]; exact a4, by rw [e]; exact a5, fun t ht => hb t (by omega)⟩
    | succ d ih =>
      intro i σ1 hi hf hb
      rw [wLX2_bearAsTold_2]
      have hO1 : orC σ1 o O := orC_kept hO (fun k h1 h2 => hf.1 k (by simp; omega))
      have hiT : i < oT O := by omega
      rw [hO1.2.1, cl (by omega), (hO1.2.2.2 i hiT).2.2]
      refine ⟨fun c => absurd c (nI_ge (by omega) (by omega)), fun _ => ⟨vp_in_nI (by omega) (by omega), vp_in_nI (by omega) (by omega), fun σ4 h4 z hz => ?_⟩⟩
      rw [hz, add1]
      refine ih (i + 1) σ4 (by omega) (hf.tr (by rw [h4]; exact frC.rf.wr (by simp))) (fun t ht => ?_)
      rw [h4, sI_get]
      by_cases e : t = i
      · subst e; simp
      · rw [if_neg (by simp [e])]; exact hb t (by omega)
  exact step (oT O) 0 σ (by omega) frC.rf (fun t ht => absurd ht (Nat.not_lt_zero t))
/-- sums over the trees -/
def sumT (f : Nat → Nat) : Nat → Nat
  | 0 => 0
  | t + 1 => sumT f t + f t
theorem s_leftOnAll {σ : St} {n o : Nat} {N : Nw} {O : Orc} {P : Int32 → Prop} (hn : isN n) (ho : isO o) (hO : orC σ o O) (hk : oOk O) (hN : nwC σ n (oT O) N) (hP : P (nI (sumT (nB N) (oT O)))) : wX2_leftOnAll σ n o P := by
  have h5 := hk.2.1
  unfold wX2_leftOnAll
  refine ⟨hn, ho, oT O + 1, ?_⟩
  have step : ∀ d i, i + d = oT O → wLX2_leftOnAll_4 n o σ (fun y5 => P y5) P (d + 1) (nI (sumT (nB N) i)) (nI i) := by
    intro d
    induction d with
    | zero =>
      intro i hi
      rw [wLX2_leftOnAll_4, hO.2.1]
      exact ⟨fun _ => by rw [show i = oT O by omega]; exact hP, fun c => absurd (nI_le (by omega) (by omega)) c⟩
    | succ d ih =>
      intro i hi
      rw [wLX2_leftOnAll_4, hO.2.1, cl (by omega)]
      refine ⟨fun c => absurd c (nI_ge (by omega) (by omega)), fun _ => ⟨vp_in_nI (by omega) (by omega), fun z hz z4 hz4 => ?_⟩⟩
      rw [hz, hz4, add1, hN.2.2.2.2.2.2 i (by omega), nI_add]
      exact ih (i + 1) (by omega)
  exact step (oT O) 0 (by omega)
/-! a day ends -/
def nGone (O : Orc) (d t : Nat) : Bool := decide (oR O t + 3 < d)
def nFalls (O : Orc) (N : Nw) : Nat → Nat := sumT (fun t => if nGone O (nD N + 1) t then nB N t else 0)
def nEnd (O : Orc) (N : Nw) : Nw := (nD N + 1, 0, 0, nP N, nF N + nI (nFalls O N (oT O)), nL N, fun t => if nGone O (nD N + 1) t then 0 else nB N t)
theorem s_endDay {σ : St} {n o : Nat} {N : Nw} {O : Orc} {P : Int32 → St → Prop} (hn : isN n) (ho : isO o) (hO : orC σ o O) (hk : oOk O) (hN : nwC σ n (oT O) N) (hd : nD N ≤ 31) (hP : ∀ σ', frC [n, n + 1] σ σ' → nwC σ' n (oT O) (nEnd O N) → P (nI (nFalls O N (oT O))) σ') : wX2_endDay σ n o P := by
  have h5 := hk.2.1
  have hno := isO_N ho hn
  unfold wX2_endDay
  refine ⟨hn, ho, fun σ1 h1 σ2 h2 σ3 h3 => ⟨oT O + 1, ?_⟩⟩
  obtain ⟨a0, a1, a2, a3, a4, a5, a6⟩ := hN
  have F3 : frC [n, n + 1] σ σ3 := by
    rw [h3, h2, h1]; exact ((frC.rf.wr (by simp)).wr (by simp)).wr (by simp)
  have e3 : ∀ j, σ3.1 n j = if j = 2 then 0 else if j = 1 then 0 else if j = 0 then nI (nD N + 1) else σ.1 n j := fun j => by
    rw [h3, sI_get, h2, sI_get, h1, sI_get, a0, add1]; simp
  have b3 : σ3.1 (n + 1) = σ.1 (n + 1) := by rw [h3, sI_ne (by omega), h2, sI_ne (by omega), h1, sI_ne (by omega)]
  have step : ∀ d i σ4, i + d = oT O → frC [n, n + 1] σ σ4 → σ4.1 n = σ3.1 n → (∀ t, t < oT O → σ4.1 (n + 1) t = if t < i ∧ nGone O (nD N + 1) t = true then 0 else nI (nB N t)) →
      wLX2_endDay_24 n o (fun (σ14 : St) (y13 : Int32) => ∀ σ15 : St, σ15 = sI σ14 n 4 ((σ14.1 n 4) + y13) → P y13 σ15) P (d + 1) σ4 (nI (nFalls O N i)) (nI i) := by
    intro d
    induction d with
    | zero =>
      intro i σ4 hi hf hs hb
      have e : i = oT O := by omega
      subst e
      rw [wLX2_endDay_24]
      have hO1 : orC σ4 o O := orC_kept hO (fun k h1 h2 => hf.1 k (by simp; omega))
      rw [hO1.2.1]
      refine ⟨fun _ σ15 h15 => hP σ15 (by rw [h15]; exact hf.wr (by simp)) ?_, fun c => absurd (nI_le (Nat.le_refl _) (by omega)) c⟩
      have e15 : ∀ j, σ15.1 n j = if j = 4 then nF N + nI (nFalls O N (oT O)) else σ3.1 n j := fun j => by
        rw [h15, sI_get, hs, e3 4]; simp [a4]
      refine ⟨by rw [e15, e3]; rfl, by rw [e15, e3]; rfl, by rw [e15, e3]; rfl, by rw [e15, e3]; exact a3, by rw [e15]; rfl, by rw [e15, e3]; exact a5, fun t ht => ?_⟩
      rw [h15, sI_ne (by omega), hb t ht]
      show _ = nI (if nGone O (nD N + 1) t then 0 else nB N t)
      by_cases g : nGone O (nD N + 1) t = true
      · rw [if_pos ⟨ht, g⟩, if_pos g]; rfl
      · rw [if_neg (fun q => g q.2), if_neg g]
    | succ d ih =>
      intro i σ4 hi hf hs hb
      rw [wLX2_endDay_24]
      have hO1 : orC σ4 o O := orC_kept hO (fun k h1 h2 => hf.1 k (by simp; omega))
      have hiT : i < oT O := by omega
      have r := (hk.2.2.2.2 i hiT).2.1
      rw [hO1.2.1, cl (by omega), (hO1.2.2.2 i hiT).2.1, hs, e3 0]
      have dd : (if (0 : Nat) = 2 then (0 : Int32) else if (0 : Nat) = 1 then 0 else if (0 : Nat) = 0 then nI (nD N + 1) else σ.1 n 0) = nI (nD N + 1) := rfl
      rw [dd, show (3 : Int32) = nI 3 from rfl, nI_add]
      refine ⟨fun c => absurd c (nI_ge (by omega) (by omega)), fun _ => ⟨vp_in_nI (by omega) (by omega), fun c z hz => ?_, fun c => ⟨vp_in_nI (by omega) (by omega), fun z9 hz9 => ⟨vp_in_nI (by omega) (by omega), fun σ11 h11 z12 hz12 => ?_⟩⟩⟩⟩
      · have c := (nI_leI (by omega) (by omega)).mp c
        have g : nGone O (nD N + 1) i = false := by simp [nGone]; omega
        rw [hz, add1]
        have := ih (i + 1) σ4 (by omega) hf hs (fun t ht => by
          rw [hb t ht]
          by_cases e : t = i
          · subst e; simp [g]
          · have q : t < i ↔ t < i + 1 := by omega
            simp only [q])
        rw [show nFalls O N (i + 1) = nFalls O N i from by show nFalls O N i + (if nGone O (nD N + 1) i = true then nB N i else 0) = _; rw [if_neg (by rw [g]; decide)]; rfl] at this
        exact this
      · have c : ¬ nD N + 1 ≤ oR O i + 3 := fun q => c (nI_le q (by omega))
        have g : nGone O (nD N + 1) i = true := by simp [nGone]; omega
        have hbi : σ4.1 (n + 1) i = nI (nB N i) := by rw [hb i hiT, if_neg (fun q => absurd q.1 (Nat.lt_irrefl i))]
        rw [hz9, hz12, add1, hbi, nI_add]
        have := ih (i + 1) σ11 (by omega) (by rw [h11]; exact hf.wr (by simp)) (by rw [h11, sI_ne (by omega)]; exact hs) (fun t ht => by
          rw [h11, sI_get]
          by_cases e : t = i
          · subst e; simp [g]
          · rw [if_neg (by simp [e]), hb t ht]
            have q : t < i ↔ t < i + 1 := by omega
            simp only [q])
        rw [show nFalls O N (i + 1) = nFalls O N i + nB N i from by show nFalls O N i + (if nGone O (nD N + 1) i = true then nB N i else 0) = _; rw [if_pos g]] at this
        exact this
  refine step (oT O) 0 σ3 (by omega) F3 rfl (fun t ht => ?_)
  rw [b3, a6 t ht]; simp
/-! to become another -/
theorem s_become {σ : St} {n n' T : Nat} {N : Nw} {P : St → Prop} (hT : T ≤ 5) (hn : isN n) (hn' : isN n') (hne : n ≠ n') (hN : nwC σ n' T N) (hP : ∀ σ', frC [n, n + 1] σ σ' → nwC σ' n T N → P σ') : wX2_become σ n n' P := by
  have ap := isN_ap hn hn' hne
  unfold wX2_become
  refine ⟨hn, hn', fun σ1 h1 σ2 h2 σ3 h3 σ4 h4 σ5 h5 σ6 h6 => ⟨6, ?_⟩⟩
  obtain ⟨a0, a1, a2, a3, a4, a5, a6⟩ := hN
  have F6 : frC [n, n + 1] σ σ6 := by
    rw [h6, h5, h4, h3, h2, h1]
    exact (((((frC.rf.wr (by simp)).wr (by simp)).wr (by simp)).wr (by simp)).wr (by simp)).wr (by simp)
  have c1 : σ1.1 n' = σ.1 n' := by rw [h1, sI_ne ap.1]
  have c2 : σ2.1 n' = σ.1 n' := by rw [h2, sI_ne ap.1, c1]
  have c3 : σ3.1 n' = σ.1 n' := by rw [h3, sI_ne ap.1, c2]
  have c4 : σ4.1 n' = σ.1 n' := by rw [h4, sI_ne ap.1, c3]
  have c5 : σ5.1 n' = σ.1 n' := by rw [h5, sI_ne ap.1, c4]
  rw [c1, a1] at h2
  rw [c2, a2] at h3
  rw [c3, a3] at h4
  rw [c4, a4] at h5
  rw [c5, a5] at h6
  rw [a0] at h1
  have e6 : ∀ j, σ6.1 n j = if j = 5 then nL N else if j = 4 then nF N else if j = 3 then nP N else if j = 2 then nI (nK N) else if j = 1 then nI (nC N) else if j = 0 then nI (nD N) else σ.1 n j := fun j => by
    rw [h6, sI_get, h5, sI_get, h4, sI_get, h3, sI_get, h2, sI_get, h1, sI_get]; simp
  have step : ∀ d i σ7, i + d = 5 → frC [n, n + 1] σ σ7 → σ7.1 n = σ6.1 n → (∀ t, t < i → σ7.1 (n + 1) t = σ.1 (n' + 1) t) → wLX2_become_50 n n' (fun σ12 => P σ12) P (d + 1) σ7 (nI i) := by
    intro d
    induction d with
    | zero =>
      intro i σ7 hi hf hs hb
      have e : i = 5 := by omega
      subst e
      rw [wLX2_become_50]
      refine ⟨fun _ => hP σ7 hf ⟨by rw [hs, e6]; rfl, by rw [hs, e6]; rfl, by rw [hs, e6]; rfl, by rw [hs, e6]; rfl, by rw [hs, e6]; rfl, by rw [hs, e6]; rfl, fun t ht => ?_⟩, fun c => absurd (by decide) c⟩
      rw [hb t (by omega)]; exact a6 t ht
    | succ d ih =>
      intro i σ7 hi hf hs hb
      rw [wLX2_become_50, cl (by omega)]
      refine ⟨fun c => absurd ((leI (a := 5) rfl rfl (by omega) (by omega)).mp c) (by omega), fun _ => ⟨vp_in_nI (by omega) (by omega), vp_in_nI (by omega) (by omega), fun σ10 h10 z hz => ?_⟩⟩
      rw [hz, add1]
      refine ih (i + 1) σ10 (by omega) (by rw [h10]; exact hf.wr (by simp)) (by rw [h10, sI_ne (by omega)]; exact hs) (fun t ht => ?_)
      rw [h10, sI_get]
      by_cases e : t = i
      · subst e; rw [if_pos ⟨rfl, rfl⟩, hf.1 (n' + 1) (by simp; omega)]
      · rw [if_neg (by simp [e])]; exact hb t (by omega)
  exact step 5 0 σ6 (by omega) F6 rfl (fun t ht => absurd ht (Nat.not_lt_zero t))
