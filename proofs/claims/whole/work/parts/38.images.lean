/-! images -/
theorem nar1 : vp_nar .boolean (1 : Int32) = bI true := by decide
def imC (σ : St) (T : Nat) (im : Nat → Option Nw) : Prop := ∀ i, i < 2 → σ.1 70 i = bI (im i).isSome ∧ ∀ N, im i = some N → nwC σ (71 + 2 * i) T N
def imM (μ : St) (T : Nat) (im : Nat → Option Nw) : Prop := ∀ i, i < 2 → μ.1 13 i = bI (im i).isSome ∧ ∀ N, im i = some N → nwM μ (12 * (2 + i)) T N
theorem imC_fr {S : List Nat} {σ σ' : St} {T : Nat} {im : Nat → Option Nw} (h : imC σ T im) (hf : frC S σ σ') (hs : ∀ k, k ∈ S → k < 70 ∨ 75 ≤ k) : imC σ' T im := fun i hi => by
  have e : ∀ k, 70 ≤ k → k < 75 → σ'.1 k = σ.1 k := fun k h1 h2 => hf.1 k (fun q => by have := hs k q; omega)
  refine ⟨by rw [e 70 (by omega) (by omega)]; exact (h i hi).1, fun N hN => nwC_kept ((h i hi).2 N hN) (e _ (by omega) (by omega)) (e _ (by omega) (by omega))⟩
theorem imM_12 {μ μ' : St} {T : Nat} {im : Nat → Option Nw} {S : List Nat} (hT : T ≤ 5) (h : imM μ T im) (hf : frC S μ μ') (hs : 13 ∉ S) (hj : ∀ j, 24 ≤ j → μ'.1 12 j = μ.1 12 j) : imM μ' T im := fun i hi =>
  ⟨by rw [hf.1 13 hs]; exact (h i hi).1, fun N hN => nwM_kept ((h i hi).2 N hN) (fun j h1 h2 => hj j (by omega))⟩
def ansKeep (N : Nw) (k : Int32) : Int32 := if inR k 2 = true then nI (nD N) else -1
def imKeep (N : Nw) (im : Nat → Option Nw) (k : Int32) : Nat → Option Nw := if inR k 2 = true then (fun i => if i = k.toNatClampNeg then some N else im i) else im
def ansBack (im : Nat → Option Nw) (k : Int32) : Int32 := if inR k 2 = true then (match im k.toNatClampNeg with
    | none => -2
    | some N => nI (nD N)) else -1
def nwBack (N : Nw) (im : Nat → Option Nw) (k : Int32) : Nw := if inR k 2 = true then (match im k.toNatClampNeg with
    | none => N
    | some N' => N') else N
theorem s_isImage {σ : St} {k : Int32} {P : Int32 → Prop} (hP : P (bI (inR k 2))) : wX9_isImage σ k P := by
  unfold wX9_isImage
  refine ⟨fun c => ?_, fun c => ⟨fun c2 => ?_, fun c2 => ?_⟩⟩
  · rw [inR_lt0 c] at hP; exact hP
  · rw [inR_ge (n := 2) (by omega) c2] at hP; exact hP
  · rw [inR_in (n := 2) (by omega) c c2] at hP; exact hP
theorem isN_iN {i : Nat} (h : i < 2) : isN (71 + 2 * i) := by
  have : i = 0 ∨ i = 1 := by omega
  rcases this with rfl | rfl
  · exact Or.inr (Or.inr (Or.inl rfl))
  · exact Or.inr (Or.inr (Or.inr rfl))
theorem s_keep9 {σ : St} {T : Nat} {N : Nw} {im : Nat → Option Nw} {k : Int32} {P : Int32 → St → Prop} (hT : T ≤ 5) (hN : nwC σ 65 T N) (hI : imC σ T im) (hP : ∀ σ', frC [70, 71, 72, 73, 74] σ σ' → imC σ' T (imKeep N im k) → P (ansKeep N k) σ') : wX9_keep σ k P := by
  unfold wX9_keep
  unfold imKeep ansKeep at hP
  refine s_isImage ((br_b (fun q => ?_) (fun q => ?_)) |> fun h => ⟨fun c => h.2 c, fun c => h.1 c⟩)
  · rw [if_neg (by rw [q]; decide), if_neg (by rw [q]; decide)] at hP
    exact hP σ frC.rf hI
  · rw [if_pos q, if_pos q] at hP
    obtain ⟨k, hk, rfl⟩ := inR_t q (by omega)
    rw [cl (by omega)] at hP ⊢
    refine ⟨vp_in_nI (by omega) (by omega), s_become hT (isN_iN hk) isN_65 (by omega) hN (fun σ4 hf4 N4 => ⟨vp_in_nI (by omega) (by omega), fun σ6 h6 => ?_⟩)⟩
    have e65 : σ6.1 65 0 = nI (nD N) := by rw [h6, sI_ne (by decide), hf4.1 65 (by simp; omega)]; exact hN.1
    rw [e65]
    refine hP σ6 ?_ (fun i hi => ?_)
    · rw [h6]
      exact (hf4.up (fun j hj => by
        have : j = 71 + 2 * k ∨ j = 71 + 2 * k + 1 := by simpa using hj
        have : j = 71 ∨ j = 72 ∨ j = 73 ∨ j = 74 := by omega
        rcases this with rfl | rfl | rfl | rfl <;> decide)).wr (by decide)
    · have e70 : σ6.1 70 i = if i = k then bI true else bI (im i).isSome := by
        rw [h6, sI_get, nar1]
        by_cases e : i = k
        · rw [if_pos ⟨rfl, e⟩, if_pos e]
        · rw [if_neg (fun q => e q.2), if_neg e, hf4.1 70 (by simp; omega)]; exact (hI i hi).1
      by_cases e : i = k
      · subst e
        refine ⟨by rw [e70, if_pos rfl]; simp, fun N' hN' => ?_⟩
        simp at hN'
        subst hN'
        exact nwC_kept N4 (by rw [h6, sI_ne (by omega)]) (by rw [h6, sI_ne (by omega)])
      · refine ⟨by rw [e70, if_neg e]; simp [e], fun N' hN' => ?_⟩
        simp [e] at hN'
        exact nwC_kept ((hI i hi).2 N' hN') (by rw [h6, sI_ne (by omega), hf4.1 _ (by simp; omega)]) (by rw [h6, sI_ne (by omega), hf4.1 _ (by simp; omega)])
theorem s_back9 {σ : St} {T : Nat} {N : Nw} {im : Nat → Option Nw} {k : Int32} {P : Int32 → St → Prop} (hT : T ≤ 5) (hN : nwC σ 65 T N) (hI : imC σ T im) (hP : ∀ σ', frC [65, 66] σ σ' → nwC σ' 65 T (nwBack N im k) → P (ansBack im k) σ') : wX9_back σ k P := by
  unfold wX9_back
  unfold nwBack ansBack at hP
  refine s_isImage ((br_b (fun q => ?_) (fun q => ?_)) |> fun h => ⟨fun c => h.2 c, fun c => h.1 c⟩)
  · rw [if_neg (by rw [q]; decide), if_neg (by rw [q]; decide)] at hP
    exact hP σ frC.rf hN
  · rw [if_pos q, if_pos q] at hP
    obtain ⟨k, hk, rfl⟩ := inR_t q (by omega)
    rw [cl (by omega)] at hP ⊢
    obtain ⟨i1, i2⟩ := hI k hk
    rw [i1]
    refine ⟨vp_in_nI (by omega) (by omega), ?_⟩
    cases e : im k with
    | none =>
      rw [e] at hP
      exact ⟨fun c => absurd rfl c, fun _ => hP σ frC.rf hN⟩
    | some N' =>
      rw [e] at hP
      refine ⟨fun _ => ⟨vp_in_nI (by omega) (by omega), s_become hT isN_65 (isN_iN hk) (by omega) (i2 N' e) (fun σ6 hf6 N6 => ?_)⟩, fun c => absurd c nb0⟩
      rw [N6.1]
      exact hP σ6 hf6 N6
theorem m_image {k : Nat} (hk : k < 2) : (12 : Int32) * ((2 : Int32) + nI k) = nI (12 * (2 + k)) := by
  rw [show (2 : Int32) = nI 2 from rfl, nI_add, show (12 : Int32) = nI 12 from rfl, pk_mul]
theorem m_keep10 {μ : St} {T : Nat} {N : Nw} {im : Nat → Option Nw} {k : Int32} {P : Int32 → St → Prop} (hT : T ≤ 5) (hN : nwM μ 0 T N) (hI : imM μ T im) (hP : ∀ μ', frC [12, 13] μ μ' → (∀ j, j < 24 → μ'.1 12 j = μ.1 12 j) → imM μ' T (imKeep N im k) → P (ansKeep N k) μ') : wX10_keep μ k P := by
  unfold wX10_keep
  unfold imKeep ansKeep at hP
  refine m_inL (a := 0) (b := 1) (by omega) (by omega) ?_
  rw [show (decide (((0 : Nat) : Int) ≤ k.toInt) && decide (k.toInt ≤ ((1 : Nat) : Int))) = inR k 2 by
    unfold inR
    congr 1
    apply decide_eq_decide.mpr
    omega]
  refine ((br_b (fun q => ?_) (fun q => ?_)) |> fun h => ⟨fun c => h.2 c, fun c => h.1 c⟩)
  · rw [if_neg (by rw [q]; decide), if_neg (by rw [q]; decide)] at hP
    exact hP μ frC.rf (fun _ _ => rfl) hI
  · rw [if_pos q, if_pos q] at hP
    obtain ⟨k, hk, rfl⟩ := inR_t q (by omega)
    rw [cl (by omega)] at hP
    rw [m_image hk, cl (n := k) (by omega), toN0]
    refine m_copy (f1 := 0) hT (by omega) (by omega) (by omega) hN (fun μ3 hf3 N3 => ⟨vp_in_nI (by omega) (by omega), fun μ5 h5 => ⟨in0 (by omega) (by omega), ?_⟩⟩)
    have e12 : μ5.1 12 = μ3.1 12 := by rw [h5, sI_ne (by decide)]
    have e0 : μ5.1 12 0 = nI (nD N) := by rw [e12, hf3.2 0 (by omega)]; exact hN.1
    rw [e0]
    refine hP μ5 (by rw [h5]; exact (hf3.1.up (by decide)).wr (by decide)) (fun j hj => by rw [e12]; exact hf3.2 j (by omega)) (fun i hi => ?_)
    have e13 : μ5.1 13 i = if i = k then bI true else bI (im i).isSome := by
      rw [h5, sI_get, nar1]
      by_cases e : i = k
      · rw [if_pos ⟨rfl, e⟩, if_pos e]
      · rw [if_neg (fun q => e q.2), if_neg e, hf3.1.1 13 (by decide)]; exact (hI i hi).1
    by_cases e : i = k
    · subst e
      refine ⟨by rw [e13, if_pos rfl]; simp, fun N' hN' => ?_⟩
      simp at hN'
      subst hN'
      exact nwM_kept N3 (fun j _ _ => by rw [e12])
    · refine ⟨by rw [e13, if_neg e]; simp [e], fun N' hN' => ?_⟩
      simp [e] at hN'
      exact nwM_kept ((hI i hi).2 N' hN') (fun j _ _ => by rw [e12]; exact hf3.2 j (by omega))
theorem m_back10 {μ : St} {T : Nat} {N : Nw} {im : Nat → Option Nw} {k : Int32} {P : Int32 → St → Prop} (hT : T ≤ 5) (hN : nwM μ 0 T N) (hI : imM μ T im) (hP : ∀ μ', f12 0 μ μ' → nwM μ' 0 T (nwBack N im k) → P (ansBack im k) μ') : wX10_back μ k P := by
  unfold wX10_back
  unfold nwBack ansBack at hP
  refine m_inL (a := 0) (b := 1) (by omega) (by omega) ?_
  rw [show (decide (((0 : Nat) : Int) ≤ k.toInt) && decide (k.toInt ≤ ((1 : Nat) : Int))) = inR k 2 by
    unfold inR
    congr 1
    apply decide_eq_decide.mpr
    omega]
  refine ((br_b (fun q => ?_) (fun q => ?_)) |> fun h => ⟨fun c => h.2 c, fun c => h.1 c⟩)
  · rw [if_neg (by rw [q]; decide), if_neg (by rw [q]; decide)] at hP
    exact hP μ f12.rf hN
  · rw [if_pos q, if_pos q] at hP
    obtain ⟨k, hk, rfl⟩ := inR_t q (by omega)
    obtain ⟨i1, i2⟩ := hI k hk
    rw [cl (by omega)] at hP
    rw [m_image hk, cl (n := k) (by omega), toN0, i1]
    refine ⟨vp_in_nI (by omega) (by omega), ?_⟩
    cases e : im k with
    | none =>
      rw [e] at hP
      exact ⟨fun c => absurd rfl c, fun _ => hP μ f12.rf hN⟩
    | some N' =>
      rw [e] at hP
      refine ⟨fun _ => m_copy (f2 := 0) hT (by omega) (by omega) (by omega) (i2 N' e) (fun μ5 hf5 N5 => ⟨in0 (by omega) (by omega), ?_⟩), fun c => absurd c nb0⟩
      have e0 : μ5.1 12 0 = nI (nD N') := N5.1
      rw [e0]
      exact hP μ5 hf5 N5
/-! whose it can have been -/
def mkB (O : Orc) (g h : Nat) (q : Nat × Nat) : Bool := decide (oG O q.1 = g) && decide (h ≤ min (oL O q.1) (oL O q.2))
def in19 (x : Int32) : Bool := decide (1 ≤ x.toInt) && decide (x.toInt ≤ 9)
def ansWhose (O : Orc) (g h what : Int32) : Int32 := if (in19 g && in19 h && inR what 2) = true then (if what = 0 then nI ((prs O).filter (mkB O g.toNatClampNeg h.toNatClampNeg)).length else paV ((prs O).filter (mkB O g.toNatClampNeg h.toNatClampNeg)).head?) else -1
theorem in19_t {x : Int32} (h : in19 x = true) : ∃ k : Nat, (1 ≤ k ∧ k ≤ 9) ∧ x = nI k := by
  unfold in19 at h
  simp only [Bool.and_eq_true, decide_eq_true_eq] at h
  obtain ⟨k, hk, rfl⟩ := inR_t (x := x) (n := 10) (by simp [inR]; omega) (by omega)
  rw [toI (by omega)] at h
  exact ⟨k, by omega, rfl⟩
theorem s_leaves {σ : St} {O : Orc} {i a b g h : Nat} {P : Int32 → Prop} (hk : oOk O) (hp : prC σ O (prs O)) (hi : (prs O)[i]? = some (a, b)) (hg : g < 100) (hh : h < 100) (hP : P (bI (mkB O g h (a, b)))) : wX4_leavesMarks σ (nI i) (nI g) (nI h) P := by
  have hl := prs_len hk
  have hil : i < (prs O).length := (List.getElem?_eq_some_iff.mp hi).1
  obtain ⟨q0, q1, q2, q3, q4, q5⟩ := hp.2 i a b hi
  obtain ⟨ha, hb, -, -⟩ := prs_at hi
  have A := hk.2.2.1 a ha
  have B := hk.2.2.1 b hb
  unfold wX4_leavesMarks
  rw [cl (by omega), q3, q4]
  have v : vp_in (nI i) 16 := vp_in_nI (by omega) (by omega)
  unfold mkB at hP
  refine ⟨v, fun c => ?_, fun c => ⟨v, fun c2 => ?_, fun c2 => ?_⟩⟩
  · rw [show decide (oG O a = g) = false from decide_eq_false (fun e => c (by rw [e]))] at hP; exact hP
  · have c2 := (nI_ltI (by omega) (by omega)).mp c2
    rw [show decide (h ≤ min (oL O a) (oL O b)) = false from decide_eq_false (by omega), Bool.and_false] at hP; exact hP
  · have c := (nI_eq (by omega) (by omega)).mp c
    have c2 : ¬ min (oL O a) (oL O b) < h := fun q => c2 (nI_lt q (by omega))
    rw [show decide (oG O a = g) = true from decide_eq_true c, show decide (h ≤ min (oL O a) (oL O b)) = true from decide_eq_true (by omega)] at hP; exact hP
theorem s_howMany {σ : St} {O : Orc} {g h : Nat} {P : Int32 → Prop} (hk : oOk O) (hp : prC σ O (prs O)) (hg : g < 100) (hh : h < 100) (hP : P (nI ((prs O).filter (mkB O g h)).length)) : wX4_howMany σ (nI g) (nI h) P := by
  have hl := prs_len hk
  unfold wX4_howMany
  refine ⟨(prs O).length + 1, ?_⟩
  have step : ∀ d i, i + d = (prs O).length → wLX4_howMany_5 (nI g) (nI h) σ (fun (y7 : Int32) => P y7) P (d + 1) (nI (((prs O).take i).filter (mkB O g h)).length) (nI i) := by
    intro d
    induction d with
    | zero =>
      intro i hi
      rw [wLX4_howMany_5, hp.1]
      exact ⟨fun _ => by rw [show i = (prs O).length by omega, List.take_length]; exact hP, fun c => absurd (nI_le (by omega) (by omega)) c⟩
    | succ d ih =>
      intro i hi
      have hil : i < (prs O).length := by omega
      obtain ⟨q, hq⟩ : ∃ q, (prs O)[i]? = some q := ⟨_, List.getElem?_eq_getElem hil⟩
      obtain ⟨a, b⟩ := q
      have nx := ih (i + 1) (by omega)
      rw [List.take_add_one, hq, List.filter_append, List.length_append] at nx
      rw [wLX4_howMany_5, hp.1]
      refine ⟨fun c => absurd c (nI_ge hil (by omega)), fun _ => s_leaves hk hp hq hg hh (br_b (fun f z hz => ?_) (fun f z hz z6 hz6 => ?_))⟩
      · rw [hz, add1]
        rw [show (Option.toList (some (a, b))).filter (mkB O g h) = [] by simp [List.filter, f]] at nx
        exact nx
      · rw [hz, hz6, add1, add1]
        rw [show (Option.toList (some (a, b))).filter (mkB O g h) = [(a, b)] by simp [List.filter, f]] at nx
        exact nx
  exact step (prs O).length 0 (by omega)
theorem s_firstOf {σ : St} {O : Orc} {g h : Nat} {P : Int32 → Prop} (hk : oOk O) (hp : prC σ O (prs O)) (hg : g < 100) (hh : h < 100) (hP : P (paV ((prs O).filter (mkB O g h)).head?)) : wX4_firstOf σ (nI g) (nI h) P := by
  have hl := prs_len hk
  unfold wX4_firstOf
  refine ⟨(prs O).length + 1, ?_⟩
  have step : ∀ l i, (prs O).drop i = l → i ≤ (prs O).length → P (paV (l.filter (mkB O g h)).head?) → wLX4_firstOf_2 (nI g) (nI h) σ (P (-9 : Int32)) (fun (y5 : Int32) => wX4_numberOf σ y5 (fun r6 : Int32 => P r6)) P (l.length + 1) (nI i) := by
    intro l
    induction l with
    | nil =>
      intro i hi hle hP
      have := drop_nil hi
      rw [List.length_nil, wLX4_firstOf_2, hp.1]
      exact ⟨fun _ => hP, fun c => absurd (nI_le (by omega) (by omega)) c⟩
    | cons q l ih =>
      intro i hi hle hP
      obtain ⟨e1, e2, e3⟩ := drop_cons hi
      obtain ⟨a, b⟩ := q
      rw [List.length_cons, wLX4_firstOf_2, hp.1]
      refine ⟨fun c => absurd c (nI_ge e3 (by omega)), fun _ => s_leaves hk hp e1 hg hh (br_b (fun f z hz => ?_) (fun f => s_numberOf hk hp e1 ?_))⟩
      · rw [hz, add1]
        rw [List.filter_cons, if_neg (by rw [f]; decide)] at hP
        exact ih (i + 1) e2 (by omega) hP
      · rw [List.filter_cons, if_pos f] at hP
        exact hP
  exact step (prs O) 0 rfl (Nat.zero_le _) hP
theorem s_whose9 {σ : St} {O : Orc} {g h what : Int32} {P : Int32 → Prop} (hk : oOk O) (hp : prC σ O (prs O)) (hP : P (ansWhose O g h what)) : wX9_whose σ g h what P := by
  have bad : (in19 g && in19 h && inR what 2) = false → P (-1) := fun q => by
    unfold ansWhose at hP
    rw [if_neg (by rw [q]; decide)] at hP; exact hP
  have f1 : ∀ x : Int32, x < (1 : Int32) → in19 x = false := fun x c => by
    have c := Int32.lt_iff_toInt_lt.mp c
    rw [show (1 : Int32).toInt = 1 from rfl] at c
    unfold in19; simp; omega
  have f9 : ∀ x : Int32, (9 : Int32) < x → in19 x = false := fun x c => by
    have c := Int32.lt_iff_toInt_lt.mp c
    rw [show (9 : Int32).toInt = 9 from rfl] at c
    unfold in19; simp; omega
  have ft : ∀ x : Int32, ¬ x < (1 : Int32) → ¬ (9 : Int32) < x → in19 x = true := fun x c1 c2 => by
    have c1 : ¬ x.toInt < 1 := fun q => c1 (Int32.lt_iff_toInt_lt.mpr q)
    have c2 : ¬ 9 < x.toInt := fun q => c2 (Int32.lt_iff_toInt_lt.mpr q)
    unfold in19; simp; omega
  unfold wX9_whose
  refine ⟨fun c => bad (by rw [f1 g c]; rfl), fun g1 => ⟨fun c => bad (by rw [f9 g c]; rfl), fun g9 => ⟨fun c => bad (by rw [f1 h c]; simp), fun h1 => ⟨fun c => bad (by rw [f9 h c]; simp), fun h9 => ⟨fun c => bad (by rw [inR_lt0 c]; simp), fun w0 => ⟨fun w1 => ?_, fun c => bad ?_⟩⟩⟩⟩⟩⟩
  · have hw : inR what 2 = true := by
      have a0 : ¬ what.toInt < 0 := fun q => w0 (lt0.mpr q)
      have w1 := Int32.le_iff_toInt_le.mp w1
      rw [show (1 : Int32).toInt = 1 from rfl] at w1
      unfold inR; simp; omega
    have hg := ft g g1 g9
    have hh := ft h h1 h9
    unfold ansWhose at hP
    rw [if_pos (by rw [hg, hh, hw]; rfl)] at hP
    obtain ⟨g, hgk, rfl⟩ := in19_t hg
    obtain ⟨h, hhk, rfl⟩ := in19_t hh
    rw [cl (by omega), cl (by omega)] at hP
    refine ⟨fun c => s_firstOf hk hp (by omega) (by omega) ?_, fun c => s_howMany hk hp (by omega) (by omega) ?_⟩
    · rw [if_neg c] at hP; exact hP
    · rw [if_pos c] at hP; exact hP
  · have c1 : ¬ what.toInt ≤ 1 := fun q => c (Int32.le_iff_toInt_le.mpr q)
    have : inR what 2 = false := by unfold inR; simp; omega
    rw [this]; simp
theorem paV_app {l m : List (Nat × Nat)} : paV (l ++ m).head? = if l = [] then paV m.head? else paV l.head? := by
  cases l with
  | nil => simp
  | cons q l => simp
theorem m_whoseIn {μ : St} {O : Orc} {a g h : Nat} {what : Int32} {K : Int32 → Int32 → Prop} {P : Int32 → Prop} (hM : orM μ O) (hk : oOk O) (ha : a < oP O) (hg : g < 100) (hh : h < 100) (F0 : List (Nat × Nat)) (hF : F0.length ≤ 8 * a)
    (hK : ∀ F, F = F0 ++ (if oS O a = 0 then (plR O a (oP O)).filter (mkB O g h) else []) → F.length ≤ 8 * a + oP O → K (nI F.length) (paV F.head?)) :
    ∀ d j F, j + d = oP O → F = F0 ++ (if oS O a = 0 then (plR O a j).filter (mkB O g h) else []) → F.length ≤ 8 * a + j → wLX10_whose_55 (nI g) (nI h) what (nI a) μ K P (d + 1) (nI F.length) (paV F.head?) (nI j) := by
  have h8 := hk.1
  intro d
  induction d with
  | zero =>
    intro j F hj hF hl
    rw [wLX10_whose_55, toN0, hM.1]
    have e : j = oP O := by omega
    subst e
    exact ⟨in0 (by omega) (by omega), fun _ => hK F hF hl, fun c => absurd (nI_le (Nat.le_refl _) (by omega)) c⟩
  | succ d ih =>
    intro j F hj hF hl
    have hjP : j < oP O := by omega
    have A := hk.2.2.1 a ha
    have B := hk.2.2.1 j hjP
    -- what stays, what comes
    have stay : (oS O a = 0 → (oF O a j && mkB O g h (a, j)) = false) → wLX10_whose_55 (nI g) (nI h) what (nI a) μ K P (d + 1) (nI F.length) (paV F.head?) (nI (j + 1)) := fun q => by
      refine ih (j + 1) F (by omega) ?_ (by omega)
      rw [hF]
      by_cases s : oS O a = 0
      · rw [if_pos s, if_pos s, plR_s, List.filter_append]
        have q := q s
        cases f : oF O a j with
        | false => simp
        | true =>
          rw [f, Bool.true_and] at q
          simp [List.filter, q]
      · rw [if_neg s, if_neg s]
    rw [wLX10_whose_55, toN0, hM.1, cl (n := a) (by omega), cl (n := j) (by omega), (hM.2.2.1 a ha).1, (hM.2.2.1 j hjP).1, (hM.2.2.1 a ha).2.1]
    refine ⟨in0 (by omega) (by omega), fun c => absurd c (nI_ge hjP (by omega)), fun _ => ⟨vp_in_nI (by omega) (by omega), fun c z hz => ?_, fun c => ⟨vp_in_nI (by omega) (by omega), fun c2 z hz => ?_, fun c2 => m_fits hM hk ha hjP (br_b (fun f z hz => ?_) (fun f => ⟨vp_in_nI (by omega) (by omega), fun c3 z hz => ?_, fun c3 => m_ladder hM hk ha hjP ⟨fun c4 z hz => ?_, fun c4 => ?_⟩⟩))⟩⟩⟩
    · rw [hz, add1]
      exact stay (fun s => absurd (by rw [s]; rfl) c)
    · rw [hz, add1]
      have s0 : oS O a = 0 := (eqI rfl (b := 0) rfl (by omega) (by omega)).mp c
      refine stay (fun _ => ?_)
      cases f : oF O a j with
      | false => rfl
      | true =>
        have := oF_side f
        exact absurd (by rw [show oS O j = 1 by omega]; rfl) c2
    · rw [hz, add1]
      exact stay (fun _ => by rw [f]; rfl)
    · rw [hz, add1]
      refine stay (fun _ => ?_)
      unfold mkB
      rw [show decide (oG O a = g) = false from decide_eq_false (fun e => c3 (by rw [e]))]; simp
    · rw [hz, add1]
      have c4 := (nI_ltI (by omega) (by omega)).mp c4
      refine stay (fun _ => ?_)
      unfold mkB
      rw [show decide (h ≤ min (oL O a) (oL O j)) = false from decide_eq_false (by omega)]; simp
    · have s0 : oS O a = 0 := (eqI rfl (b := 0) rfl (by omega) (by omega)).mp c
      have c3 := (nI_eq (by omega) (by omega)).mp c3
      have c4 : ¬ min (oL O a) (oL O j) < h := fun q => c4 (nI_lt q (by omega))
      have mk : mkB O g h (a, j) = true := by
        unfold mkB
        rw [show decide (oG O a = g) = true from decide_eq_true c3, show decide (h ≤ min (oL O a) (oL O j)) = true from decide_eq_true (by omega)]; rfl
      have e : F ++ [(a, j)] = F0 ++ (if oS O a = 0 then (plR O a (j + 1)).filter (mkB O g h) else []) := by
        rw [hF, if_pos s0, if_pos s0, plR_s, List.filter_append, if_pos f, List.append_assoc]
        simp [List.filter, mk]
      have nx := ih (j + 1) (F ++ [(a, j)]) (by omega) e (by simp; omega)
      rw [List.length_append, show [(a, j)].length = 1 from rfl, paV_app] at nx
      refine ⟨fun c5 z hz z28 hz28 => ?_, fun c5 z29 h29 z hz z31 h31 => ?_⟩
      · have ne : ¬ F = [] := fun q => c5 (by rw [q]; rfl)
        rw [hz, hz28, add1, add1]
        rw [if_neg ne] at nx
        exact nx
      · have c5 : F.length = 0 := (eqI rfl (b := 0) rfl (by omega) (by omega)).mp c5
        have ee : F = [] := List.length_eq_zero_iff.mp c5
        rw [h29, hz, h31, add1, add1, show (10 : Int32) = nI 10 from rfl, pk_mul, nI_add]
        rw [if_pos ee] at nx
        exact nx
theorem m_whose10 {μ : St} {O : Orc} {g h what : Int32} {P : Int32 → Prop} (hM : orM μ O) (hk : oOk O) (hP : P (ansWhose O g h what)) : wX10_whose μ g h what P := by
  have h8 := hk.1
  unfold ansWhose at hP
  unfold wX10_whose
  refine m_inL (a := 1) (b := 9) (by omega) (by omega) (br_b (fun q => ?_) (fun qg => m_inL (a := 1) (b := 9) (by omega) (by omega) (br_b (fun q => ?_) (fun qh => m_inL (a := 0) (b := 1) (by omega) (by omega) ?_))))
  · have q : in19 g = false := q
    rw [if_neg (by rw [q]; simp)] at hP; exact hP
  · have q : in19 h = false := q
    rw [if_neg (by rw [q]; simp)] at hP; exact hP
  · rw [show (decide (((0 : Nat) : Int) ≤ what.toInt) && decide (what.toInt ≤ ((1 : Nat) : Int))) = inR what 2 by
      unfold inR
      congr 1
      apply decide_eq_decide.mpr
      omega]
    have qg : in19 g = true := qg
    have qh : in19 h = true := qh
    refine ((br_b (fun q => ?_) (fun q => ?_)) |> fun h => ⟨fun c => h.2 c, fun c => h.1 c⟩)
    · rw [if_neg (by rw [q]; simp)] at hP; exact hP
    · rw [if_pos (by rw [qg, qh, q]; rfl)] at hP
      obtain ⟨g, hg, rfl⟩ := in19_t qg
      obtain ⟨h, hh, rfl⟩ := in19_t qh
      rw [cl (n := g) (by omega), cl (n := h) (by omega)] at hP
      refine ⟨oP O + 1, ?_⟩
      have step : ∀ (K : Int32 → Int32 → Prop), K (nI ((prs O).filter (mkB O g h)).length) (paV ((prs O).filter (mkB O g h)).head?) → ∀ d i F, i + d = oP O → F = (plA O i).filter (mkB O g h) → F.length ≤ 8 * i → wLX10_whose_41 (nI g) (nI h) what μ K P (d + 1) (nI F.length) (paV F.head?) (nI i) := by
        intro K hK d
        induction d with
        | zero =>
          intro i F hi hF hl
          rw [wLX10_whose_41, toN0, hM.1]
          have e : i = oP O := by omega
          subst e
          exact ⟨in0 (by omega) (by omega), fun _ => by rw [hF]; exact hK, fun c => absurd (nI_le (Nat.le_refl _) (by omega)) c⟩
        | succ d ih =>
          intro i F hi hF hl
          have hiP : i < oP O := by omega
          rw [wLX10_whose_41, toN0, hM.1]
          refine ⟨in0 (by omega) (by omega), fun c => absurd c (nI_ge hiP (by omega)), fun _ => ⟨oP O + 1, ?_⟩⟩
          refine m_whoseIn hM hk hiP (by omega) (by omega) F hl (fun F' hF' hl' z hz => ?_) (oP O) 0 F (by omega) ?_ (by omega)
          · rw [hz, add1]
            refine ih (i + 1) F' (by omega) ?_ (by omega)
            rw [hF', plA_s, List.filter_append, hF]
            by_cases s : oS O i = 0
            · rw [if_pos s, if_pos s]
            · rw [if_neg s, if_neg s]; rfl
          · have : plR O i 0 = [] := rfl
            rw [this]; simp
      refine step _ ⟨fun c => ?_, fun c => ?_⟩ (oP O) 0 [] (by omega) rfl (Nat.zero_le _)
      · rw [if_neg c] at hP; exact hP
      · rw [if_pos c] at hP; exact hP
