/-- whom tree t gets, when some are taken: the first of the best -/
def cqF (O : Orc) (N : Nw) (t taken : Nat) : Option (Nat × Nat) := if D_ O N (t + 1) taken = D_ O N t taken then none else (prs O).find? (fun q => cB O N t taken q && decide (fB O N t taken q = D_ O N t taken))
def tkN (O : Orc) (N : Nw) : Nat → Nat
  | 0 => 0
  | t + 1 => match cqF O N t (tkN O N t) with
    | none => tkN O N t
    | some q => tkN O N t ||| two q
theorem cqF_some {O : Orc} {N : Nw} {t taken : Nat} {q : Nat × Nat} (h : cqF O N t taken = some q) : q ∈ prs O ∧ cB O N t taken q = true ∧ fB O N t taken q = D_ O N t taken := by
  unfold cqF at h
  split at h
  · cases h
  · have h1 := List.mem_of_find?_eq_some h
    have h2 := List.find?_some h
    simp only [Bool.and_eq_true, decide_eq_true_eq] at h2
    exact ⟨h1, h2⟩
theorem tkN_ok {O : Orc} (hk : oOk O) (N : Nw) : ∀ t, tkN O N t < 2 ^ oP O ∧ rS O t (tkN O N t) = true := by
  intro t
  induction t with
  | zero => exact ⟨Nat.two_pow_pos _, by unfold rS tkN; simp [popN]⟩
  | succ t ih =>
    rw [tkN]
    cases h : cqF O N t (tkN O N t) with
    | none => exact ⟨ih.1, rS_next ih.2⟩
    | some q =>
      obtain ⟨a, b⟩ := q
      obtain ⟨h1, h2, -⟩ := cqF_some h
      obtain ⟨ha, hb, -, -⟩ := prs_mem.mp h1
      unfold cB at h2
      simp only [Bool.and_eq_true, decide_eq_true_eq] at h2
      exact ⟨taken_lt ih.1 ha hb, rS_pair hk ih.1 h1 ih.2 h2.2⟩
theorem s_firstOfBest {σ : St} {O : Orc} {N : Nw} {taken t : Nat} {P : Int32 → Prop} (hk : oOk O) (hp : prC σ O (prs O)) (hg : gaC σ O N t) (hm : moC σ O N (t + 1)) (hm0 : moC σ O N t) (ht : taken < 2 ^ oP O) (hr : rS O t taken = true) (htT : t < oT O)
    (hN : cqF O N t taken = none → P (-1)) (hS : ∀ i q, cqF O N t taken = some q → (prs O)[i]? = some q → P (nI i)) : wX5_firstOfBest σ (nI taken) (nI t) P := by
  have h8 := hk.1
  have h5 := hk.2.1
  have p8 := pow8 h8
  have hl := prs_len hk
  have b1 := D_lt hk N (t + 1) taken
  have b2 := D_lt hk N t taken
  unfold wX5_firstOfBest
  rw [add1, cl (by omega), cl (by omega), cl (by omega), hm taken ht (rS_next hr), hm0 taken ht hr]
  refine ⟨vp_in_nI (by omega) (by omega), vp_in_nI (by omega) (by omega), vp_in_nI (by omega) (by omega), vp_in_nI (by omega) (by omega), fun c => ⟨(prs O).length + 1, ?_⟩, fun c => hN ?_⟩
  · have c : ¬ D_ O N (t + 1) taken = D_ O N t taken := fun q => c (by rw [q])
    have e : cqF O N t taken = (prs O).find? (fun q => cB O N t taken q && decide (fB O N t taken q = D_ O N t taken)) := by unfold cqF; rw [if_neg c]
    have step : ∀ (l : List (Nat × Nat)) (i : Nat), (prs O).drop i = l → i + l.length = (prs O).length → cqF O N t taken = l.find? (fun q => cB O N t taken q && decide (fB O N t taken q = D_ O N t taken)) → wLX5_firstOfBest_26 (nI taken) (nI t) σ (P (-1 : Int32)) P (l.length + 1) (nI i) := by
      intro l
      induction l with
      | nil =>
        intro i hd hi he
        rw [wLX5_firstOfBest_26, hp.1]
        have := drop_nil hd
        exact ⟨fun _ => hN he, fun c => absurd (nI_le this (by simp at hi; omega)) c⟩
      | cons q l ih =>
        intro i hd hi he
        obtain ⟨x1, y1⟩ := q
        obtain ⟨d1, d2, d3⟩ := drop_cons hd
        have hlen : l.length + (i + 1) = (prs O).length := by simp at hi; omega
        show wLX5_firstOfBest_26 _ _ σ _ P ((l.length + 1) + 1) (nI i)
        rw [wLX5_firstOfBest_26, hp.1]
        rw [List.find?_cons] at he
        refine ⟨fun c => absurd c (nI_ge d3 (by omega)), fun _ => s_canClimb hk hp hg d1 (by omega) (by omega) (br_b (fun f z hz => ?_) (fun f => s_with hk hp hg hm d1 ht hr f (by omega) ⟨vp_in_nI (by omega) (by omega), vp_in_nI (by omega) (by omega), ?_⟩))⟩
        · rw [hz, add1]
          rw [f] at he
          exact ih (i + 1) d2 (by omega) he
        · obtain ⟨ha1, hb1, -, -⟩ := prs_at d1
          have b1 := pkN_le hk (N := N) (t := t) ha1 hb1
          have b2' := D_lt hk N (t + 1) (taken ||| two (x1, y1))
          have b3 : fB O N t taken (x1, y1) ≤ 108 := by unfold fB; omega
          rw [cl (by omega), cl (by omega), hm0 taken ht hr]
          refine ⟨fun g z hz => ?_, fun g => ?_⟩
          · have g : ¬ fB O N t taken (x1, y1) = D_ O N t taken := fun q => g (by rw [q])
            rw [hz, add1]
            rw [decide_eq_false g, Bool.and_false] at he
            exact ih (i + 1) d2 (by omega) he
          · have g := (nI_eq (by omega) (by omega)).mp g
            rw [f, decide_eq_true g] at he
            exact hS i (x1, y1) he d1
    exact step (prs O) 0 rfl (by omega) e
  · have c := (nI_eq (by omega) (by omega)).mp c
    unfold cqF
    rw [if_pos c]
/-- what the plan's row of trees holds -/
def chC (σ : St) (O : Orc) (N : Nw) (t : Nat) : Prop := match cqF O N t (tkN O N t) with
  | none => σ.1 51 t = -1
  | some q => ∃ i, (prs O)[i]? = some q ∧ σ.1 51 t = nI i
theorem s_choose {σ : St} {o : Nat} {O : Orc} {N : Nw} {P : St → Prop} (ho : isO o) (hO : orC σ o O) (hk : oOk O) (hp : prC σ O (prs O)) (hg : ∀ t, t < oT O → gaC σ O N t) (hm : ∀ t, t ≤ oT O → moC σ O N t)
    (hP : ∀ σ', frC [51] σ σ' → (∀ t, t < oT O → chC σ' O N t) → P σ') : wX5_choose σ o P := by
  have h8 := hk.1
  have h5 := hk.2.1
  have p8 := pow8 h8
  have hl := prs_len hk
  unfold wX5_choose
  refine ⟨ho, oT O + 1, ?_⟩
  have step : ∀ d t σ1, t + d = oT O → frC [51] σ σ1 → (∀ u, u < t → chC σ1 O N u) → wLX5_choose_5 o (fun σ12 => P σ12) P (d + 1) σ1 (nI (tkN O N t)) (nI t) := by
    intro d
    induction d with
    | zero =>
      intro t σ1 hd hf hc
      rw [wLX5_choose_5]
      have hO1 := orC_fr ho hO hf (by decide)
      rw [hO1.2.1]
      exact ⟨fun _ => hP σ1 hf (fun u hu => hc u (by omega)), fun c => absurd (nI_le (by omega) (by omega)) c⟩
    | succ d ih =>
      intro t σ1 hd hf hc
      rw [wLX5_choose_5]
      have hO1 := orC_fr ho hO hf (by decide)
      have tT : t < oT O := by omega
      have tk := tkN_ok hk N t
      rw [hO1.2.1]
      have hp1 := prC_kept hp (fun k h1 h2 => hf.1 k (by simp <;> omega))
      have hg1 : gaC σ1 O N t := fun i a b hi => by rw [hf.1 (53 + t) (by simp <;> omega)]; exact hg t tT i a b hi
      have hm1 : ∀ u, u ≤ oT O → moC σ1 O N u := fun u hu taken h1 h2 => by rw [hf.1 (59 + u) (by simp <;> omega)]; exact hm u hu taken h1 h2
      have old : ∀ (σ4 : St) (v : Int32), σ4 = sI σ1 51 t v → ∀ u, u < t → chC σ4 O N u := fun σ4 v h4 u hu => by
        have := hc u hu
        have e : σ4.1 51 u = σ1.1 51 u := by rw [h4, sI_off (by omega)]
        unfold chC at this ⊢
        rw [e]; exact this
      refine ⟨fun c => absurd c (nI_ge (by omega) (by omega)), fun _ => s_firstOfBest hk hp1 hg1 (hm1 (t + 1) (by omega)) (hm1 t (by omega)) tk.1 tk.2 tT (fun hn => ?_) (fun i q hs hi => ?_)⟩
      · rw [cl (by omega)]
        refine ⟨vp_in_nI (by omega) (by omega), fun σ4 h4 => ⟨vp_in_nI (by omega) (by omega), fun _ z hz => ?_, fun c => absurd (by rw [h4, sI_at]) c⟩⟩
        rw [hz, add1]
        have := ih (t + 1) σ4 (by omega) (by rw [h4]; exact hf.wr (by simp)) (fun u hu => by
          by_cases e : u = t
          · subst e
            unfold chC
            rw [hn, h4, sI_at]
          · exact old σ4 _ h4 u (by omega))
        rw [tkN, hn] at this
        exact this
      · have hil : i < (prs O).length := (List.getElem?_eq_some_iff.mp hi).1
        obtain ⟨a, b⟩ := q
        rw [cl (by omega)]
        refine ⟨vp_in_nI (by omega) (by omega), fun σ4 h4 => ?_⟩
        have e4 : σ4.1 51 t = nI i := by rw [h4, sI_at]
        have e28 : σ4.1 28 = σ1.1 28 := by rw [h4, sI_ne (by decide)]
        rw [e4, cl (by omega), e28, (hp1.2 i a b hi).2.2.1, orN]
        refine ⟨vp_in_nI (by omega) (by omega), fun c => absurd c ?_, fun _ => ⟨vp_in_nI (by omega) (by omega), vp_in_nI (by omega) (by omega), fun z hz z11 hz11 => ?_⟩⟩
        · intro c
          have : (nI i).toInt = (-1 : Int32).toInt := by rw [c]
          rw [toI (by omega), show (-1 : Int32).toInt = -1 from rfl] at this
          omega
        · rw [hz, hz11, add1]
          have := ih (t + 1) σ4 (by omega) (by rw [h4]; exact hf.wr (by simp)) (fun u hu => by
            by_cases e : u = t
            · subst e
              unfold chC
              rw [hs]
              exact ⟨i, hi, e4⟩
            · exact old σ4 _ h4 u (by omega))
          rw [tkN, hs] at this
          exact this
  exact step (oT O) 0 σ (by omega) frC.rf (fun u hu => absurd hu (Nat.not_lt_zero u))
theorem subI (x : Int32) : x + (-1 : Int32) = x - (1 : Int32) := by rw [Int32.sub_eq_add_neg]
def S51 : List Nat := [51, 53, 54, 55, 56, 57, 59, 60, 61, 62, 63, 64]
theorem S51_g {t : Nat} (h : t < 5) : 53 + t ∈ S51 := by
  rcases (show t = 0 ∨ t = 1 ∨ t = 2 ∨ t = 3 ∨ t = 4 by omega) with rfl | rfl | rfl | rfl | rfl <;> decide
theorem S51_m {t : Nat} (h : t ≤ 5) : 59 + t ∈ S51 := by
  rcases (show t = 0 ∨ t = 1 ∨ t = 2 ∨ t = 3 ∨ t = 4 ∨ t = 5 by omega) with rfl | rfl | rfl | rfl | rfl | rfl <;> decide
theorem S51_r {k : Nat} (h : k ∈ S51) : 51 ≤ k ∧ k ≤ 64 := by
  unfold S51 at h
  simp at h
  omega
theorem frC.sF {S : List Nat} {σ σ' : St} {k n : Nat} {v : Int32} (h : frC S σ σ') (hk : k ∈ S) : frC S σ (sF σ' k n v) := ⟨fun i hi => by
    show (if i = k then _ else σ'.1 i) = σ.1 i
    rw [if_neg (fun e => hi (by rw [e]; exact hk))]; exact h.1 i hi, h.2⟩
theorem sF_at {σ : St} {k n j : Nat} {v : Int32} (h : j < n) : (sF σ k n v).1 k j = v := by simp [sF, h]
theorem s_make {σ : St} {o n : Nat} {O : Orc} {N : Nw} {P : Int32 → St → Prop} (ho : isO o) (hn : isN n) (hO : orC σ o O) (hk : oOk O) (hp : prC σ O (prs O)) (hL : σ.1 25 1 = nI (allL O (oP O))) (hN : nwC σ n (oT O) N) (hNk : nOk (oT O) N)
    (hP : ∀ σ', frC S51 σ σ' → (∀ t, t < oT O → gaC σ' O N t) → (∀ t, t < oT O → chC σ' O N t) → P (nI (D_ O N 0 0)) σ') : wX5_make σ o n P := by
  have h8 := hk.1
  have h5 := hk.2.1
  have p8 := pow8 h8
  have hl := prs_len hk
  have nr := isN_r hn
  have p1 : 1 ≤ 2 ^ oP O := Nat.one_le_two_pow
  unfold wX5_make
  rw [hO.2.1, cl (by omega)]
  refine ⟨ho, hn, vp_in_nI (by omega) (by omega), fun σ2 h2 z3 h3 => ⟨oT O + 1, ?_⟩⟩
  have F2 : frC S51 σ σ2 := by rw [h2]; exact frC.rf.sF (S51_m h5)
  have hO2 := orC_fr ho hO F2 (fun k hk => by have := S51_r hk; omega)
  rw [hO2.2.1] at h3
  subst h3
  have kp : ∀ {σ1 : St}, frC S51 σ σ1 → orC σ1 o O ∧ prC σ1 O (prs O) ∧ σ1.1 25 1 = nI (allL O (oP O)) ∧ nwC σ1 n (oT O) N := fun {σ1} hf =>
    ⟨orC_fr ho hO hf (fun k hk => by have := S51_r hk; omega), prC_kept hp (fun k h1 h2 => hf.1 k (fun q => by have := S51_r q; omega)), by rw [hf.1 25 (by decide)]; exact hL,
      nwC_kept hN (hf.1 n (fun q => by have := S51_r q; omega)) (hf.1 (n + 1) (fun q => by have := S51_r q; omega))⟩
  have step : ∀ t σ1, t ≤ oT O → frC S51 σ σ1 → (∀ u, t ≤ u → u < oT O → gaC σ1 O N u) → (∀ u, t ≤ u → u ≤ oT O → moC σ1 O N u) → wLX5_make_21 o n (fun (σ26 : St) => wX5_choose σ26 o (fun σ27 : St => vp_in (0 : Int32) 6 ∧ vp_in (0 : Int32) 256 ∧ P (σ27.1 (59 + (0 : Int32).toNatClampNeg) (0 : Int32).toNatClampNeg) σ27)) P (t + 1) σ1 (nI t - (1 : Int32)) := by
    intro t
    induction t with
    | zero =>
      intro σ1 _ hf hg hm
      rw [wLX5_make_21]
      obtain ⟨k1, k2, k3, k4⟩ := kp hf
      refine ⟨fun _ => s_choose ho k1 hk k2 (fun u hu => hg u (Nat.zero_le _) hu) (fun u hu => hm u (Nat.zero_le _) hu) (fun σ27 hf27 hc => ⟨in0 (by omega) (by omega), in0 (by omega) (by omega), ?_⟩), fun c => absurd (by decide) c⟩
      rw [toN0, hf27.1 (59 + 0) (by decide), hm 0 (Nat.le_refl _) (Nat.zero_le _) 0 (Nat.two_pow_pos _) (by unfold rS; simp [popN])]
      exact hP σ27 (hf.tr (hf27.up (by decide))) (fun u hu i a b hi => by rw [hf27.1 (53 + u) (by simp <;> omega)]; exact hg u (Nat.zero_le _) hu i a b hi) hc
    | succ t ih =>
      intro σ1 htT hf hg hm
      rw [wLX5_make_21, nI_pred]
      have tT : t < oT O := by omega
      refine ⟨fun c => absurd c (nI_pos (by omega)), fun _ => ⟨(prs O).length + 1, ?_⟩⟩
      -- what each pair would pick
      have gl : ∀ K : St → Prop, (∀ σ5, frC [53 + t] σ1 σ5 → gaC σ5 O N t → K σ5) → ∀ (l : List (Nat × Nat)) (i : Nat) (σ4 : St), (prs O).drop i = l → i + l.length = (prs O).length → frC [53 + t] σ1 σ4 → (∀ j a b, j < i → (prs O)[j]? = some (a, b) → σ4.1 (53 + t) j = nI (pkN O N (a, b) t)) → wLX5_make_29 o n (nI t) K P (l.length + 1) σ4 (nI i) := by
        intro K hK l
        induction l with
        | nil =>
          intro i σ4 hd hi hf4 hg4
          rw [wLX5_make_29]
          have F4 : frC S51 σ σ4 := hf.tr (hf4.up (fun k hk => by simp at hk; rw [hk]; exact S51_g (by omega)))
          rw [(kp F4).2.1.1]
          have := drop_nil hd
          exact ⟨fun _ => hK σ4 hf4 (fun j a b hj => hg4 j a b (by have := (List.getElem?_eq_some_iff.mp hj).1; omega) hj), fun c => absurd (nI_le this (by simp at hi; omega)) c⟩
        | cons q l ihl =>
          intro i σ4 hd hi hf4 hg4
          obtain ⟨x1, y1⟩ := q
          obtain ⟨d1, d2, d3⟩ := drop_cons hd
          have hlen : l.length + (i + 1) = (prs O).length := by simp at hi; omega
          show wLX5_make_29 o n (nI t) K P ((l.length + 1) + 1) σ4 (nI i)
          rw [wLX5_make_29]
          have F4 : frC S51 σ σ4 := hf.tr (hf4.up (fun k hk => by simp at hk; rw [hk]; exact S51_g (by omega)))
          obtain ⟨k1, k2, k3, k4⟩ := kp F4
          rw [k2.1]
          refine ⟨fun c => absurd c (nI_ge d3 (by omega)), fun _ => ⟨vp_in_nI (by omega) (by omega), s_pickable hn ho k1 hk k2 k4 hNk d1 tT ⟨vp_in_nI (by omega) (by omega), fun σ9 h9 z hz => ?_⟩⟩⟩
          rw [cl (by omega), cl (by omega)] at h9
          rw [hz, add1]
          refine ihl (i + 1) σ9 d2 (by omega) (by rw [h9]; exact hf4.wr (by simp)) (fun j a b hj hjq => ?_)
          rw [h9, sI_get]
          by_cases e : j = i
          · subst e
            rw [d1] at hjq
            cases hjq
            simp
          · rw [if_neg (fun q => e q.2)]; exact hg4 j a b (by omega) hjq
      refine gl _ (fun σ5 hf5 hg5 => ⟨2 ^ oP O + 1, ?_⟩) (prs O) 0 σ1 rfl (by omega) frC.rf (fun j a b hj => absurd hj (Nat.not_lt_zero j))
      have F5 : frC S51 σ σ5 := hf.tr (hf5.up (fun k hk => by simp at hk; rw [hk]; exact S51_g (by omega)))
      -- the most from here on, for each set
      have ml : ∀ d s σ6, s + d = 2 ^ oP O → frC [59 + t] σ5 σ6 → (∀ taken, taken < s → rS O t taken = true → σ6.1 (59 + t) taken = nI (D_ O N t taken)) → wLX5_make_67 o n (nI t) (fun (σ22 : St) => ∀ z23 : Int32, z23 = nI t + (-1 : Int32) → wLX5_make_21 o n (fun (σ26 : St) => wX5_choose σ26 o (fun σ27 : St => vp_in (0 : Int32) 6 ∧ vp_in (0 : Int32) 256 ∧ P (σ27.1 (59 + (0 : Int32).toNatClampNeg) (0 : Int32).toNatClampNeg) σ27)) P (t + 1) σ22 z23) P (d + 1) σ6 (nI s) := by
        intro d
        induction d with
        | zero =>
          intro s σ6 hs hf6 hm6
          rw [wLX5_make_67]
          have F6 : frC S51 σ σ6 := F5.tr (hf6.up (fun k hk => by simp at hk; rw [hk]; exact S51_m (by omega)))
          obtain ⟨k1, k2, k3, k4⟩ := kp F6
          refine s_everybody ho k1.1 h8 ⟨fun _ z hz => ?_, fun c => absurd (nI_lt (by omega) (by omega)) c⟩
          rw [hz, subI]
          refine ih σ6 (by omega) F6 (fun u hu1 hu2 i a b hi => ?_) (fun u hu1 hu2 taken h1 h2 => ?_)
          · rw [hf6.1 (53 + u) (by simp <;> omega)]
            by_cases e : u = t
            · subst e; exact hg5 i a b hi
            · rw [hf5.1 (53 + u) (by simp <;> omega)]; exact hg u (by omega) hu2 i a b hi
          · by_cases e : u = t
            · subst e; exact hm6 taken (by omega) h2
            · rw [hf6.1 (59 + u) (by simp <;> omega), hf5.1 (59 + u) (by simp <;> omega)]; exact hm u (by omega) hu2 taken h1 h2
        | succ d ihd =>
          intro s σ6 hs hf6 hm6
          rw [wLX5_make_67]
          have F6 : frC S51 σ σ6 := F5.tr (hf6.up (fun k hk => by simp at hk; rw [hk]; exact S51_m (by omega)))
          obtain ⟨k1, k2, k3, k4⟩ := kp F6
          have s2 : s < 2 ^ oP O := by omega
          refine s_everybody ho k1.1 h8 ⟨fun c => absurd c (nI_nlt (by omega) (by omega)), fun _ => s_canBeTaken hk k3 s2 (by omega) (br_b (fun f z hz => ?_) (fun f => ⟨vp_in_nI (by omega) (by omega), s_mostFrom hk k2 (N := N) ?_ ?_ s2 f tT ⟨vp_in_nI (by omega) (by omega), fun σ20 h20 z hz => ?_⟩⟩))⟩
          · rw [hz, add1 s]
            refine ihd (s + 1) σ6 (by omega) hf6 (fun taken h1 h2 => ?_)
            by_cases e : taken = s
            · subst e; rw [f] at h2; cases h2
            · exact hm6 taken (by omega) h2
          · intro i a b hi; rw [hf6.1 (53 + t) (by simp <;> omega)]; exact hg5 i a b hi
          · intro taken h1 h2; rw [hf6.1 (59 + (t + 1)) (by simp <;> omega), hf5.1 (59 + (t + 1)) (by simp <;> omega)]; exact hm (t + 1) (Nat.le_refl _) (by omega) taken h1 h2
          · rw [cl (n := t) (by omega), cl (n := s) (by omega)] at h20
            rw [hz, add1 s]
            refine ihd (s + 1) σ20 (by omega) (by rw [h20]; exact hf6.wr (by simp)) (fun taken h1 h2 => ?_)
            rw [h20, sI_get]
            by_cases e : taken = s
            · subst e; simp
            · rw [if_neg (fun q => e q.2)]; exact hm6 taken (by omega) h2
      exact ml (2 ^ oP O) 0 σ5 (by omega) frC.rf (fun taken h1 => absurd h1 (Nat.not_lt_zero taken))
  refine step (oT O) σ2 (Nat.le_refl _) F2 (fun u h1 h2 => by omega) (fun u h1 hu2 taken h3 h4 => ?_)
  rw [show u = oT O by omega, D_end O N (Nat.le_refl _), h2]
  exact sF_at (by omega)
