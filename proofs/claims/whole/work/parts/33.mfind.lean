/-! the reference's best -/
def cod (q : Nat × Nat) : Nat := 10 * q.1 + q.2
def fC (O : Orc) (N : Nw) (t taken c : Nat) : Nat := fB O N t taken (c / 10, c % 10)
theorem cod_dm {q : Nat × Nat} (h : q.2 < 10) : cod q / 10 = q.1 ∧ cod q % 10 = q.2 := by unfold cod; omega
theorem prs_cod {O : Orc} (hk : oOk O) {q : Nat × Nat} (h : q ∈ prs O) : cod q < 78 ∧ (cod q / 10, cod q % 10) = q := by
  obtain ⟨a, b⟩ := q
  obtain ⟨ha, hb, -, -⟩ := prs_mem.mp h
  have h8 := hk.1
  have := cod_dm (q := (a, b)) (by show b < 10; omega)
  refine ⟨by unfold cod; show 10 * a + b < 78; omega, ?_⟩
  rw [this.1, this.2]
theorem D_C {O : Orc} (hk : oOk O) (N : Nw) {t taken : Nat} (ht : t < oT O) : mxL (mpB O N t taken) (fC O N t taken) 78 0 (D_ O N (t + 1) taken) = D_ O N t taken := by
  rw [D_st O N ht]
  refine isMax_u (mxL_max _ _ _ _ _) (mxQ_max _ _ _ _) (fun x => or_congr Iff.rfl ⟨?_, ?_⟩)
  · rintro ⟨c, -, h1, h2, rfl⟩
    unfold mpB at h2
    rw [Bool.and_eq_true, decide_eq_true_eq] at h2
    exact ⟨(c / 10, c % 10), h2.1, h2.2, rfl⟩
  · rintro ⟨q, h1, h2, rfl⟩
    obtain ⟨c1, c2⟩ := prs_cod hk h1
    exact ⟨cod q, Nat.zero_le _, by omega, by unfold mpB; rw [c2, decide_eq_true h1, h2]; rfl, by unfold fC; rw [c2]⟩
theorem m_leftOf {μ : St} {c : Nat} {P : Int32 → Prop} (h : c < 1000) (hP : P (nI (c / 10))) : wX10_leftOf μ (nI c) P := by
  unfold wX10_leftOf
  rw [(divmod10 h).1]
  exact hP
theorem m_bIn {μ : St} {O : Orc} {N : Nw} {s t taken : Nat} {K : Int32 → Prop} {P : St → Prop} (hM : orM μ O) (hk : oOk O) (hs : s ≤ 36) (hN : nwM μ s (oT O) N) (hNk : nOk (oT O) N) (ht : t < oT O) (htk : taken < 256) (hD : ∀ r, r < 256 → μ.1 14 (256 * (t + 1) + r) = nI (D_ O N (t + 1) r)) (hK : K (nI (D_ O N t taken))) :
    ∀ e c acc, c + e = 78 → acc ≤ 200 → mxL (mpB O N t taken) (fC O N t taken) e c acc = D_ O N t taken → wLX10_findBest_48 (nI s) (nI t) (nI taken) μ K P (e + 1) (nI acc) (nI c) := by
  have h8 := hk.1
  have h5 := hk.2.1
  intro e
  induction e with
  | zero =>
    intro c acc hc ha he
    rw [wLX10_findBest_48]
    rw [mxL] at he
    refine ⟨fun _ => by rw [he]; exact hK, fun q => absurd ((leI (a := 78) rfl rfl (by omega) (by omega)).mpr (by omega)) q⟩
  | succ e ih =>
    intro c acc hc ha he
    obtain ⟨e1, e2⟩ := divmod10 (c := c) (by omega)
    rw [wLX10_findBest_48, toN0, hM.2.1]
    rw [mxL] at he
    refine ⟨fun q => absurd ((leI (a := 78) rfl rfl (by omega) (by omega)).mp q) (by omega), fun _ => ⟨in0 (by omega) (by omega), fun q => absurd q (nI_ge ht (by omega)), fun _ => m_mayPair hM hk hs hN hNk (by omega) ht htk (br_b (fun f z hz => ?_) (fun f => ?_))⟩⟩
    · rw [hz, add1]
      rw [if_neg (by rw [f]; decide)] at he
      exact ih (c + 1) acc (by omega) ha he
    · rw [if_pos f] at he
      have f' := f
      unfold mpB at f'
      rw [Bool.and_eq_true, decide_eq_true_eq] at f'
      obtain ⟨ga, gb, -, -⟩ := prs_mem.mp f'.1
      have g2 := f'.2
      unfold cB at g2
      rw [Bool.and_eq_true, decide_eq_true_eq] at g2
      have pv := pk_val g2.1
      have pl := pkN_le hk (N := N) (t := t) ga gb
      have dl := D_lt hk N (t + 1) (taken ||| two (c / 10, c % 10))
      have fv : fC O N t taken c = min (oC O (c / 10) + oC O (c % 10)) (nB N t) + D_ O N (t + 1) (taken ||| two (c / 10, c % 10)) := by unfold fC fB; rw [pv]
      have tl : taken ||| two (c / 10, c % 10) < 256 := Nat.or_lt_two_pow (n := 8) htk (two_lt (by omega) (by omega))
      have fb : fC O N t taken c ≤ 108 := by unfold fC fB; omega
      refine m_leftOf (by omega) ?_
      rw [e2]
      refine m_picks hM hk hs hN (hNk.2.2.2 t ht) ga gb ht (m_leftOf (by omega) ?_)
      rw [shl1 (by omega), shl1 (by omega), orN, orN, Nat.or_assoc, add1 t, show (256 : Int32) = nI 256 from rfl, pk_mul, nI_add]
      have tl' : taken ||| (2 ^ (c / 10) ||| 2 ^ (c % 10)) < 256 := tl
      rw [cl (by omega), hD _ tl', nI_add]
      refine ⟨vp_in_nI (by omega) (by omega), fun z16 h16 => ?_⟩
      have h16 : z16 = nI (fC O N t taken c) := by rw [h16, fv]; rfl
      subst h16
      refine ⟨fun q z hz => ?_, fun q z hz => ?_⟩
      · have q := (nI_leI (by omega) (by omega)).mp q
        rw [Nat.max_eq_left q] at he
        rw [hz, add1 c]
        exact ih (c + 1) acc (by omega) ha he
      · have q : ¬ fC O N t taken c ≤ acc := fun r => q (nI_le r (by omega))
        rw [Nat.max_eq_right (by omega)] at he
        rw [hz, add1 c]
        exact ih (c + 1) _ (by omega) (by omega) he
theorem prs_sort {O : Orc} (hk : oOk O) : (prs O).Pairwise (fun q r => cod q < cod r) := by
  have h8 := hk.1
  have row : ∀ a j, (plR O a j).Pairwise (fun q r => cod q < cod r) := fun a j => by
    unfold plR
    rw [List.pairwise_map]
    refine List.Pairwise.imp ?_ ((List.pairwise_lt_range (n := j)).filter _)
    intro x y h
    show 10 * a + x < 10 * a + y
    omega
  have all : ∀ i, i ≤ oP O → (plA O i).Pairwise (fun q r => cod q < cod r) := by
    intro i
    induction i with
    | zero => intro _; exact List.Pairwise.nil
    | succ i ih =>
      intro hi
      rw [plA_s]
      by_cases h : oS O i = 0
      · rw [if_pos h, List.pairwise_append]
        refine ⟨ih (by omega), row i (oP O), fun q hq r hr => ?_⟩
        obtain ⟨a, b⟩ := q
        obtain ⟨ha, hb, -, -⟩ := plA_mem hq
        unfold plR at hr
        obtain ⟨y, hy, rfl⟩ := List.mem_map.mp hr
        show 10 * a + b < 10 * i + y
        omega
      · rw [if_neg h, List.append_nil]; exact ih (by omega)
  exact all (oP O) (Nat.le_refl _)
theorem cqF_first {O : Orc} (hk : oOk O) {N : Nw} {t taken : Nat} {q : Nat × Nat} (h : cqF O N t taken = some q) {q' : Nat × Nat} (h1 : q' ∈ prs O) (h2 : cB O N t taken q' = true) (h3 : fB O N t taken q' = D_ O N t taken) : cod q ≤ cod q' := by
  unfold cqF at h
  split at h
  · cases h
  · rw [List.find?_eq_some_iff_append] at h
    obtain ⟨-, as, bs, e, hn⟩ := h
    have hs := prs_sort hk
    rw [e] at hs h1
    rw [List.pairwise_append] at hs
    rcases List.mem_append.mp h1 with g | g
    · have := hn q' g
      rw [h2, decide_eq_true h3] at this
      cases this
    · rcases List.mem_cons.mp g with rfl | g
      · exact Nat.le_refl _
      · exact Nat.le_of_lt ((List.pairwise_cons.mp hs.2.1).1 q' g)
theorem cqF_ex {O : Orc} {N : Nw} {t taken : Nat} (ht : t < oT O) (h : ¬ D_ O N (t + 1) taken = D_ O N t taken) : ∃ q, cqF O N t taken = some q := by
  unfold cqF
  rw [if_neg h]
  cases e : (prs O).find? (fun q => cB O N t taken q && decide (fB O N t taken q = D_ O N t taken)) with
  | some q => exact ⟨q, rfl⟩
  | none =>
    rw [List.find?_eq_none] at e
    rcases (mxQ_max (cB O N t taken) (fB O N t taken) (prs O) (D_ O N (t + 1) taken)).1 with g | ⟨q, g1, g2, g3⟩
    · rw [← D_st O N ht] at g; exact absurd g.symm h
    · rw [← D_st O N ht] at g3
      exact absurd (by rw [g2, decide_eq_true g3.symm]; rfl) (e q g1)
/-- what a tree's pair is, as the reference has it -/
def paV (o : Option (Nat × Nat)) : Int32 := match o with
  | none => -9
  | some q => nI (10 * q.1 + q.2)
theorem m_findBest {μ : St} {O : Orc} {N : Nw} {s : Nat} {P : St → Prop} (hM : orM μ O) (hk : oOk O) (hs : s ≤ 36) (hN : nwM μ s (oT O) N) (hNk : nOk (oT O) N)
    (hP : ∀ μ', frC [14, 15] μ μ' → μ'.1 14 0 = nI (D_ O N 0 0) → (∀ t, t < oT O → μ'.1 15 t = paV (cqF O N t (tkN O N t))) → P μ') : wX10_findBest μ (nI s) P := by
  have h8 := hk.1
  have h5 := hk.2.1
  have p8 := pow8 h8
  have kp : ∀ {μ1 : St}, frC [14, 15] μ μ1 → orM μ1 O ∧ nwM μ1 s (oT O) N := fun {μ1} hf => ⟨orM_fr hM hf (by decide), nwM_kept hN (fun j _ _ => by rw [hf.1 12 (by decide)])⟩
  unfold wX10_findBest
  refine ⟨7, ?_⟩
  -- the pairs, tree by tree
  have fin : ∀ μ1, frC [14, 15] μ μ1 → (∀ u, u ≤ 5 → ∀ r, r < 256 → μ1.1 14 (256 * u + r) = nI (D_ O N u r)) → ∃ n57 : Nat, wLX10_findBest_178 (nI s) (fun μ56 => P μ56) P n57 μ1 (0 : Int32) (0 : Int32) := fun μ1 hf1 hD => by
    refine ⟨oT O + 1, ?_⟩
    have step : ∀ d t μ2, t + d = oT O → frC [15] μ1 μ2 → (∀ u, u < t → μ2.1 15 u = paV (cqF O N u (tkN O N u))) → wLX10_findBest_178 (nI s) (fun μ56 => P μ56) P (d + 1) μ2 (nI (tkN O N t)) (nI t) := by
      intro d
      induction d with
      | zero =>
        intro t μ2 hd hf2 hc
        rw [wLX10_findBest_178]
        have F2 := hf1.tr (hf2.up (by decide))
        rw [toN0, (kp F2).1.2.1]
        refine ⟨in0 (by omega) (by omega), fun _ => hP μ2 F2 ?_ (fun u hu => hc u (by omega)), fun c => absurd (nI_le (by omega) (by omega)) c⟩
        have := hD 0 (by omega) 0 (by omega)
        rw [hf2.1 14 (by decide)]; exact this
      | succ d ih =>
        intro t μ2 hd hf2 hc
        have tT : t < oT O := by omega
        have tk := tkN_ok hk N t
        have F2 := hf1.tr (hf2.up (by decide))
        rw [wLX10_findBest_178, toN0, (kp F2).1.2.1, cl (n := t) (by omega)]
        refine ⟨in0 (by omega) (by omega), fun c => absurd c (nI_ge (by omega) (by omega)), fun _ => ⟨vp_in_nI (by omega) (by omega), fun μ3 h3 => ?_⟩⟩
        have F3 : frC [15] μ1 μ3 := by rw [h3]; exact hf2.wr (by decide)
        have D3 : ∀ u, u ≤ 5 → ∀ r, r < 256 → μ3.1 14 (256 * u + r) = nI (D_ O N u r) := fun u hu r hr => by rw [F3.1 14 (by decide)]; exact hD u hu r hr
        have bd := D_lt hk N
        rw [add1 t, show (256 : Int32) = nI 256 from rfl, pk_mul, pk_mul, nI_add, nI_add, cl (by omega), cl (by omega), D3 t (by omega) _ (by omega), D3 (t + 1) (by omega) _ (by omega)]
        refine ⟨vp_in_nI (by omega) (by omega), fun z36 h36 => ⟨vp_in_nI (by omega) (by omega), fun c z hz => ?_, fun c => ?_⟩⟩
        · rw [h36] at c
          have c := (nI_eq (by have := bd (t + 1) (tkN O N t); omega) (by have := bd t (tkN O N t); omega)).mp c
          have e : cqF O N t (tkN O N t) = none := by unfold cqF; rw [if_pos c]
          rw [hz]
          have := ih (t + 1) μ3 (by omega) F3 (fun u hu => by
            by_cases q : u = t
            · subst q; rw [h3, sI_at, e]; rfl
            · rw [h3, sI_off q]; exact hc u (by omega))
          rw [tkN, e] at this
          exact this
        · rw [h36] at c
          subst h36
          have c : ¬ D_ O N (t + 1) (tkN O N t) = D_ O N t (tkN O N t) := fun q => c (by rw [q])
          obtain ⟨q, e⟩ := cqF_ex tT c
          obtain ⟨q1, q2, q3⟩ := cqF_some e
          obtain ⟨cq1, cq2⟩ := prs_cod hk q1
          obtain ⟨M3, N3⟩ := kp (hf1.tr (F3.up (by decide)))
          refine ⟨cod q + 1, ?_⟩
          -- the first code
          have srch : ∀ (K : Int32 → Prop), K (nI (cod q)) → ∀ e c, c + e = cod q → wLX10_findBest_232 (nI s) (nI (tkN O N t)) (nI t) (nI (D_ O N t (tkN O N t))) μ3 K P (e + 1) (nI c) := by
            intro K hK e0
            have one : ∀ c n, c ≤ cod q → (c < cod q → wLX10_findBest_232 (nI s) (nI (tkN O N t)) (nI t) (nI (D_ O N t (tkN O N t))) μ3 K P n (nI (c + 1))) → wLX10_findBest_232 (nI s) (nI (tkN O N t)) (nI t) (nI (D_ O N t (tkN O N t))) μ3 K P (n + 1) (nI c) := fun c n hcq nx => by
              obtain ⟨e1, e2⟩ := divmod10 (c := c) (by omega)
              rw [wLX10_findBest_232]
              refine m_mayPair M3 hk hs N3 hNk (by omega) tT (by omega) (br_b (fun f z hz => ?_) (fun f => ?_))
              · rw [hz, add1]
                refine nx (Nat.lt_of_le_of_ne hcq (fun q9 => ?_))
                subst q9
                unfold mpB at f
                rw [cq2, decide_eq_true q1, q2] at f
                cases f
              · have f' := f
                unfold mpB at f'
                rw [Bool.and_eq_true, decide_eq_true_eq] at f'
                obtain ⟨ga, gb, -, -⟩ := prs_mem.mp f'.1
                have g2 := f'.2
                unfold cB at g2
                rw [Bool.and_eq_true, decide_eq_true_eq] at g2
                have pv := pk_val g2.1
                have pl := pkN_le hk (N := N) (t := t) ga gb
                have dl := bd (t + 1) (tkN O N t ||| two (c / 10, c % 10))
                have dl2 := bd t (tkN O N t)
                have fv : fB O N t (tkN O N t) (c / 10, c % 10) = min (oC O (c / 10) + oC O (c % 10)) (nB N t) + D_ O N (t + 1) (tkN O N t ||| two (c / 10, c % 10)) := by unfold fB; rw [pv]
                have tl' : tkN O N t ||| (2 ^ (c / 10) ||| 2 ^ (c % 10)) < 256 := Nat.or_lt_two_pow (n := 8) (by omega) (two_lt (by omega) (by omega))
                have fb : fB O N t (tkN O N t) (c / 10, c % 10) ≤ 108 := by unfold fB; omega
                refine m_leftOf (by omega) ?_
                rw [e2]
                refine m_picks M3 hk hs N3 (hNk.2.2.2 t tT) ga gb tT (m_leftOf (by omega) ?_)
                rw [shl1 (by omega), shl1 (by omega), orN, orN, Nat.or_assoc, add1 t, show (256 : Int32) = nI 256 from rfl, pk_mul, nI_add]
                rw [cl (by omega), D3 (t + 1) (by omega) _ tl', nI_add]
                have fv' : min (oC O (c / 10) + oC O (c % 10)) (nB N t) + D_ O N (t + 1) (tkN O N t ||| (2 ^ (c / 10) ||| 2 ^ (c % 10))) = fB O N t (tkN O N t) (c / 10, c % 10) := fv.symm
                rw [fv']
                refine ⟨vp_in_nI (by omega) (by omega), fun g => ?_, fun g z hz => ?_⟩
                · have g := (nI_eq (by omega) (by omega)).mp g
                  have le := cqF_first hk e f'.1 f'.2 g
                  have : cod (c / 10, c % 10) = c := by unfold cod; show 10 * (c / 10) + c % 10 = c; omega
                  rw [show c = cod q by omega]
                  exact hK
                · rw [hz, add1 c]
                  refine nx (Nat.lt_of_le_of_ne hcq (fun q9 => ?_))
                  subst q9
                  rw [cq2] at g
                  exact g (by rw [q3])
            induction e0 with
            | zero => intro c hc0; exact one c 0 (by omega) (fun q => by omega)
            | succ e0 ih0 => intro c hc0; exact one c (e0 + 1) (by omega) (fun _ => ih0 (c + 1) (by omega))
          refine srch _ ?_ (cod q) 0 (by omega)
          refine ⟨vp_in_nI (by omega) (by omega), fun μ4 h4 => ?_⟩
          refine m_leftOf (by omega) ?_
          obtain ⟨e1, e2⟩ := divmod10 (c := cod q) (by omega)
          obtain ⟨a, b⟩ := q
          have ca : cod (a, b) / 10 = a := congrArg Prod.fst cq2
          have cb : cod (a, b) % 10 = b := congrArg Prod.snd cq2
          obtain ⟨ha, hb, -, -⟩ := prs_mem.mp q1
          intro z53 h53 z54 h54
          rw [e2, ca, cb, shl1 (by omega), shl1 (by omega), orN, orN] at h53
          rw [h53, h54]
          have := ih (t + 1) μ4 (by omega) (by rw [h4]; exact F3.wr (by decide)) (fun u hu => by
            by_cases q : u = t
            · subst q; rw [h4, sI_at, e]; rfl
            · rw [h4, sI_off q, h3, sI_off q]; exact hc u (by omega))
          rw [tkN, e] at this
          exact this
    exact step (oT O) 0 μ1 (by omega) frC.rf (fun u hu => absurd hu (Nat.not_lt_zero u))
  -- the most, from the last tree on
  have down : ∀ t μ1, t ≤ 6 → frC [14, 15] μ μ1 → (∀ u, t ≤ u → u ≤ 5 → ∀ r, r < 256 → μ1.1 14 (256 * u + r) = nI (D_ O N u r)) → wLX10_findBest_2 (nI s) (fun (σ30 : St) => ∃ n57 : Nat, wLX10_findBest_178 (nI s) (fun (σ56 : St) => P σ56) P n57 σ30 (0 : Int32) (0 : Int32)) P (t + 1) μ1 (nI t - (1 : Int32)) := by
    intro t
    induction t with
    | zero =>
      intro μ1 _ hf1 hD
      rw [wLX10_findBest_2]
      exact ⟨fun _ => fin μ1 hf1 (fun u hu => hD u (Nat.zero_le _) hu), fun c => absurd (by decide) c⟩
    | succ t ih =>
      intro μ1 ht hf1 hD
      rw [wLX10_findBest_2, nI_pred]
      refine ⟨fun c => absurd c (nI_pos (by omega)), fun _ => ⟨257, ?_⟩⟩
      have lp : ∀ (K : St → Prop), (∀ μ3, frC [14] μ1 μ3 → (∀ u, t ≤ u → u ≤ 5 → ∀ r, r < 256 → μ3.1 14 (256 * u + r) = nI (D_ O N u r)) → K μ3) → ∀ d r μ2, r + d = 256 → frC [14] μ1 μ2 → (∀ u, t < u → u ≤ 5 → ∀ r, r < 256 → μ2.1 14 (256 * u + r) = nI (D_ O N u r)) → (∀ x, x < r → μ2.1 14 (256 * t + x) = nI (D_ O N t x)) → wLX10_findBest_8 (nI s) (nI t) K P (d + 1) μ2 (nI r) := by
        intro K hK d
        induction d with
        | zero =>
          intro r μ2 hr hf2 hU hx
          rw [wLX10_findBest_8]
          refine ⟨fun _ => hK μ2 hf2 (fun u h1 h2 x hx2 => ?_), fun c => absurd ((leI (a := 256) rfl rfl (by omega) (by omega)).mpr (by omega)) c⟩
          by_cases e : u = t
          · subst e; exact hx x (by omega)
          · exact hU u (by omega) h2 x hx2
        | succ d ihd =>
          intro r μ2 hr hf2 hU hx
          have F2 := hf1.tr (hf2.up (by decide : ∀ k, k ∈ [14] → k ∈ [14, 15]))
          obtain ⟨M2, N2⟩ := kp F2
          rw [wLX10_findBest_8, toN0, M2.2.1]
          have nx : ∀ v, v = D_ O N t r → vp_in (((256 : Int32) * (nI t)) + (nI r)) 1536 ∧ ∀ σ22 : St, σ22 = sI μ2 14 (((256 : Int32) * (nI t)) + (nI r)).toNatClampNeg (nI v) → ∀ z23 : Int32, z23 = (nI r) + (1 : Int32) → wLX10_findBest_8 (nI s) (nI t) K P (d + 1) σ22 z23 := fun v hv => by
            rw [show (256 : Int32) = nI 256 from rfl, pk_mul, nI_add, cl (by omega)]
            refine ⟨vp_in_nI (by omega) (by omega), fun μ3 h3 z hz => ?_⟩
            rw [hz, add1]
            refine ihd (r + 1) μ3 (by omega) (by rw [h3]; exact hf2.wr (by decide)) (fun u h1 h2 x hx2 => ?_) (fun x hx2 => ?_)
            · rw [h3, sI_off (by omega)]; exact hU u h1 h2 x hx2
            · by_cases e : x = r
              · subst e; rw [h3, sI_at, hv]
              · rw [h3, sI_off (by omega)]; exact hx x (by omega)
          refine ⟨fun c => absurd ((leI (a := 256) rfl rfl (by omega) (by omega)).mp c) (by omega), fun _ => ⟨in0 (by omega) (by omega), jn_in ⟨fun c => ?_, fun c => ?_⟩⟩⟩
          · have tT := (nI_ltI (by omega) (by omega)).mp c
            rw [add1 t, show (256 : Int32) = nI 256 from rfl, pk_mul, nI_add, cl (by omega), hU (t + 1) (by omega) (by omega) r (by omega)]
            refine ⟨vp_in_nI (by omega) (by omega), 79, ?_⟩
            exact m_bIn M2 hk hs N2 hNk tT (by omega) (fun x hx2 => hU (t + 1) (by omega) (by omega) x hx2) (nx _ rfl) 78 0 _ (by omega) (by have := D_lt hk N (t + 1) r; omega) (D_C hk N tT)
          · have tT : ¬ t < oT O := fun q => c (nI_lt q (by omega))
            refine ⟨1, ?_⟩
            rw [wLX10_findBest_48, toN0, M2.2.1]
            exact ⟨fun q => absurd q (by decide), fun _ => ⟨in0 (by omega) (by omega), fun _ => nx 0 (D_end O N (by omega) r).symm, fun q => absurd (nI_le (by omega) (by omega)) q⟩⟩
      refine lp _ (fun μ3 hf3 hD3 z hz => ?_) 256 0 μ1 (by omega) frC.rf (fun u h1 h2 => hD u (by omega) h2) (fun x hx => absurd hx (Nat.not_lt_zero x))
      rw [hz, subI]
      exact ih μ3 (by omega) (hf1.tr (hf3.up (by decide))) hD3
  exact down 6 μ (Nat.le_refl _) frC.rf (fun u h1 h2 => by omega)
