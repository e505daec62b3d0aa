/-! the class's asking -/
def oW (o : Option Nat) : Int32 := match o with
  | none => -1
  | some c => nI c
theorem oW_ne {c : Nat} (h : c < 1000) : ¬ nI c = (-1 : Int32) := fun e => by
  have : (nI c).toInt = (-1 : Int32).toInt := by rw [e]
  rw [toI (by omega), show (-1 : Int32).toInt = -1 from rfl] at this
  omega
def lkC (σ : St) (O : Orc) : Prop := ∀ p q, p < 8 → q < 8 → σ.1 (39 + p) q = nI (lkT O p q)
def wiC (σ : St) (W : Nat → Option Nat) : Prop := ∀ p, p < 8 → σ.1 48 p = oW (W p)
def akC (σ : St) (S : Ak) : Prop := wiC σ S.1 ∧ ∀ a, a < 8 → σ.1 49 a = nI (S.2 a)
def wOk (O : Orc) (W : Nat → Option Nat) : Prop := ∀ p q, W p = some q → p < oP O ∧ q < oP O ∧ oF O p q = true ∧ W q = some p
theorem lkC_fr {σ σ' : St} {O : Orc} {S : List Nat} (h : lkC σ O) (hf : frC S σ σ') (hs : ∀ k, k ∈ S → k < 39 ∨ 47 ≤ k) : lkC σ' O := fun p q hp hq => by
  rw [hf.1 (39 + p) (fun m => by have := hs _ m; omega)]; exact h p q hp hq
theorem s_ratherHas {σ : St} {O : Orc} {W : Nat → Option Nat} {q a : Nat} {P : Int32 → Prop} (hk : oOk O) (hL : lkC σ O) (hW : wiC σ W) (ok : wOk O W) (hq : q < oP O) (ha : a < oP O) (hf : oF O q a = true) (hP : P (bI (prf O W q a))) : wX1_ratherHas σ (nI q) (nI a) P := by
  have h8 := hk.1
  have vq : vp_in (nI q) 8 := vp_in_nI (by omega) (by omega)
  have va : vp_in (nI a) 8 := vp_in_nI (by omega) (by omega)
  have b1 := lkV_b hk hq ha
  unfold wX1_ratherHas
  rw [cl (n := q) (by omega), cl (n := a) (by omega), hW q (by omega), hL q a (by omega) (by omega), lkT_at hq ha hf]
  refine ⟨vq, fun z2 h2 => ⟨vq, va, jn_in ?_⟩⟩
  unfold prf at hP
  cases e : W q with
  | none =>
    rw [e] at hP h2
    rw [h2]
    refine ⟨fun c => absurd rfl c, fun _ => ⟨fun c => ?_, fun _ => hP⟩⟩
    have := (leI rfl (b := 0) rfl (by omega) (by omega)).mp c
    omega
  | some h =>
    obtain ⟨-, o2, o3, -⟩ := ok q h e
    have b2 := lkV_b hk hq o2
    rw [e] at hP h2
    have h2 : z2 = nI h := h2
    rw [h2]
    refine ⟨fun _ => ⟨vq, vp_in_nI (by omega) (by omega), ?_⟩, fun c => absurd c (oW_ne (by omega))⟩
    rw [cl (n := h) (by omega), hL q h (by omega) (by omega), lkT_at hq o2 o3]
    have hP : P (bI (decide (lkV O q h < lkV O q a))) := hP
    refine ⟨fun c => ?_, fun c => ?_⟩
    · have c := (nI_leI (by omega) (by omega)).mp c
      rw [show decide (lkV O q h < lkV O q a) = false from decide_eq_false (by omega)] at hP; exact hP
    · have c : ¬ lkV O q a ≤ lkV O q h := fun x => c (nI_le x (by omega))
      rw [show decide (lkV O q h < lkV O q a) = true from decide_eq_true (by omega)] at hP; exact hP
theorem s_askNext {σ : St} {O : Orc} {S : Ak} {a : Nat} {P : St → Prop} (hk : oOk O) (hL : lkC σ O) (hA : akC σ S) (ok : akOk O S) (ha : a < oP O) (sa : oS O a = 0) (wa : S.1 a = none) (hP : ∀ σ', frC [48, 49] σ σ' → akC σ' (askS O S a) → P σ') : wX1_askNext σ (nI a) P := by
  have h8 := hk.1
  have va : vp_in (nI a) 8 := vp_in_nI (by omega) (by omega)
  have t8 := ok.2 a
  unfold wX1_askNext
  refine ⟨9, ?_⟩
  have step : ∀ (K : Int32 → Prop), K (oW (nqF O (S.2 a) a (oP O))) → ∀ d b, b + d = 8 → wLX1_askNext_4 (nI a) σ K P (d + 1) (oW (nqF O (S.2 a) a b)) (nI b) := by
    intro K hK d
    induction d with
    | zero =>
      intro b hb
      rw [wLX1_askNext_4]
      refine ⟨fun _ => ?_, fun c => absurd ((leI (a := 8) rfl rfl (by omega) (by omega)).mpr (by omega)) c⟩
      rw [show b = 8 by omega, nqF_ext 8 h8]; exact hK
    | succ d ih =>
      intro b hb
      have vb : vp_in (nI b) 8 := vp_in_nI (by omega) (by omega)
      have nx := ih (b + 1) (by omega)
      have bl := lkT_b hk a b
      have stay : (nqC O (S.2 a) a b && btr O a b (nqF O (S.2 a) a b)) = false → wLX1_askNext_4 (nI a) σ K P (d + 1) (oW (nqF O (S.2 a) a b)) (nI (b + 1)) := fun q => by
        rw [nqF, if_neg (by rw [q]; decide)] at nx; exact nx
      have come : (nqC O (S.2 a) a b && btr O a b (nqF O (S.2 a) a b)) = true → wLX1_askNext_4 (nI a) σ K P (d + 1) (nI b) (nI (b + 1)) := fun q => by
        rw [nqF, if_pos q] at nx; exact nx
      rw [wLX1_askNext_4, cl (n := a) (by omega), cl (n := b) (by omega), hA.2 a (by omega), bitN (by omega) (by omega), hL a b (by omega) (by omega)]
      refine ⟨fun c => absurd ((leI (a := 8) rfl rfl (by omega) (by omega)).mp c) (by omega), fun _ => ⟨va, fun c z hz => ?_, fun c => ⟨va, vb, fun c2 z hz => ?_, fun c2 => ⟨fun c3 z hz => ?_, fun c3 => ⟨va, vb, va, ?_⟩⟩⟩⟩⟩
      · rw [hz, add1]
        refine stay ?_
        unfold nqC
        rw [bI_ne.mp c]; rfl
      · rw [hz, add1]
        have c2 := (leI rfl (b := 0) rfl (by omega) (by omega)).mp c2
        refine stay ?_
        have : (decide (b < oP O) && oF O a b) = false := by
          cases q : (decide (b < oP O) && oF O a b) with
          | false => rfl
          | true =>
            rw [Bool.and_eq_true, decide_eq_true_eq] at q
            rw [lkT_at ha q.1 q.2] at c2
            have := (lkV_b hk ha q.1).1
            omega
        unfold nqC
        rw [this]; simp
      · rw [hz, add1]
        have c2 : ¬ lkT O a b ≤ 0 := fun q => c2 ((leI rfl (b := 0) rfl (by omega) (by omega)).mpr q)
        have g : b < oP O ∧ oF O a b = true := by
          unfold lkT at c2
          split at c2
          · rename_i q; exact q.2
          · omega
        cases e : nqF O (S.2 a) a b with
        | none => exact come (by unfold nqC; rw [bI_eq0.mp c, decide_eq_true g.1, g.2, e]; rfl)
        | some d =>
          rw [e] at c3
          obtain ⟨d1, -⟩ := nqF_some _ _ e
          exact absurd c3 (oW_ne (by omega))
      · have c2 : ¬ lkT O a b ≤ 0 := fun q => c2 ((leI rfl (b := 0) rfl (by omega) (by omega)).mpr q)
        have g : b < oP O ∧ oF O a b = true := by
          unfold lkT at c2
          split at c2
          · rename_i q; exact q.2
          · omega
        cases e : nqF O (S.2 a) a b with
        | none => rw [e] at c3; exact absurd rfl c3
        | some d' =>
          obtain ⟨d1, d2⟩ := nqF_some _ _ e
          obtain ⟨-, d3, d4⟩ := nqC_t d2
          have eo : oW (some d') = nI d' := rfl
          rw [e] at come stay
          rw [eo] at stay ⊢
          rw [cl (n := d') (by omega), hL a d' (by omega) (by omega), lkT_at ha d3 d4, lkT_at ha g.1 g.2]
          have b1 := (lkV_b hk ha d3).2
          have b2 := (lkV_b hk ha g.1).2
          refine ⟨vp_in_nI (by omega) (by omega), fun c4 z hz => ?_, fun c4 z hz => ?_⟩
          · have c4 := (nI_leI (by omega) (by omega)).mp c4
            rw [hz, add1]
            refine stay ?_
            rw [show btr O a b (some d') = decide (lkV O a d' < lkV O a b) from rfl, show decide (lkV O a d' < lkV O a b) = false from decide_eq_false (by omega), Bool.and_false]
          · have c4 : ¬ lkV O a b ≤ lkV O a d' := fun q => c4 (nI_le q (by omega))
            rw [hz, add1]
            refine come ?_
            rw [show btr O a b (some d') = decide (lkV O a d' < lkV O a b) from rfl, show decide (lkV O a d' < lkV O a b) = true from decide_eq_true (by omega), Bool.and_true]
            unfold nqC
            rw [bI_eq0.mp c, decide_eq_true g.1, g.2]; rfl
  refine step _ ?_ 8 0 (by omega)
  cases e : nqF O (S.2 a) a (oP O) with
  | none =>
    refine ⟨fun c => absurd rfl c, fun _ => hP σ frC.rf (by rw [askS_none e]; exact hA)⟩
  | some q =>
    obtain ⟨-, q2⟩ := nqF_some _ _ e
    obtain ⟨c1, c2, c3⟩ := nqC_t q2
    have naq : a ≠ q := fun x => oF_side c3 (by rw [x])
    have vq : vp_in (nI q) 8 := vp_in_nI (by omega) (by omega)
    have eo : oW (some q) = nI q := rfl
    rw [eo, cl (n := a) (by omega), cl (n := q) (by omega), hA.2 a (by omega), shl1 (by omega), orN]
    refine ⟨fun _ => ⟨va, va, fun σ22 h22 => ?_⟩, fun c => absurd c (oW_ne (by omega))⟩
    have F22 : frC [48, 49] σ σ22 := by rw [h22]; exact frC.rf.wr (by decide)
    have W22 : wiC σ22 S.1 := fun p hp => by rw [h22, sI_ne (by decide)]; exact hA.1 p hp
    have T22 : ∀ x, x < 8 → σ22.1 49 x = nI (if x = a then S.2 a ||| 2 ^ q else S.2 x) := fun x hx => by
      rw [h22, sI_get]
      by_cases e : x = a
      · rw [if_pos ⟨rfl, e⟩, if_pos e]
      · rw [if_neg (fun y => e y.2), if_neg e]; exact hA.2 x hx
    refine s_ratherHas hk (lkC_fr hL F22 (by decide)) W22 ok.1 c2 ha (by rw [oF_comm hk c2 ha]; exact c3) (br_b (fun p => ?_) (fun p => ⟨vq, fun z26 h26 => ?_⟩))
    · refine hP σ22 F22 ?_
      rw [askS_ref ⟨ha, sa, wa⟩ e p]
      exact ⟨W22, T22⟩
    · rw [W22 q (by omega)] at h26
      -- the last two writes
      have go : ∀ σ28 : St, frC [48, 49] σ σ28 → (∀ x, x < 8 → σ28.1 49 x = nI (if x = a then S.2 a ||| 2 ^ q else S.2 x)) → (∀ x, x < 8 → σ28.1 48 x = oW (if S.1 q = some x then none else S.1 x)) → vp_in (nI q) 8 ∧ ∀ σ30 : St, σ30 = sI σ28 48 q (nI a) → vp_in (nI a) 8 ∧ ∀ σ32 : St, σ32 = sI σ30 48 a (nI q) → P σ32 := fun σ28 hf ht hw => ⟨vq, fun σ30 h30 => ⟨va, fun σ32 h32 => hP σ32 (by rw [h32, h30]; exact (hf.wr (by decide)).wr (by decide)) (by
        rw [askS_yes ⟨ha, sa, wa⟩ e p]
        refine ⟨fun x hx => ?_, fun x hx => by rw [h32, sI_ne (by decide), h30, sI_ne (by decide)]; exact ht x hx⟩
        show σ32.1 48 x = oW (if x = a then some q else if x = q then some a else if S.1 q = some x then none else S.1 x)
        rw [h32, sI_get]
        by_cases x1 : x = a
        · rw [if_pos ⟨rfl, x1⟩, if_pos x1]; rfl
        · rw [if_neg (fun y => x1 y.2), if_neg x1, h30, sI_get]
          by_cases x2 : x = q
          · rw [if_pos ⟨rfl, x2⟩, if_pos x2]; rfl
          · rw [if_neg (fun y => x2 y.2), if_neg x2]; exact hw x hx)⟩⟩
      refine jn_in ?_
      cases w : S.1 q with
      | none =>
        rw [w] at h26
        rw [h26]
        refine ⟨fun _ => go σ22 F22 T22 (fun x hx => by rw [W22 x hx, w, if_neg (by intro h; cases h)]), fun c => absurd rfl c⟩
      | some h =>
        obtain ⟨-, o2, -, -⟩ := ok.1 q h w
        rw [w] at h26
        have h26 : z26 = nI h := h26
        rw [h26]
        refine ⟨fun c => absurd c (oW_ne (by omega)), fun _ => ⟨vp_in_nI (by omega) (by omega), fun σ35 h35 => ?_⟩⟩
        rw [cl (n := h) (by omega)] at h35
        refine go σ35 (by rw [h35]; exact F22.wr (by decide)) (fun x hx => by rw [h35, sI_ne (by decide)]; exact T22 x hx) (fun x hx => ?_)
        rw [h35, sI_get, w]
        by_cases x1 : x = h
        · subst x1
          rw [if_pos ⟨rfl, rfl⟩, if_pos rfl]; rfl
        · rw [if_neg (fun y => x1 y.2), if_neg (by intro y; cases y; exact x1 rfl)]; exact W22 x hx
theorem s_askRound {σ : St} {O : Orc} {S : Ak} {f2 : Int32} {K P : St → Prop} (hk : oOk O) (hL : lkC σ O) (ha : σ.1 25 1 = nI (allL O (oP O))) (ok : akOk O S) (hK : ∀ σ', frC [48, 49] σ σ' → akC σ' (Rnd O S) → K σ') : ∀ d i σ1, i + d = 8 → frC [48, 49] σ σ1 → akC σ1 (rndS O i S) → wLX1_askAll_20 f2 K P (d + 1) σ1 (nI i) := by
  have h8 := hk.1
  intro d
  induction d with
  | zero =>
    intro i σ1 hi hf hA
    rw [wLX1_askAll_20]
    refine ⟨fun _ => hK σ1 hf ?_, fun c => absurd ((leI (a := 8) rfl rfl (by omega) (by omega)).mpr (by omega)) c⟩
    rw [show i = 8 by omega, rndS_ext 8 h8] at hA; exact hA
  | succ d ih =>
    intro i σ1 hi hf hA
    have nx := fun σ2 => ih (i + 1) σ2 (by omega)
    have vi : vp_in (nI i) 8 := vp_in_nI (by omega) (by omega)
    have al : allL O (oP O) < 256 := by
      have p8 := pow8 h8
      refine Nat.lt_of_lt_of_le ?_ p8
      refine Nat.lt_pow_two_of_testBit _ (fun k hk => ?_)
      rw [allL_bit]; simp; omega
    rw [wLX1_askAll_20, hf.1 25 (by decide), ha, bitN (by omega) (by omega), cl (n := i) (by omega), hA.1 i (by omega), allL_bit]
    refine ⟨fun c => absurd ((leI (a := 8) rfl rfl (by omega) (by omega)).mp c) (by omega), fun _ => br_b (fun q z hz => ?_) (fun q => ⟨vi, fun c z hz => ?_, fun c => ?_⟩)⟩
    · rw [hz, add1]
      refine nx σ1 hf ?_
      rw [rndS, askS_no (fun g => by
        rw [decide_eq_true g.1, decide_eq_true g.2.1] at q; cases q)]
      exact hA
    · rw [hz, add1]
      refine nx σ1 hf ?_
      rw [rndS, askS_no (fun g => c (by rw [g.2.2]; rfl))]
      exact hA
    · rw [Bool.and_eq_true, decide_eq_true_eq, decide_eq_true_eq] at q
      have w : (rndS O i S).1 i = none := by
        cases e : (rndS O i S).1 i with
        | none => rfl
        | some h =>
          rw [e] at c
          have := ((rndS_ok hk ok i).1 i h e).2.1
          exact absurd c (oW_ne (by omega))
      refine s_askNext hk (lkC_fr hL hf (by decide)) hA (rndS_ok hk ok i) q.1 q.2 w (fun σ2 hf2 hA2 z hz => ?_)
      rw [hz, add1]
      exact nx σ2 (hf.tr hf2) hA2
theorem itA_ok {O : Orc} (hk : oOk O) : ∀ n S, akOk O S → akOk O (itA O n S) := by
  intro n
  induction n with
  | zero => intro S h; exact h
  | succ n ih => intro S h; exact ih _ (rndS_ok hk h (oP O))
theorem s_askAll {σ : St} {O : Orc} {P : St → Prop} (hk : oOk O) (hL : lkC σ O) (hp : σ.1 25 0 = nI (prs O).length) (ha : σ.1 25 1 = nI (allL O (oP O))) (hw : ∀ p, p < 8 → σ.1 48 p = -1) (hP : ∀ σ', frC [48, 49] σ σ' → akC σ' (AskF O) → P σ') : wX1_askAll σ P := by
  have hl := prs_len hk
  unfold wX1_askAll
  intro σ1 h1
  refine ⟨(prs O).length + 2, ?_⟩
  have F1 : frC [48, 49] σ σ1 := ⟨fun k hk => by
    have k1 : k ≠ 49 := fun e => hk (by rw [e]; decide)
    rw [h1]
    show (if k = 49 then _ else σ.1 k) = _
    rw [if_neg k1], by rw [h1]; rfl⟩
  have A1 : akC σ1 S00 := by
    refine ⟨fun p hp => ?_, fun a ha => ?_⟩
    · rw [h1]
      exact hw p hp
    · rw [h1]
      show (if (49 : Nat) = 49 then (fun i => if i < 8 then (0 : Int32) else σ.1 49 i) else σ.1 49) a = _
      rw [if_pos rfl]
      show (if a < 8 then (0 : Int32) else _) = _
      rw [if_pos ha]; rfl
  have step : ∀ d i σ2, i + d = (prs O).length + 1 → frC [48, 49] σ σ2 → akC σ2 (itA O i S00) → wLX1_askAll_10 (fun (σ14 : St) => P σ14) P (d + 1) σ2 (nI i) := by
    intro d
    induction d with
    | zero =>
      intro i σ2 hi hf hA
      rw [wLX1_askAll_10, hf.1 25 (by decide), hp]
      refine ⟨fun _ => hP σ2 hf ?_, fun c => absurd (nI_lt (by omega) (by omega)) c⟩
      have e : i = (prs O).length + 1 := by omega
      rw [e] at hA; exact hA
    | succ d ih =>
      intro i σ2 hi hf hA
      rw [wLX1_askAll_10, hf.1 25 (by decide), hp]
      refine ⟨fun c => absurd ((nI_ltI (by omega) (by omega)).mp c) (by omega), fun _ => ⟨9, s_askRound hk (lkC_fr hL hf (by decide)) (by rw [hf.1 25 (by decide)]; exact ha) (itA_ok hk i S00 (S00_ok O)) (fun σ3 hf3 hA3 z hz => ?_) 8 0 σ2 (by omega) frC.rf hA⟩⟩
      rw [hz, add1]
      exact ih (i + 1) σ3 (by omega) (hf.tr hf3) (by rw [itA_s]; exact hA3)
  exact step ((prs O).length + 1) 0 σ1 (by omega) F1 A1
