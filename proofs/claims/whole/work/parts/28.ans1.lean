/-! answers: whole, worth -/
theorem msk_ex : ∃ f : Int32 → Nat → Nat, ∀ (x : Int32) (k : Nat), k ≤ 8 → x &&& nI (2 ^ k - 1) = nI (f x k) ∧ f x k < 2 ^ k := by
  refine ⟨fun x k => x.toBitVec.toNat % 2 ^ k, fun x k hk => ⟨?_, Nat.mod_lt _ (Nat.two_pow_pos k)⟩⟩
  have p8 := pow8 hk
  exact pk_and x (m := nI (2 ^ k - 1)) k (pk_tn (by omega))
noncomputable def msk : Int32 → Nat → Nat := Classical.choose msk_ex
theorem msk_eq (x : Int32) {k : Nat} (hk : k ≤ 8) : x &&& nI (2 ^ k - 1) = nI (msk x k) := (Classical.choose_spec msk_ex x k hk).1
theorem msk_lt (x : Int32) {k : Nat} (hk : k ≤ 8) : msk x k < 2 ^ k := (Classical.choose_spec msk_ex x k hk).2
noncomputable def ansWhole (O : Orc) (x : Int32) : Int32 := nI (W_ O (msk x (oP O)))
theorem s_whole9 {σ : St} {O : Orc} {x : Int32} {P : Int32 → Prop} (ho : isO σ.2.2.1) (hO : orC σ σ.2.2.1 O) (hk : oOk O) (hW : ∀ s, s < 2 ^ oP O → σ.1 33 s = nI (W_ O s)) (hP : P (ansWhole O x)) : wX9_whole σ x P := by
  have h8 := hk.1
  have p8 := pow8 h8
  have ml := msk_lt x h8
  unfold wX9_whole
  refine ⟨ho, s_everybody ho hO.1 h8 ?_⟩
  rw [msk_eq x h8, cl (by omega), hW _ ml]
  exact ⟨vp_in_nI (by omega) (by omega), hP⟩
theorem m_whole10 {μ : St} {O : Orc} {x : Int32} {P : Int32 → St → Prop} (hM : orM μ O) (hk : oOk O) (hP : ∀ μ', frC [16] μ μ' → P (ansWhole O x) μ') : wX10_whole μ x P := by
  have h8 := hk.1
  have p8 := pow8 h8
  have ml := msk_lt x h8
  unfold wX10_whole
  refine m_wholes hM hk (fun μ1 hf hW => ⟨in0 (by omega) (by omega), ?_⟩)
  have hM1 := orM_fr hM hf (by decide)
  rw [toN0, hM1.1, pow2m1 h8, msk_eq x h8, cl (by omega), hW _ ml]
  exact ⟨vp_in_nI (by omega) (by omega), hP μ1 hf⟩
theorem up_lt {O : Orc} (hk : oOk O) {p : Nat} (hp : p < oP O) : gN O p (2 ^ oP O) < 2 ^ 31 := by
  have p8 := pow8 hk.1
  have h1 := gN_le hk hp (2 ^ oP O) (Nat.le_refl _)
  have h2 := Nat.mul_le_mul_right (5040 * 72) p8
  have h3 : 256 * (5040 * 72) < 2 ^ 31 := by decide
  exact Nat.lt_of_le_of_lt (Nat.le_trans h1 h2) h3
theorem ans_w {O : Orc} {k : Nat} {what : Int32} (hp : k < oP O) (hk : oOk O) (hw : inR what 2 = true) : ansWorth O (nI k) what = nI ((if what = 0 then gN O k (2 ^ oP O) else facN (oP O)) / Nat.gcd (gN O k (2 ^ oP O)) (facN (oP O))) := by
  have h8 := hk.1
  unfold ansWorth
  rw [inR_nI (by omega), decide_eq_true hp, hw, cl (by omega)]
  rfl
theorem divI {a d : Nat} (ha : a < 2 ^ 31) (h0 : 0 < d) (hd : d < 2 ^ 31) : nI a / nI d = nI (a / d) := pk_div ha h0 hd
theorem s_worth9 {σ : St} {O : Orc} {p what : Int32} {P : Int32 → Prop} (ho : isO σ.2.2.1) (hO : orC σ σ.2.2.1 O) (hk : oOk O) (hW : ∀ s, s < 2 ^ oP O → σ.1 33 s = nI (W_ O s)) (hP : P (ansWorth O p what)) : wX9_worth σ p what P := by
  have h8 := hk.1
  have bad : (inR p (oP O) && inR what 2) = false → P (-1) := fun h => by
    unfold ansWorth at hP
    rw [if_neg (by rw [h]; decide)] at hP; exact hP
  unfold wX9_worth
  refine ⟨ho, s_hasHalf ho hO.1 h8 (br_b (fun e => bad (by rw [e]; rfl)) (fun e => ⟨fun c => bad (by rw [inR_lt0 c]; simp), fun c => ⟨fun c2 => ?_, fun c2 => ?_⟩⟩))⟩
  · obtain ⟨k, hkP, rfl⟩ := inR_t e (by omega)
    have c2' : ¬ nI 2 ≤ what := fun q => by
      have q1 := (nle_toI (by omega)).mp q
      have q2 := Int32.le_iff_toInt_le.mp c2
      rw [show (1 : Int32).toInt = 1 from rfl] at q2
      omega
    have hw := inR_in (n := 2) (by omega) c c2'
    rw [ans_w hkP hk hw] at hP
    rw [hO.1, cl (by omega), fac_zT h8]
    refine ⟨vp_in_nI (by omega) (by omega), fun z7 h7 => s_grown hk hkP hW ?_⟩
    subst h7
    have fp := fac_pos h8
    have ul := up_lt hk hkP
    unfold wX9_greatestDivisor
    refine s_gcd 16 _ _ 0 (by omega) (by omega) ul (by omega) ?_
    have g0 : 0 < Nat.gcd (gN O k (2 ^ oP O)) (facN (oP O)) := Nat.gcd_pos_of_pos_right _ fp.1
    have gl : Nat.gcd (gN O k (2 ^ oP O)) (facN (oP O)) ≤ facN (oP O) := Nat.gcd_le_right _ fp.1
    have gn : ¬ nI (Nat.gcd (gN O k (2 ^ oP O)) (facN (oP O))) = 0 := nI_ne0 g0 (by omega)
    refine ⟨fun _ => jn_in ⟨fun cw => ⟨gn, ?_⟩, fun cw => ⟨gn, ?_⟩⟩, fun cc => absurd cc gn⟩
    · rw [divI (by omega) g0 (by omega)]
      rw [if_neg cw] at hP; exact hP
    · rw [divI ul g0 (by omega)]
      rw [if_pos cw] at hP; exact hP
  · refine bad ?_
    have : nI 2 ≤ what := by
      rw [nle_toI (by omega)]
      have q : ¬ what.toInt ≤ (1 : Int32).toInt := fun q => c2 (Int32.le_iff_toInt_le.mpr q)
      rw [show (1 : Int32).toInt = 1 from rfl] at q
      omega
    rw [inR_ge (by omega) this]; simp
theorem m_worth10 {μ : St} {O : Orc} {p what : Int32} {P : Int32 → St → Prop} (hM : orM μ O) (hk : oOk O) (hP : ∀ μ', frC [16] μ μ' → P (ansWorth O p what) μ') : wX10_worth μ p what P := by
  have h8 := hk.1
  have p8 := pow8 h8
  have bad : (inR p (oP O) && inR what 2) = false → P (-1) μ := fun h => by
    have hP := hP μ frC.rf
    unfold ansWorth at hP
    rw [if_neg (by rw [h]; decide)] at hP; exact hP
  unfold wX10_worth
  refine m_isOne hM hk (br_b (fun e => bad (by rw [e]; rfl)) (fun e => m_inL (a := 0) (b := 1) (by omega) (by omega) ?_))
  have ew : (decide (((0 : Nat) : Int) ≤ what.toInt) && decide (what.toInt ≤ ((1 : Nat) : Int))) = inR what 2 := by
    unfold inR
    rw [show decide (what.toInt ≤ ((1 : Nat) : Int)) = decide (what.toInt < ((2 : Nat) : Int)) from decide_eq_decide.mpr ⟨fun h => by omega, fun h => by omega⟩]
    rfl
  rw [ew]
  refine ⟨fun c => ?_, fun c => bad (by rw [bI_eq0.mp c]; simp)⟩
  have hw := bI_ne.mp c
  obtain ⟨k, hkP, rfl⟩ := inR_t e (by omega)
  have hP : ∀ μ', frC [16] μ μ' → P (nI ((if what = 0 then gN O k (2 ^ oP O) else facN (oP O)) / Nat.gcd (gN O k (2 ^ oP O)) (facN (oP O)))) μ' := fun μ' hf => by rw [← ans_w hkP hk hw]; exact hP μ' hf
  refine m_wholes hM hk (fun μ1 hf hW => ⟨in0 (by omega) (by omega), fun z7 h7 => ?_⟩)
  have hM1 := orM_fr hM hf (by decide)
  rw [toN0, hM1.1] at h7
  subst h7
  refine ⟨2 ^ oP O + 1, ?_⟩
  have fp := fac_pos h8
  have ul := up_lt hk hkP
  have step : ∀ K : Int32 → Prop, K (nI (gN O k (2 ^ oP O))) → ∀ d j, j + d = 2 ^ oP O → wLX10_worth_36 (nI k) what (nI (oP O)) μ1 K P (d + 1) (nI (gN O k j)) (nI j) := by
    intro K hK d
    induction d with
    | zero =>
      intro j hd
      rw [wLX10_worth_36, shl1 (by omega)]
      exact ⟨fun _ => by rw [show j = 2 ^ oP O by omega]; exact hK, fun c => absurd (nI_le (by omega) (by omega)) c⟩
    | succ d ih =>
      intro j hd
      have hj : j < 2 ^ oP O := by omega
      rw [wLX10_worth_36, shl1 (by omega), shl1 (by omega), bitN (by omega) (by omega)]
      refine ⟨fun c => absurd c (nI_ge (by omega) (by omega)), fun _ => ⟨fun c z hz => ?_, fun c => ?_⟩⟩
      · rw [hz, add1]
        have := ih (j + 1) (by omega)
        rw [gN, if_pos (bI_ne.mp c)] at this
        exact this
      · have c := bI_eq0.mp c
        have f1 := pop_free h8 hj hkP c
        have hor : j ||| 2 ^ k < 2 ^ oP O := Nat.or_lt_two_pow hj (Nat.pow_lt_pow_right (by omega) hkP)
        refine m_bitsIn (by omega) (m_orders (by omega) ?_)
        rw [i1, pk_sub (by omega), pk_sub (by omega)]
        refine m_orders (by omega) ?_
        rw [orN, cl (by omega), cl (by omega), hW _ hj, hW _ hor, pk_sub (W_mono hk hkP j hj c), pk_mul, pk_mul, nI_add]
        refine ⟨vp_in_nI (by omega) (by omega), vp_in_nI (by omega) (by omega), fun z11 h11 z12 h12 => ?_⟩
        rw [h11, h12, nI_add]
        have := ih (j + 1) (by omega)
        rw [gN, if_neg (by rw [c]; decide), show oP O - 1 - popN j = oP O - popN j - 1 by omega] at this
        exact this
  refine step _ ?_ (2 ^ oP O) 0 (by omega)
  refine m_orders h8 (m_common _ _ ul (by omega) ?_)
  have g0 : 0 < Nat.gcd (gN O k (2 ^ oP O)) (facN (oP O)) := Nat.gcd_pos_of_pos_right _ fp.1
  have gl : Nat.gcd (gN O k (2 ^ oP O)) (facN (oP O)) ≤ facN (oP O) := Nat.gcd_le_right _ fp.1
  have gn : ¬ nI (Nat.gcd (gN O k (2 ^ oP O)) (facN (oP O))) = 0 := nI_ne0 g0 (by omega)
  refine ⟨fun cw => ⟨gn, ?_⟩, fun cw => ⟨gn, ?_⟩⟩
  · rw [divI (by omega) g0 (by omega)]
    have hP := hP μ1 hf
    rw [if_neg cw] at hP; exact hP
  · rw [divI ul g0 (by omega)]
    have hP := hP μ1 hf
    rw [if_pos cw] at hP; exact hP
