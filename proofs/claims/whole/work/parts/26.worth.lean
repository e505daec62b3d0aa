/-! the reference's cells of an orchard -/
def orM (μ : St) (O : Orc) : Prop := μ.1 2 0 = nI (oP O) ∧ μ.1 8 0 = nI (oT O) ∧
  (∀ p, p < oP O → μ.1 3 p = nI (oS O p) ∧ μ.1 4 p = nI (oG O p) ∧ μ.1 5 p = nI (oL O p) ∧ μ.1 6 p = nI (oC O p)) ∧
  (∀ a b, a < 8 → b < 8 → μ.1 7 (8 * a + b) = bI (decide (a < oP O) && (oQ O a).testBit b)) ∧
  (∀ t, t < oT O → μ.1 9 t = nI (oH O t) ∧ μ.1 10 t = nI (oR O t) ∧ μ.1 11 t = nI (oB O t))
theorem orM_kept {μ μ' : St} {O : Orc} (h : orM μ O) (hk : ∀ k, 2 ≤ k → k ≤ 11 → μ'.1 k = μ.1 k) : orM μ' O := by
  obtain ⟨h1, h2, h3, h4, h5⟩ := h
  refine ⟨by rw [hk 2 (by omega) (by omega)]; exact h1, by rw [hk 8 (by omega) (by omega)]; exact h2, fun p hp => ?_, fun a b ha hb => by rw [hk 7 (by omega) (by omega)]; exact h4 a b ha hb, fun t ht => ?_⟩
  · rw [hk 3 (by omega) (by omega), hk 4 (by omega) (by omega), hk 5 (by omega) (by omega), hk 6 (by omega) (by omega)]; exact h3 p hp
  · rw [hk 9 (by omega) (by omega), hk 10 (by omega) (by omega), hk 11 (by omega) (by omega)]; exact h5 t ht
theorem orM_fr {S : List Nat} {μ μ' : St} {O : Orc} (h : orM μ O) (hf : frC S μ μ') (hs : ∀ k, k ∈ S → k < 2 ∨ 12 ≤ k) : orM μ' O :=
  orM_kept h (fun k h1 h2 => hf.1 k (fun q => by have := hs k q; omega))
theorem m_in {μ : St} {x lo hi : Int32} {P : Int32 → Prop} (hP : P (bI (decide (lo.toInt ≤ x.toInt) && decide (x.toInt ≤ hi.toInt)))) : wX10_in μ x lo hi P := by
  unfold wX10_in
  refine ⟨fun c => ?_, fun c => ⟨fun c2 => ?_, fun c2 => ?_⟩⟩
  · have c := Int32.lt_iff_toInt_lt.mp c
    rw [show (decide (lo.toInt ≤ x.toInt) && decide (x.toInt ≤ hi.toInt)) = false by simp; omega] at hP; exact hP
  · have c2 := Int32.lt_iff_toInt_lt.mp c2
    rw [show (decide (lo.toInt ≤ x.toInt) && decide (x.toInt ≤ hi.toInt)) = false by simp; omega] at hP; exact hP
  · have c : ¬ x.toInt < lo.toInt := fun q => c (Int32.lt_iff_toInt_lt.mpr q)
    have c2 : ¬ hi.toInt < x.toInt := fun q => c2 (Int32.lt_iff_toInt_lt.mpr q)
    rw [show (decide (lo.toInt ≤ x.toInt) && decide (x.toInt ≤ hi.toInt)) = true by simp; omega] at hP; exact hP
theorem predI {n : Nat} (h : n < 2 ^ 31) : (nI n - (1 : Int32)).toInt = (n : Int) - 1 := by
  cases n with
  | zero => decide
  | succ n => rw [nI_pred, toI (by omega)]; omega
theorem m_inR {μ : St} {x : Int32} {n : Nat} {P : Int32 → Prop} (hn : n < 2 ^ 31) (hP : P (bI (inR x n))) : wX10_in μ x (0 : Int32) (nI n - (1 : Int32)) P := by
  refine m_in ?_
  rw [predI hn, show (0 : Int32).toInt = 0 from rfl]
  unfold inR at hP
  rw [show decide (x.toInt ≤ (n : Int) - 1) = decide (x.toInt < (n : Int)) from decide_eq_decide.mpr ⟨fun h => by omega, fun h => by omega⟩]
  exact hP
/-- a stretch of literals -/
theorem m_inL {μ : St} {x : Int32} {a b : Nat} {P : Int32 → Prop} (ha : a < 2 ^ 31) (hb : b < 2 ^ 31) (hP : P (bI (decide ((a : Int) ≤ x.toInt) && decide (x.toInt ≤ (b : Int))))) : wX10_in μ x (nI a) (nI b) P := by
  refine m_in ?_
  rw [toI ha, toI hb]
  exact hP
theorem b01 (b : Bool) : bI b = 0 ∨ bI b = 1 := by cases b <;> simp [bI]
theorem m_isOne {μ : St} {O : Orc} {x : Int32} {P : Int32 → Prop} (hM : orM μ O) (hk : oOk O) (hP : P (bI (inR x (oP O)))) : wX10_isOne μ x P := by
  have h8 := hk.1
  unfold wX10_isOne
  rw [toN0, hM.1]
  exact ⟨in0 (by omega) (by omega), m_inR (by omega) ⟨b01 _, hP⟩⟩
theorem m_isTree {μ : St} {O : Orc} {x : Int32} {P : Int32 → Prop} (hM : orM μ O) (hk : oOk O) (hP : P (bI (inR x (oT O)))) : wX10_isTree μ x P := by
  have h5 := hk.2.1
  unfold wX10_isTree
  rw [toN0, hM.2.1]
  exact ⟨in0 (by omega) (by omega), m_inR (by omega) ⟨b01 _, hP⟩⟩
theorem m_fits {μ : St} {O : Orc} {a b : Nat} {P : Int32 → Prop} (hM : orM μ O) (hk : oOk O) (ha : a < oP O) (hb : b < oP O) (hP : P (bI (oF O a b))) : wX10_fits μ (nI a) (nI b) P := by
  have h8 := hk.1
  have A := hk.2.2.1 a ha
  have B := hk.2.2.1 b hb
  unfold wX10_fits
  rw [show (8 : Int32) = nI 8 from rfl, pk_mul, nI_add, cl (by omega), cl (by omega), cl (by omega), (hM.2.2.1 a ha).1, (hM.2.2.1 b hb).1, (hM.2.2.1 a ha).2.1, (hM.2.2.1 b hb).2.1, hM.2.2.2.1 a b (by omega) (by omega)]
  have va : vp_in (nI a) 16 := vp_in_nI (by omega) (by omega)
  have vb : vp_in (nI b) 16 := vp_in_nI (by omega) (by omega)
  refine ⟨va, vb, fun c => ?_, fun c => ⟨va, vb, fun c2 => ?_, fun c2 => ⟨vp_in_nI (by omega) (by omega), fun c3 => ?_, fun c3 => ?_⟩⟩⟩
  · have c := (nI_eq (by omega) (by omega)).mp c
    rw [show oF O a b = false by simp [oF, oU, c]] at hP; exact hP
  · have c2 : ¬ oG O a = oG O b := fun q => c2 (by rw [q])
    rw [show oF O a b = false by simp [oF, c2]] at hP; exact hP
  · have c3 := bI_ne.mp c3
    rw [decide_eq_true ha, Bool.true_and] at c3
    rw [show oF O a b = false by simp [oF, oU, c3]] at hP; exact hP
  · have c3 := bI_eq0.mp c3
    rw [decide_eq_true ha, Bool.true_and] at c3
    have c : ¬ oS O a = oS O b := fun q => c (by rw [q])
    have c2 := (nI_eq (by omega) (by omega)).mp c2
    rw [show oF O a b = true by simp [oF, oU, c, c2, c3]] at hP; exact hP
theorem m_ladder {μ : St} {O : Orc} {a b : Nat} {P : Int32 → Prop} (hM : orM μ O) (hk : oOk O) (ha : a < oP O) (hb : b < oP O) (hP : P (nI (min (oL O a) (oL O b)))) : wX10_ladder μ (nI a) (nI b) P := by
  have h8 := hk.1
  have A := hk.2.2.1 a ha
  have B := hk.2.2.1 b hb
  unfold wX10_ladder
  rw [cl (by omega), cl (by omega), (hM.2.2.1 a ha).2.2.1, (hM.2.2.1 b hb).2.2.1]
  have va : vp_in (nI a) 16 := vp_in_nI (by omega) (by omega)
  have vb : vp_in (nI b) 16 := vp_in_nI (by omega) (by omega)
  refine ⟨va, vb, fun c => ⟨vb, ?_⟩, fun c => ⟨va, ?_⟩⟩
  · have c := (nI_leI (by omega) (by omega)).mp c
    rw [Nat.min_eq_right c] at hP; exact hP
  · have c : ¬ oL O b ≤ oL O a := fun q => c (nI_le q (by omega))
    rw [Nat.min_eq_left (by omega)] at hP; exact hP
/-! the reference's wholes -/
theorem m_wFind {μ : St} {s : Nat} {K : Int32 → Prop} {P : St → Prop} (hs8 : s < 256) (h0 : s ≠ 0) (hK : K (nI (lowb s))) : ∀ e a, a + e = lowb s → wLX10_findWholes_23 (nI s) μ K P (e + 1) (nI a) := by
  have la := lowb_lt hs8 h0
  intro e
  induction e with
  | zero =>
    intro a ha
    have e : a = lowb s := by omega
    subst e
    rw [wLX10_findWholes_23, bitN (by omega) (by omega), lowb_bit hs8 h0]
    exact ⟨fun _ => hK, fun c => absurd c nb0⟩
  | succ e ihe =>
    intro a ha
    rw [wLX10_findWholes_23, bitN (by omega) (by omega), lowb_min hs8 h0 (by omega)]
    refine ⟨fun c => absurd rfl c, fun _ z hz => ?_⟩
    rw [hz, add1]
    exact ihe (a + 1) (by omega)
theorem m_wIn {μ : St} {O : Orc} {s : Nat} {K : Int32 → Prop} {P : St → Prop} (hM : orM μ O) (hk : oOk O) (hs2 : s < 2 ^ oP O) (h0 : s ≠ 0) (hT : ∀ r, r < s → μ.1 16 r = nI (W_ O r)) (hK : K (nI (W_ O s))) : ∀ e b acc, b + e = oP O → lowb s < b → acc < 10000 → mxL (fun b => (sd s (2 ^ lowb s)).testBit b && oF O (lowb s) b) (fun b => oC O (lowb s) + oC O b + W_ O (sd (sd s (2 ^ lowb s)) (2 ^ b))) e b acc = W_ O s → wLX10_findWholes_58 (nI s) (nI (lowb s)) (nI (sd s (2 ^ lowb s))) μ K P (e + 1) (nI acc) (nI b) := by
  have h8 := hk.1
  have p8 := pow8 h8
  have hs8 : s < 256 := by omega
  have la := lowb_lt hs8 h0
  have lbit := lowb_bit hs8 h0
  have laP := bit_lt hs2 lbit
  have hsd := sd_lt hs8 la lbit
  have wl := W_le hk
  intro e
  induction e with
  | zero =>
    intro b acc hb hlb hacc he
    rw [wLX10_findWholes_58, toN0, hM.1]
    rw [mxL] at he
    exact ⟨in0 (by omega) (by omega), fun _ => by rw [he]; exact hK, fun c => absurd (nI_le (by omega) (by omega)) c⟩
  | succ e ihe =>
    intro b acc hb hlb hacc he
    have hbP : b < oP O := by omega
    rw [wLX10_findWholes_58, toN0, hM.1, bitN (by omega) (by omega)]
    rw [mxL] at he
    refine ⟨in0 (by omega) (by omega), fun c => absurd c (nI_ge (by omega) (by omega)), fun _ => ⟨fun c z hz => ?_, fun c => ?_⟩⟩
    · have c : (sd s (2 ^ lowb s)).testBit b = false := by
        cases q : (sd s (2 ^ lowb s)).testBit b with
        | false => rfl
        | true => rw [q] at c; exact absurd rfl c
      rw [if_neg (by simp [c])] at he
      rw [hz, add1]
      exact ihe (b + 1) acc (by omega) (by omega) hacc he
    · have c : (sd s (2 ^ lowb s)).testBit b = true := by
        cases q : (sd s (2 ^ lowb s)).testBit b with
        | true => rfl
        | false => rw [q] at c; exact absurd c (by decide)
      refine m_fits hM hk laP hbP (br_b (fun f z hz => ?_) (fun f => ?_))
      · rw [if_neg (by simp [f])] at he
        rw [hz, add1]
        exact ihe (b + 1) acc (by omega) (by omega) hacc he
      · rw [if_pos (by simp [c, f])] at he
        have hsd2 := sd_le (s := sd s (2 ^ lowb s)) (a := b) (by omega) (by omega)
        have wb := wl (sd (sd s (2 ^ lowb s)) (2 ^ b)) (by omega)
        have c1 := (hk.2.2.1 (lowb s) laP).2.2.2.1
        have c2 := (hk.2.2.1 b hbP).2.2.2.1
        generalize hv : oC O (lowb s) + oC O b + W_ O (sd (sd s (2 ^ lowb s)) (2 ^ b)) = v at he
        have hv2 : v < 10000 := by omega
        rw [shl1 (by omega), sdI, cl (by omega), cl (by omega), cl (by omega), (hM.2.2.1 _ laP).2.2.2, (hM.2.2.1 _ hbP).2.2.2, hT _ (by omega), nI_add, nI_add, hv]
        refine ⟨vp_in_nI (by omega) (by omega), vp_in_nI (by omega) (by omega), vp_in_nI (by omega) (by omega), fun z22 h22 => ?_⟩
        subst h22
        refine ⟨fun q z hz => ?_, fun q z hz => ?_⟩
        · have q := (nI_leI (by omega) (by omega)).mp q
          rw [Nat.max_eq_left q] at he
          rw [hz, add1]
          exact ihe (b + 1) _ (by omega) (by omega) hacc he
        · have q : ¬ v ≤ acc := fun t => q (nI_le t (by omega))
          rw [Nat.max_eq_right (by omega)] at he
          rw [hz, add1]
          exact ihe (b + 1) _ (by omega) (by omega) hv2 he
theorem m_wholes {μ : St} {O : Orc} {P : St → Prop} (hM : orM μ O) (hk : oOk O) (hP : ∀ μ', frC [16] μ μ' → (∀ s, s < 2 ^ oP O → μ'.1 16 s = nI (W_ O s)) → P μ') : wX10_findWholes μ P := by
  have h8 := hk.1
  have p8 := pow8 h8
  have p1 : 1 ≤ 2 ^ oP O := Nat.one_le_two_pow
  have wl := W_le hk
  unfold wX10_findWholes
  refine ⟨in0 (by omega) (by omega), fun μ2 h2 => ⟨2 ^ oP O, ?_⟩⟩
  have step : ∀ d s μ1, s + d = 2 ^ oP O → 0 < s → frC [16] μ μ1 → (∀ r, r < s → μ1.1 16 r = nI (W_ O r)) → wLX10_findWholes_9 (fun μ32 => P μ32) P (d + 1) μ1 (nI s) := by
    intro d
    induction d with
    | zero =>
      intro s μ1 hs hp0 hf hT
      rw [wLX10_findWholes_9]
      have hM1 := orM_fr hM hf (by decide)
      rw [toN0, hM1.1, shl1 (by omega)]
      exact ⟨in0 (by omega) (by omega), fun _ => hP μ1 hf (by rw [show 2 ^ oP O = s by omega]; exact hT), fun c => absurd (nI_le (by omega) (by omega)) c⟩
    | succ d ih =>
      intro s μ1 hs hp0 hf hT
      rw [wLX10_findWholes_9]
      have hM1 := orM_fr hM hf (by decide)
      rw [toN0, hM1.1, shl1 (by omega)]
      have hs8 : s < 256 := by omega
      have hs2 : s < 2 ^ oP O := by omega
      have h0 : s ≠ 0 := by omega
      have la := lowb_lt hs8 h0
      have lbit := lowb_bit hs8 h0
      have laP := bit_lt hs2 lbit
      have hsd := sd_lt hs8 la lbit
      refine ⟨in0 (by omega) (by omega), fun c => absurd c (nI_ge (by omega) (by omega)), fun _ => ⟨lowb s + 1, m_wFind hs8 h0 ?_ (lowb s) 0 (by omega)⟩⟩
      rw [shl1 (by omega), sdI]
      intro z8 h8'
      subst h8'
      rw [cl (n := sd s (2 ^ lowb s)) (by omega), hT _ hsd]
      refine ⟨vp_in_nI (by omega) (by omega), fun z10 h10 z11 h11 => ⟨oP O - (lowb s + 1) + 1, ?_⟩⟩
      subst h10
      rw [h11, add1 (lowb s)]
      refine m_wIn hM1 hk hs2 h0 hT ?_ (oP O - (lowb s + 1)) (lowb s + 1) (W_ O (sd s (2 ^ lowb s))) (by omega) (by omega) (by have := wl (sd s (2 ^ lowb s)) (by omega); omega) (W_rec hk hs8 h0).symm
      refine ⟨vp_in_nI (by omega) (by omega), fun σ28 h28 z29 h29 => ?_⟩
      rw [h29, add1]
      rw [cl (by omega)] at h28
      refine ih (s + 1) σ28 (by omega) (by omega) (by rw [h28]; exact hf.wr (by simp)) (fun r hr => ?_)
      rw [h28, sI_get]
      by_cases q : r = s
      · subst q; simp
      · rw [if_neg (fun t => q t.2)]; exact hT r (by omega)
  have := step (2 ^ oP O - 1) 1 μ2 (by omega) (by omega) (by rw [h2]; exact frC.rf.wr (by simp)) (fun r hr => by
    rw [show r = 0 by omega, h2]; exact sI_at _ _ _ _)
  rw [show 2 ^ oP O - 1 + 1 = 2 ^ oP O by omega] at this
  exact this
