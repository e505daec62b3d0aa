/-! the byte that is typed -/
theorem bv_byte (x : BitVec 64) (n : Nat) (hn : n ≤ 56) : (BitVec.signExtend 8 (BitVec.signExtend 32 (x >>> n))) = (BitVec.signExtend 8 (BitVec.signExtend 32 (x.sshiftRight n &&& 255#64))) := by
  apply BitVec.eq_of_getLsbD_eq
  intro j hj
  have hj8 : j < 8 := hj
  have e255 : (255#64).getLsbD j = true := by
    have H : ∀ j : Fin 8, (255#64).getLsbD j.val = true := by decide
    exact H ⟨j, hj8⟩
  rw [BitVec.getLsbD_signExtend, BitVec.getLsbD_signExtend, if_pos (by omega), if_pos (by omega), BitVec.getLsbD_signExtend, BitVec.getLsbD_signExtend, if_pos (by omega), if_pos (by omega), BitVec.getLsbD_and, e255, Bool.and_true, BitVec.getLsbD_ushiftRight, BitVec.getLsbD_sshiftRight]
  have h1 : n + j < 64 := by omega
  have h2 : ¬ 64 ≤ j := by omega
  simp [h1, h2, hj8]
theorem byt_sh : ∀ k : Fin 8, ((8 : Int32) * nI k.val).toInt64.toUInt64 &&& Int64.toUInt64 63 = UInt64.ofNat (8 * k.val) ∧ ((8 : Int32) * nI k.val).toInt64 &&& 63 = Int64.ofNat (8 * k.val) := by decide +kernel
def byt (v : Int64) (k : Nat) : Int32 := (((v.toUInt64 >>> (((8 : Int32) * nI k).toInt64.toUInt64 &&& Int64.toUInt64 63)).toInt64).toInt32).toInt8.toInt32
theorem byt_eq (v : Int64) {k : Nat} (hk : k < 8) : (((v >>> (((8 : Int32) * nI k).toInt64 &&& 63)) &&& (255 : Int64)).toInt32).toInt8.toInt32 = byt v k := by
  unfold byt
  rw [(byt_sh ⟨k, hk⟩).1, (byt_sh ⟨k, hk⟩).2]
  congr 1
  apply Int8.toBitVec_inj.mp
  have h := bv_byte v.toBitVec (8 * k) (by omega)
  have e1 : (v >>> Int64.ofNat (8 * k)).toBitVec = v.toBitVec.sshiftRight (8 * k) := by
    rw [Int64.toBitVec_shiftRight]
    have : ((Int64.ofNat (8 * k)).toBitVec.smod 64).toNat = 8 * k := by
      have H : ∀ k : Fin 8, ((Int64.ofNat (8 * k.val)).toBitVec.smod 64).toNat = 8 * k.val := by decide +kernel
      exact H ⟨k, hk⟩
    rw [BitVec.sshiftRight', this]
  have e2 : (v.toUInt64 >>> UInt64.ofNat (8 * k)).toBitVec = v.toBitVec >>> (8 * k) := by
    rw [UInt64.toBitVec_shiftRight]
    have : ((UInt64.ofNat (8 * k)).toBitVec % 64).toNat = 8 * k := by
      have H : ∀ k : Fin 8, ((UInt64.ofNat (8 * k.val)).toBitVec % 64).toNat = 8 * k.val := by decide +kernel
      exact H ⟨k, hk⟩
    show v.toBitVec >>> ((UInt64.ofNat (8 * k)).toBitVec % 64).toNat = _
    rw [this]
  show BitVec.signExtend 8 (BitVec.signExtend 32 ((v >>> Int64.ofNat (8 * k)).toBitVec &&& 255#64)) = BitVec.signExtend 8 (BitVec.signExtend 32 (v.toUInt64 >>> UInt64.ofNat (8 * k)).toBitVec)
  rw [e1, e2, h]
/-! the text -/
def txC (σ : St) (len : Nat) (tx : Nat → Int32) : Prop := σ.1 1 1 = nI len ∧ ∀ j, j < len → σ.1 2 j = tx j
def txM (μ : St) (len : Nat) (tx : Nat → Int32) : Prop := μ.1 0 2 = nI len ∧ ∀ j, j < len → μ.1 1 j = tx j
def ansType (len : Nat) (n : Int32) : Int32 := if (decide (1 ≤ n.toInt) && decide (n.toInt ≤ 8)) = true then (if len + n.toNatClampNeg ≤ 300 then nI (len + n.toNatClampNeg) else -3) else -1
def lenType (len : Nat) (n : Int32) : Nat := if (decide (1 ≤ n.toInt) && decide (n.toInt ≤ 8)) = true then (if len + n.toNatClampNeg ≤ 300 then len + n.toNatClampNeg else len) else len
def txType (len : Nat) (tx : Nat → Int32) (v : Int64) (n : Int32) : Nat → Int32 := fun j => if len ≤ j then vp_nar .byte (byt v (n.toNatClampNeg - 1 - (j - len))) else tx j
theorem pre1 (k : Nat) : nI (k + 1) + (-1 : Int32) = nI k := by
  rw [← add1]
  apply Int32.toBitVec_inj.mp
  show (BitVec.ofNat 32 k + 1#32) + (-1#32) = BitVec.ofNat 32 k
  rw [BitVec.add_assoc, show (1#32 + -1#32 : BitVec 32) = 0#32 by decide, BitVec.add_zero]
theorem pre0 : nI 0 + (-1 : Int32) = -1 := by decide
theorem s_type9 {σ : St} {len : Nat} {tx : Nat → Int32} {v : Int64} {n : Int32} {P : Int32 → St → Prop} (hl : len ≤ 300) (hT : txC σ len tx) (hP : ∀ σ', frC [1, 2] σ σ' → (∀ j, j ≠ 1 → σ'.1 1 j = σ.1 1 j) → txC σ' (lenType len n) (txType len tx v n) → P (ansType len n) σ') : wX9_type σ v n P := by
  have h0 : ∀ l, l = len → txC σ l (txType len tx v n) := fun l e => ⟨by rw [e]; exact hT.1, fun j hj => by
    unfold txType
    rw [if_neg (by omega)]
    exact hT.2 j (by omega)⟩
  have bad : (decide (1 ≤ n.toInt) && decide (n.toInt ≤ 8)) = false → P (-1) σ := fun h => by
    have := hP σ frC.rf (fun _ _ => rfl)
    unfold lenType ansType at this
    rw [if_neg (by rw [h]; decide), if_neg (by rw [h]; decide)] at this
    exact this (h0 len rfl)
  unfold wX9_type
  refine ⟨fun c => bad ?_, fun c => ⟨fun c2 => ?_, fun c2 => bad ?_⟩⟩
  · have c := Int32.lt_iff_toInt_lt.mp c
    rw [show (1 : Int32).toInt = 1 from rfl] at c
    simp; omega
  · have c1 : ¬ n.toInt < 1 := fun q => c (Int32.lt_iff_toInt_lt.mpr q)
    have c2 := Int32.le_iff_toInt_le.mp c2
    rw [show (8 : Int32).toInt = 8 from rfl] at c2
    obtain ⟨n, hn, rfl⟩ := inR_t (x := n) (n := 9) (by simp [inR]; omega) (by omega)
    rw [toI (by omega)] at c1 c2
    unfold lenType ansType at hP
    have q : (decide (1 ≤ (nI n).toInt) && decide ((nI n).toInt ≤ 8)) = true := by rw [toI (by omega)]; simp; omega
    rw [if_pos q, if_pos q, cl (n := n) (by omega)] at hP
    unfold wX8_room
    rw [hT.1, show (300 : Int32) = nI 300 from rfl, pk_sub hl]
    refine ⟨fun c3 => ?_, fun c3 => ?_⟩
    · have c3 := (nI_leI (by omega) (by omega)).mp c3
      rw [if_pos (by omega), if_pos (by omega)] at hP
      intro z5 h5
      refine ⟨n + 1, ?_⟩
      have step : ∀ k σ1 z, k ≤ n → z = (if k = 0 then (-1 : Int32) else nI (k - 1)) → frC [1, 2] σ σ1 → (∀ j, j ≠ 1 → σ1.1 1 j = σ.1 1 j) → txC σ1 (len + n - k) (txType len tx v (nI n)) → wLX9_type_32 v (fun (σ9 : St) => P (σ9.1 1 1) σ9) P (k + 1) σ1 z := by
        intro k
        induction k with
        | zero =>
          intro σ1 z hk hz hf hs ht
          rw [wLX9_type_32, hz, if_pos rfl]
          refine ⟨fun _ => ?_, fun c => absurd (by decide) c⟩
          rw [ht.1, Nat.sub_zero]
          exact hP σ1 hf hs (by rw [Nat.sub_zero] at ht; exact ht)
        | succ k ih =>
          intro σ1 z hk hz hf hs ht
          rw [if_neg (by omega), Nat.add_sub_cancel] at hz
          rw [wLX9_type_32, hz]
          refine ⟨fun c => absurd c (nI_pos (by omega)), fun _ => ?_⟩
          unfold wX8_add
          rw [ht.1, cl (n := len + n - (k + 1)) (by omega)]
          refine ⟨fun c => absurd ((leI (a := 300) rfl rfl (by omega) (by omega)).mp c) (by omega), fun _ => ⟨vp_in_nI (by omega) (by omega), fun σ3 h3 σ4 h4 z8 h8 => ?_⟩⟩
          have e3 : σ3.1 1 1 = nI (len + n - (k + 1)) := by rw [h3, sI_ne (by decide)]; exact ht.1
          rw [e3, add1, show len + n - (k + 1) + 1 = len + n - k by omega] at h4
          refine ih σ4 z8 (by omega) ?_ (by rw [h4, h3]; exact (hf.wr (by decide)).wr (by decide)) (fun j hj => by rw [h4, sI_off hj, h3, sI_ne (by decide)]; exact hs j hj) ⟨by rw [h4, sI_at], fun j hj => ?_⟩
          · rw [h8]
            cases k with
            | zero => rw [if_pos rfl]; exact pre0
            | succ k => rw [if_neg (by omega), Nat.add_sub_cancel]; exact pre1 k
          · rw [h4, sI_ne (by decide), h3, sI_get]
            by_cases e : j = len + n - (k + 1)
            · rw [if_pos ⟨rfl, e⟩]
              unfold txType
              rw [if_pos (by omega), cl (n := n) (by omega), show n - 1 - (j - len) = k by omega]
              rfl
            · rw [if_neg (fun q => e q.2)]
              exact ht.2 j (by omega)
      refine step n σ z5 (Nat.le_refl _) ?_ frC.rf (fun _ _ => rfl) (h0 _ (by omega))
      rw [h5, i1, pk_sub (by omega), if_neg (by omega)]
    · have c3 : ¬ n ≤ 300 - len := fun q => c3 (nI_le q (by omega))
      rw [if_neg (by omega), if_neg (by omega)] at hP
      exact hP σ frC.rf (fun _ _ => rfl) (h0 len rfl)
  · have c2 : ¬ n.toInt ≤ 8 := fun q => c2 (Int32.le_iff_toInt_le.mpr q)
    simp; omega
theorem m_type10 {μ : St} {len : Nat} {tx : Nat → Int32} {v : Int64} {n : Int32} {P : Int32 → St → Prop} (hl : len ≤ 300) (hT : txM μ len tx) (hP : ∀ μ', frC [0, 1] μ μ' → (∀ j, j ≠ 2 → μ'.1 0 j = μ.1 0 j) → txM μ' (lenType len n) (txType len tx v n) → P (ansType len n) μ') : wX10_type μ v n P := by
  have h0 : ∀ l, l = len → txM μ l (txType len tx v n) := fun l e => ⟨by rw [e]; exact hT.1, fun j hj => by
    unfold txType
    rw [if_neg (by omega)]
    exact hT.2 j (by omega)⟩
  unfold wX10_type
  refine m_inL (a := 1) (b := 8) (by omega) (by omega) ((br_b (fun q => ?_) (fun q => ?_)) |> fun h => ⟨fun c => h.2 c, fun c => h.1 c⟩)
  · have q : (decide (1 ≤ n.toInt) && decide (n.toInt ≤ 8)) = false := q
    have := hP μ frC.rf (fun _ _ => rfl)
    unfold lenType ansType at this
    rw [if_neg (by rw [q]; decide), if_neg (by rw [q]; decide)] at this
    exact this (h0 len rfl)
  · have q : (decide (1 ≤ n.toInt) && decide (n.toInt ≤ 8)) = true := q
    have q2 := q
    simp only [Bool.and_eq_true, decide_eq_true_eq] at q2
    obtain ⟨n, hn, rfl⟩ := inR_t (x := n) (n := 9) (by simp [inR]; omega) (by omega)
    unfold lenType ansType at hP
    rw [if_pos q, if_pos q, cl (n := n) (by omega)] at hP
    rw [toI (by omega)] at q2
    rw [hT.1, nI_add, show (300 : Int32) = nI 300 from rfl]
    refine ⟨fun c3 => ?_, fun c3 => ?_⟩
    · have c3 := (nI_leI (by omega) (by omega)).mp c3
      rw [if_pos (by omega), if_pos (by omega)] at hP
      intro z5 h5
      refine ⟨n + 1, ?_⟩
      have step : ∀ k μ1 z, k ≤ n → z = (if k = 0 then (-1 : Int32) else nI (k - 1)) → frC [0, 1] μ μ1 → (∀ j, j ≠ 2 → μ1.1 0 j = μ.1 0 j) → txM μ1 (len + n - k) (txType len tx v (nI n)) → wLX10_type_32 v (fun (σ9 : St) => P (σ9.1 0 2) σ9) P (k + 1) μ1 z := by
        intro k
        induction k with
        | zero =>
          intro μ1 z hk hz hf hs ht
          rw [wLX10_type_32, hz, if_pos rfl]
          refine ⟨fun _ => ?_, fun c => absurd (by decide) c⟩
          rw [ht.1, Nat.sub_zero]
          exact hP μ1 hf hs (by rw [Nat.sub_zero] at ht; exact ht)
        | succ k ih =>
          intro μ1 z hk hz hf hs ht
          rw [if_neg (by omega), Nat.add_sub_cancel] at hz
          rw [wLX10_type_32, hz, ht.1, cl (n := len + n - (k + 1)) (by omega), byt_eq v (show k < 8 by omega)]
          refine ⟨fun c => absurd c (nI_pos (by omega)), fun _ => ⟨vp_in_nI (by omega) (by omega), fun σ3 h3 σ4 h4 z8 h8 => ?_⟩⟩
          have e3 : σ3.1 0 2 = nI (len + n - (k + 1)) := by rw [h3, sI_ne (by decide)]; exact ht.1
          rw [e3, add1, show len + n - (k + 1) + 1 = len + n - k by omega] at h4
          refine ih σ4 z8 (by omega) ?_ (by rw [h4, h3]; exact (hf.wr (by decide)).wr (by decide)) (fun j hj => by rw [h4, sI_off hj, h3, sI_ne (by decide)]; exact hs j hj) ⟨by rw [h4, sI_at], fun j hj => ?_⟩
          · rw [h8]
            cases k with
            | zero => rw [if_pos rfl]; exact pre0
            | succ k => rw [if_neg (by omega), Nat.add_sub_cancel]; exact pre1 k
          · rw [h4, sI_ne (by decide), h3, sI_get]
            by_cases e : j = len + n - (k + 1)
            · rw [if_pos ⟨rfl, e⟩]
              unfold txType
              rw [if_pos (by omega), cl (n := n) (by omega), show n - 1 - (j - len) = k by omega]
            · rw [if_neg (fun q => e q.2)]
              exact ht.2 j (by omega)
      refine step n μ z5 (Nat.le_refl _) ?_ frC.rf (fun _ _ => rfl) (h0 _ (by omega))
      rw [h5, i1, pk_sub (by omega), if_neg (by omega)]
    · have c3 : ¬ len + n ≤ 300 := fun q => c3 (nI_le q (by omega))
      rw [if_neg (by omega), if_neg (by omega)] at hP
      exact hP μ frC.rf (fun _ _ => rfl) (h0 len rfl)
theorem s_clear9 {σ : St} {len : Nat} {tx : Nat → Int32} {P : Int32 → St → Prop} (hT : txC σ len tx) (hP : ∀ σ', frC [1] σ σ' → (∀ j, j ≠ 1 → σ'.1 1 j = σ.1 1 j) → txC σ' 0 tx → P (nI len) σ') : wX9_clear σ P := by
  unfold wX9_clear
  intro z1 h1 σ2 h2
  rw [h1, hT.1]
  exact hP σ2 (by rw [h2]; exact frC.rf.wr (by decide)) (fun j hj => by rw [h2, sI_off hj]) ⟨by rw [h2, sI_at]; rfl, fun j hj => absurd hj (Nat.not_lt_zero j)⟩
theorem m_clear10 {μ : St} {len : Nat} {tx : Nat → Int32} {P : Int32 → St → Prop} (hT : txM μ len tx) (hP : ∀ μ', frC [0] μ μ' → (∀ j, j ≠ 2 → μ'.1 0 j = μ.1 0 j) → txM μ' 0 tx → P (nI len) μ') : wX10_clear μ P := by
  unfold wX10_clear
  intro z1 h1 σ2 h2
  rw [h1, hT.1]
  exact hP σ2 (by rw [h2]; exact frC.rf.wr (by decide)) (fun j hj => by rw [h2, sI_off hj]) ⟨by rw [h2, sI_at]; rfl, fun j hj => absurd hj (Nat.not_lt_zero j)⟩
/-! how many there are -/
def qS (O : Orc) : Nat → Nat
  | 0 => 0
  | p + 1 => qS O p + popN (oQ O p)
def qB (O : Orc) (k : Nat) : Bool := decide (k / 8 < oP O) && (oQ O (k / 8)).testBit (k % 8)
def cR (O : Orc) : Nat → Nat
  | 0 => 0
  | k + 1 => cR O k + (qB O k).toNat
theorem qB_at (O : Orc) {a j : Nat} (hj : j < 8) : qB O (8 * a + j) = (decide (a < oP O) && (oQ O a).testBit j) := by
  unfold qB
  rw [show (8 * a + j) / 8 = a by omega, show (8 * a + j) % 8 = j by omega]
theorem cR_8 (O : Orc) : ∀ a, cR O (8 * a) = qS O (min a (oP O)) := by
  intro a
  induction a with
  | zero => rw [Nat.zero_min]; rfl
  | succ a ih =>
    rw [show 8 * (a + 1) = 8 * a + 0 + 1 + 1 + 1 + 1 + 1 + 1 + 1 + 1 by omega]
    rw [cR, cR, cR, cR, cR, cR, cR, cR, Nat.add_zero, ih]
    have q0 := qB_at O (a := a) (j := 0) (by omega)
    rw [Nat.add_zero] at q0
    rw [show 8 * a + 1 + 1 = 8 * a + 2 by omega, show 8 * a + 2 + 1 = 8 * a + 3 by omega, show 8 * a + 3 + 1 = 8 * a + 4 by omega, show 8 * a + 4 + 1 = 8 * a + 5 by omega, show 8 * a + 5 + 1 = 8 * a + 6 by omega, show 8 * a + 6 + 1 = 8 * a + 7 by omega]
    rw [q0, qB_at O (by omega), qB_at O (by omega), qB_at O (by omega), qB_at O (by omega), qB_at O (by omega), qB_at O (by omega), qB_at O (by omega)]
    by_cases h : a < oP O
    · rw [Nat.min_eq_left (by omega), Nat.min_eq_left (by omega), qS, decide_eq_true h]
      simp only [Bool.true_and]
      unfold popN
      omega
    · rw [Nat.min_eq_right (by omega), Nat.min_eq_right (by omega), decide_eq_false h]
      simp
theorem qS_le {O : Orc} (hk : oOk O) : ∀ p, p ≤ oP O → qS O p ≤ 8 * p := by
  intro p
  induction p with
  | zero => intro _; exact Nat.le_refl _
  | succ p ih =>
    intro h
    have := ih (by omega)
    have := pop_P (P := 8) (s := oQ O p) (by omega) (hk.2.2.1 p (by omega)).2.2.2.2
    rw [qS]; omega
theorem cR_le (O : Orc) : ∀ k, cR O k ≤ k := by
  intro k
  induction k with
  | zero => exact Nat.le_refl _
  | succ k ih => rw [cR]; have := Bool.toNat_le (qB O k); omega
def ansCount (O : Orc) (len : Nat) (what : Int32) : Int32 := if what = 0 then nI (oP O) else if what = 1 then nI (oT O) else if what = 2 then nI (qS O (oP O) / 2) else if what = 3 then nI len else -1
theorem s_quarrelPairs {σ : St} {o : Nat} {O : Orc} {P : Int32 → Prop} (ho : isO o) (hO : orC σ o O) (hk : oOk O) (hP : P (nI (qS O (oP O) / 2))) : wX3_quarrelPairs σ o P := by
  have h8 := hk.1
  unfold wX3_quarrelPairs
  refine ⟨ho, oP O + 1, ?_⟩
  have q := qS_le hk (oP O) (Nat.le_refl _)
  have step : ∀ d i, i + d = oP O → wLX3_quarrelPairs_4 o σ (fun (y6 : Int32) => P (y6 / (2 : Int32))) P (d + 1) (nI (qS O i)) (nI i) := by
    intro d
    induction d with
    | zero =>
      intro i hi
      rw [wLX3_quarrelPairs_4, hO.1]
      refine ⟨fun _ => ?_, fun c => absurd (nI_le (by omega) (by omega)) c⟩
      rw [show i = oP O by omega, show (2 : Int32) = nI 2 from rfl, divI (by omega) (by omega) (by omega)]
      exact hP
    | succ d ih =>
      intro i hi
      have hiP : i < oP O := by omega
      rw [wLX3_quarrelPairs_4, hO.1, cl (by omega), (hO.2.2.1 i hiP).2.2.2.2]
      refine ⟨fun c => absurd c (nI_ge hiP (by omega)), fun _ => ⟨vp_in_nI (by omega) (by omega), s_bitCount (hk.2.2.1 i hiP).2.2.2.2 (fun z hz z5 hz5 => ?_)⟩⟩
      rw [hz, hz5, add1, nI_add]
      exact ih (i + 1) (by omega)
  exact step (oP O) 0 (by omega)
theorem s_count9 {σ : St} {O : Orc} {len : Nat} {what : Int32} {P : Int32 → Prop} (hc : cor σ O) (hk : oOk O) (hl : σ.1 1 1 = nI len) (hP : P (ansCount O len what)) : wX9_count σ what P := by
  unfold ansCount at hP
  unfold wX9_count
  rw [hc.2.1.1, hc.2.1.2.1, hl]
  refine ⟨fun c => ⟨hc.1, ?_⟩, fun c0 => ⟨fun c => ⟨hc.1, ?_⟩, fun c1 => ⟨fun c => ⟨hc.1, s_quarrelPairs hc.1 hc.2.1 hk ?_⟩, fun c2 => ⟨fun c => ?_, fun c3 => ?_⟩⟩⟩⟩
  · rw [if_pos c] at hP; exact hP
  · rw [if_neg c0, if_pos c] at hP; exact hP
  · rw [if_neg c0, if_neg c1, if_pos c] at hP; exact hP
  · rw [if_neg c0, if_neg c1, if_neg c2, if_pos c] at hP; exact hP
  · rw [if_neg c0, if_neg c1, if_neg c2, if_neg c3] at hP; exact hP
theorem m_count10 {μ : St} {O : Orc} {len : Nat} {what : Int32} {P : Int32 → Prop} (hM : orM μ O) (hk : oOk O) (hl : μ.1 0 2 = nI len) (hP : P (ansCount O len what)) : wX10_count μ what P := by
  have h8 := hk.1
  unfold ansCount at hP
  unfold wX10_count
  have q := qS_le hk (oP O) (Nat.le_refl _)
  refine ⟨65, ?_⟩
  have step : ∀ (K : Int32 → Prop), K (nI (qS O (oP O))) → ∀ d i, i + d = 64 → wLX10_count_4 what μ K P (d + 1) (nI (cR O i)) (nI i) := by
    intro K hK d
    induction d with
    | zero =>
      intro i hi
      rw [wLX10_count_4]
      refine ⟨fun _ => ?_, fun c => absurd ((leI (a := 64) rfl rfl (by omega) (by omega)).mpr (by omega)) c⟩
      have := cR_8 O 8
      rw [Nat.min_eq_right h8] at this
      rw [show i = 8 * 8 by omega, this]; exact hK
    | succ d ih =>
      intro i hi
      have e7 := hM.2.2.2.1 (i / 8) (i % 8) (by omega) (by omega)
      rw [show 8 * (i / 8) + i % 8 = i by omega] at e7
      have e7 : μ.1 7 i = bI (qB O i) := e7
      have nx := ih (i + 1) (by omega)
      rw [cR] at nx
      rw [wLX10_count_4, cl (by omega), e7]
      refine ⟨fun c => absurd ((leI (a := 64) rfl rfl (by omega) (by omega)).mp c) (by omega), fun _ => ⟨vp_in_nI (by omega) (by omega), fun c z hz z5 hz5 => ?_, fun c z hz z5 hz5 => ?_⟩⟩
      · rw [bI_eq0.mp c] at nx
        rw [hz, hz5, add1, Iz]; exact nx
      · rw [bI_ne.mp c] at nx
        rw [hz, hz5, add1, add1]; exact nx
  refine step _ ?_ 64 0 (by omega)
  refine ⟨fun c0 => ⟨fun c1 => ⟨fun c2 => ⟨fun c3 => ?_, fun c => ?_⟩, fun c => ?_⟩, fun c => ⟨in0 (by omega) (by omega), ?_⟩⟩, fun c => ⟨in0 (by omega) (by omega), ?_⟩⟩
  · rw [if_neg c0, if_neg c1, if_neg c2, if_neg c3] at hP; exact hP
  · rw [if_neg c0, if_neg c1, if_neg c2, if_pos c, ← hl] at hP; exact hP
  · rw [if_neg c0, if_neg c1, if_pos c] at hP
    rw [show (2 : Int32) = nI 2 from rfl, divI (by omega) (by omega) (by omega)]; exact hP
  · rw [if_neg c0, if_pos c, ← hM.2.1] at hP; exact hP
  · rw [if_pos c, ← hM.1] at hP; exact hP
