/-! the reference reads a tree, a quarrel -/
theorem m_treeI {μ7 : St} {t : Tx} {O : Orc} {n : Nat} {P : St → Prop} (hk : oOk O) (hD : drM μ7 O) (hT : txtM μ7 t) (hl : t.1 ≤ 300) (hS : sM μ7 t (.inr n)) (h5 : oT O < 5)
    (hP : ∀ μ', frJ DD μ7 μ' → (numB t n 1 9 = false → sM μ' t (.inl n) → P μ') ∧ (numB t n 1 9 = true → numB t (n + 1) 0 20 = false → sM μ' t (.inl (n + 1)) → P μ') ∧ (numB t n 1 9 = true → numB t (n + 1) 0 20 = true → numB t (n + 2) 0 99 = false → sM μ' t (.inl (n + 2)) → P μ') ∧
      (numB t n 1 9 = true → numB t (n + 1) 0 20 = true → numB t (n + 2) 0 99 = true → ¬ tk t (n + 3) = 5 → sM μ' t (.inl (n + 3)) → P μ') ∧ (numB t n 1 9 = true → numB t (n + 1) 0 20 = true → numB t (n + 2) 0 99 = true → tk t (n + 3) = 5 → sM μ' t (.inr (n + 4)) → drM μ' (addT O (tv t n) (tv t (n + 1)) (tv t (n + 2))) → P μ')) :
    vp_in (1 : Int32) 2 ∧ ∀ z19 : Int32, z19 = ((5 : Int32) + (μ7.1 8 (1 : Int32).toNatClampNeg)) →
      wX10_number μ7 (1 : Int32) (9 : Int32) (fun (r20 : Int32) (σ21 : St) => vp_in z19 10 ∧ ∀ σ23 : St, σ23 = sI σ21 9 z19.toNatClampNeg r20 →
      wX10_number σ23 (0 : Int32) (20 : Int32) (fun (r24 : Int32) (σ25 : St) => vp_in z19 10 ∧ ∀ σ27 : St, σ27 = sI σ25 10 z19.toNatClampNeg r24 →
      wX10_number σ27 (0 : Int32) (99 : Int32) (fun (r28 : Int32) (σ29 : St) => vp_in z19 10 ∧ ∀ σ31 : St, σ31 = sI σ29 11 z19.toNatClampNeg r28 →
      vp_in (1 : Int32) 2 ∧ vp_in (1 : Int32) 2 ∧ ∀ σ34 : St, σ34 = sI σ31 8 (1 : Int32).toNatClampNeg ((σ31.1 8 (1 : Int32).toNatClampNeg) + (1 : Int32)) →
      jn (fun (v12 : Int32) => wX10_due σ34 v12 (fun (r13 : Int32) (σ14 : St) => P σ14)) (fun J11 : Int32 → Prop => (¬ (σ34.1 0 15) = (6 : Int32) → J11 (0 : Int32)) ∧ ((σ34.1 0 15) = (6 : Int32) → J11 (1 : Int32)))))) := by
  have v1 : vp_in (1 : Int32) 2 := vp_in_nI (n := 1) (by omega) (by omega)
  refine ⟨v1, fun z19 hz => ?_⟩
  rw [toN1] at hz ⊢
  rw [hD.2.1, show (5 : Int32) = nI 5 from rfl, nI_add] at hz
  have v : vp_in z19 10 := by rw [hz]; exact vp_in_nI (by omega) (by omega)
  have hz' : z19.toNatClampNeg = 5 + oT O := by rw [hz, cl (by omega)]
  rw [hz']
  refine m_number hT hl hS (fun r58 σ59 f59 s59 v58 => ⟨v, fun σ61 h61 => ?_⟩)
  have F61 : frJ DD μ7 σ61 := by rw [h61]; exact (f59.up D1_DD).wr (DD_911 (by omega))
  have S61 : sM σ61 t (numS t (.inr n) 1 9) := by rw [h61]; exact sM_off s59 (by omega)
  refine m_number (txtM_DD hT F61) hl S61 (fun r62 σ63 f63 s63 v62 => ⟨v, fun σ65 h65 => ?_⟩)
  have F65 : frJ DD μ7 σ65 := by rw [h65]; exact (F61.tr (f63.up D1_DD)).wr (DD_911 (by omega))
  have S65 : sM σ65 t (numS t (numS t (.inr n) 1 9) 0 20) := by rw [h65]; exact sM_off s63 (by omega)
  refine m_number (txtM_DD hT F65) hl S65 (fun r66 σ67 f67 s67 v66 => ⟨v, fun σ69 h69 => ⟨v1, v1, fun σ72 h72 => ?_⟩⟩)
  have F69 : frJ DD μ7 σ69 := by rw [h69]; exact (F65.tr (f67.up D1_DD)).wr (DD_911 (by omega))
  have F72 : frJ DD μ7 σ72 := by rw [h72]; exact F69.wr DD_8
  have S72 : sM σ72 t (numS t (numS t (numS t (.inr n) 1 9) 0 20) 0 99) := by rw [h72, h69]; exact sM_off (sM_off s67 (by omega)) (by omega)
  refine m_tail (txtM_DD hT F72) hl S72 (fun μ' f' s' => ?_)
  have F' : frJ DD μ7 μ' := F72.tr (f'.up D1_DD)
  obtain ⟨p1, p2, p3, p4, p5⟩ := hP μ' F'
  rw [numS_B (lo := 1) (hi := 9) (a := 1) (b := 9) rfl rfl (by omega) (by omega)] at s' v62 v66
  cases n1 : numB t n 1 9 with
  | false =>
    rw [if_neg (by rw [n1]; decide)] at s'
    exact p1 n1 s'
  | true =>
    rw [if_pos n1] at s' v62 v66
    rw [numS_B (lo := 0) (hi := 20) (a := 0) (b := 20) rfl rfl (by omega) (by omega)] at s' v66
    cases n2 : numB t (n + 1) 0 20 with
    | false =>
      rw [if_neg (by rw [n2]; decide)] at s'
      exact p2 n1 n2 s'
    | true =>
      rw [if_pos n2] at s' v66
      rw [numS_B (lo := 0) (hi := 99) (a := 0) (b := 99) rfl rfl (by omega) (by omega)] at s'
      cases n3 : numB t (n + 1 + 1) 0 99 with
      | false =>
        rw [if_neg (by rw [n3]; decide)] at s'
        exact p3 n1 n2 n3 s'
      | true =>
        rw [if_pos n3] at s'
        have s' : sM μ' t (if tk t (n + 3) = 5 then .inr (n + 4) else .inl (n + 3)) := s'
        by_cases s5 : tk t (n + 3) = 5
        · rw [if_pos s5] at s'
          refine p5 n1 n2 n3 s5 s' ?_
          have e58 := v58 n rfl (numB_t n1).1
          have e62 := v62 (n + 1) rfl (numB_t n2).1
          have e66 := v66 (n + 1 + 1) rfl (numB_t n3).1
          have E : ∀ k j, k ≠ 0 → μ'.1 k j = if k = 8 ∧ j = 1 then nI (oT O + 1) else if k = 11 ∧ j = 5 + oT O then nI (tv t (n + 2)) else if k = 10 ∧ j = 5 + oT O then nI (tv t (n + 1)) else if k = 9 ∧ j = 5 + oT O then nI (tv t n) else μ7.1 k j := fun k j hk => by
            have e2 : σ69.1 8 1 = nI (oT O) := by
              rw [h69, sI_ne (by omega), D1_k f67 1 (by omega), h65, sI_ne (by omega), D1_k f63 1 (by omega), h61, sI_ne (by omega), D1_k f59 1 (by omega)]; exact hD.2.1
            rw [D1_k f' j hk, h72, sI_get, e2, add1, h69, sI_get, D1_k f67 j hk, h65, sI_get, D1_k f63 j hk, h61, sI_get, D1_k f59 j hk, e58, e62, e66]
          obtain ⟨d1, d2, d3, d4, d5⟩ := hD
          refine ⟨?_, by rw [E _ _ (by omega), if_pos ⟨rfl, rfl⟩]; rfl, fun p hp => ?_, fun a b ha hb => ?_, fun u hu => ?_⟩
          · rw [E _ _ (by omega), if_neg (by omega), if_neg (by omega), if_neg (by omega), if_neg (by omega)]; exact d1
          · have A := d3 p hp
            rw [E 3 _ (by omega), E 4 _ (by omega), E 5 _ (by omega), E 6 _ (by omega)]
            refine ⟨?_, ?_, ?_, ?_⟩ <;> rw [if_neg (by omega), if_neg (by omega), if_neg (by omega), if_neg (by omega)]
            · exact A.1
            · exact A.2.1
            · exact A.2.2.1
            · exact A.2.2.2
          · rw [E _ _ (by omega), if_neg (by omega), if_neg (by omega), if_neg (by omega), if_neg (by omega)]
            exact d4 a b ha hb
          · have hu : u < oT O + 1 := hu
            show μ'.1 9 (5 + u) = nI (upN (oH O) (oT O) _ u) ∧ μ'.1 10 (5 + u) = nI (upN (oR O) (oT O) _ u) ∧ μ'.1 11 (5 + u) = nI (upN (oB O) (oT O) _ u)
            rw [updN, updN, updN, E 9 _ (by omega), E 10 _ (by omega), E 11 _ (by omega)]
            by_cases e : u = oT O
            · subst e
              refine ⟨?_, ?_, ?_⟩
              · rw [if_neg (by omega), if_neg (by omega), if_neg (by omega), if_pos ⟨rfl, rfl⟩, if_pos rfl]
              · rw [if_neg (by omega), if_neg (by omega), if_pos ⟨rfl, rfl⟩, if_pos rfl]
              · rw [if_neg (by omega), if_pos ⟨rfl, rfl⟩, if_pos rfl]
            · have B := d5 u (by omega)
              refine ⟨?_, ?_, ?_⟩ <;> rw [if_neg (by omega), if_neg (by omega), if_neg (by omega), if_neg (by omega), if_neg e]
              · exact B.1
              · exact B.2.1
              · exact B.2.2
        · rw [if_neg s5] at s'
          exact p4 n1 n2 n3 s5 s'
theorem addQ_bit (O : Orc) {a b : Nat} (hab : a ≠ b) (u v : Nat) : (oQ (addQ O a b) u).testBit v = ((oQ O u).testBit v || (decide (u = a) && decide (v = b)) || (decide (u = b) && decide (v = a))) := by
  show (if u = a then oQ O a ||| 2 ^ b else if u = b then oQ O b ||| 2 ^ a else oQ O u).testBit v = _
  by_cases e1 : u = a
  · subst e1
    rw [if_pos rfl, Nat.testBit_or, bitset]
    have : ¬ u = b := hab
    by_cases e2 : b = v
    · simp [e2]
    · simp [e2, this, Ne.symm e2]
  · rw [if_neg e1]
    by_cases e3 : u = b
    · subst e3
      rw [if_pos rfl, Nat.testBit_or, bitset]
      by_cases e2 : a = v
      · simp [e2]
      · simp [e1, e2, Ne.symm e2]
    · rw [if_neg e3]; simp [e1, e3]
/-- the second number of a quarrel -/
def quaB (t : Tx) (O : Orc) (n : Nat) : Bool := numB t (n + 1) 0 (oP O - 1) && decide (tv t (n + 1) ≠ tv t n)
theorem m_quar {μ7 : St} {t : Tx} {O : Orc} {n : Nat} {P : St → Prop} (hk : oOk O) (hD : drM μ7 O) (hT : txtM μ7 t) (hl : t.1 ≤ 300) (hS : sM μ7 t (.inr n))
    (hP : ∀ μ', frJ DD μ7 μ' → ((numB t n 0 (oP O - 1) && decide (0 < oP O)) = false → sM μ' t (.inl n) → P μ') ∧ ((numB t n 0 (oP O - 1) && decide (0 < oP O)) = true → quaB t O n = false → sM μ' t (.inl (n + 1)) → P μ') ∧
      ((numB t n 0 (oP O - 1) && decide (0 < oP O)) = true → quaB t O n = true → ¬ tk t (n + 2) = 5 → sM μ' t (.inl (n + 2)) → P μ') ∧ ((numB t n 0 (oP O - 1) && decide (0 < oP O)) = true → quaB t O n = true → tk t (n + 2) = 5 → sM μ' t (.inr (n + 3)) → drM μ' (addQ O (tv t n) (tv t (n + 1))) → P μ')) :
    vp_in (1 : Int32) 2 ∧ wX10_number μ7 (0 : Int32) ((μ7.1 2 (1 : Int32).toNatClampNeg) - (1 : Int32)) (fun (r36 : Int32) (σ37 : St) =>
      jn (fun (v39 : Int32) => wX10_due σ37 v39 (fun (r40 : Int32) (σ41 : St) =>
        (¬ (σ41.1 0 17) = (-9 : Int32) → jn (fun (v12 : Int32) => wX10_due σ41 v12 (fun (r13 : Int32) (σ14 : St) => P σ14)) (fun J11 : Int32 → Prop => (¬ (σ41.1 0 15) = (6 : Int32) → J11 (0 : Int32)) ∧ ((σ41.1 0 15) = (6 : Int32) → J11 (1 : Int32)))) ∧
        ((σ41.1 0 17) = (-9 : Int32) → vp_in (((64 : Int32) + ((8 : Int32) * r36)) + r40) 128 ∧ ∀ σ44 : St, σ44 = sI σ41 7 (((64 : Int32) + ((8 : Int32) * r36)) + r40).toNatClampNeg (vp_nar .boolean (1 : Int32)) →
          vp_in (((64 : Int32) + ((8 : Int32) * r40)) + r36) 128 ∧ ∀ σ46 : St, σ46 = sI σ44 7 (((64 : Int32) + ((8 : Int32) * r40)) + r36).toNatClampNeg (vp_nar .boolean (1 : Int32)) →
          jn (fun (v12 : Int32) => wX10_due σ46 v12 (fun (r13 : Int32) (σ14 : St) => P σ14)) (fun J11 : Int32 → Prop => (¬ (σ46.1 0 15) = (6 : Int32) → J11 (0 : Int32)) ∧ ((σ46.1 0 15) = (6 : Int32) → J11 (1 : Int32))))))
      (fun J38 : Int32 → Prop => (¬ (σ37.1 0 15) = (5 : Int32) → J38 (0 : Int32)) ∧ ((σ37.1 0 15) = (5 : Int32) → vp_in (1 : Int32) 2 ∧
        wX10_in σ37 (σ37.1 0 16) (0 : Int32) ((σ37.1 2 (1 : Int32).toNatClampNeg) - (1 : Int32)) (fun r49 : Int32 => (r49 = 0 → J38 (0 : Int32)) ∧ (¬ r49 = 0 → ((σ37.1 0 16) = r36 → J38 (0 : Int32)) ∧ (¬ (σ37.1 0 16) = r36 → J38 (1 : Int32))))))) := by
  have v1 : vp_in (1 : Int32) 2 := vp_in_nI (n := 1) (by omega) (by omega)
  have h8 := hk.1
  refine ⟨v1, ?_⟩
  rw [toN1, hD.1]
  refine m_number hT hl hS (fun r36 σ37 f37 s37 v36 => ?_)
  have D37 := drM_fr hD f37 D1_lo
  have T37 := txtM_DD hT (f37.up D1_DD)
  rw [D37.1]
  have s37 : sM σ37 t (if numQ t n (0 : Int32) (nI (oP O) - (1 : Int32)) = true then .inr (n + 1) else .inl n) := s37
  rw [numQ_P (by omega)] at s37
  cases n1 : (numB t n 0 (oP O - 1) && decide (0 < oP O)) with
  | false =>
    rw [if_neg (by rw [n1]; decide)] at s37
    have go : ∀ v39 : Int32, wX10_due σ37 v39 (fun (r40 : Int32) (σ41 : St) =>
        (¬ (σ41.1 0 17) = (-9 : Int32) → jn (fun (v12 : Int32) => wX10_due σ41 v12 (fun (r13 : Int32) (σ14 : St) => P σ14)) (fun J11 : Int32 → Prop => (¬ (σ41.1 0 15) = (6 : Int32) → J11 (0 : Int32)) ∧ ((σ41.1 0 15) = (6 : Int32) → J11 (1 : Int32)))) ∧
        ((σ41.1 0 17) = (-9 : Int32) → vp_in (((64 : Int32) + ((8 : Int32) * r36)) + r40) 128 ∧ ∀ σ44 : St, σ44 = sI σ41 7 (((64 : Int32) + ((8 : Int32) * r36)) + r40).toNatClampNeg (vp_nar .boolean (1 : Int32)) →
          vp_in (((64 : Int32) + ((8 : Int32) * r40)) + r36) 128 ∧ ∀ σ46 : St, σ46 = sI σ44 7 (((64 : Int32) + ((8 : Int32) * r40)) + r36).toNatClampNeg (vp_nar .boolean (1 : Int32)) →
          jn (fun (v12 : Int32) => wX10_due σ46 v12 (fun (r13 : Int32) (σ14 : St) => P σ14)) (fun J11 : Int32 → Prop => (¬ (σ46.1 0 15) = (6 : Int32) → J11 (0 : Int32)) ∧ ((σ46.1 0 15) = (6 : Int32) → J11 (1 : Int32))))) := fun v39 => by
      refine m_due (b := true) T37 hl s37 (fun i q => by cases q) (fun r40 σ41 f41 s41 _ => ⟨fun _ => ?_, fun c => ?_⟩)
      · refine m_tail (txtM_DD T37 (f41.up D1_DD)) hl s41 (fun μ' f' s' => ?_)
        exact (hP μ' ((f37.tr (f41.tr f')).up D1_DD)).1 n1 s'
      · have s41 : σ41.1 0 17 = nI (tp t n) := s41
        rw [s41] at c
        exact absurd c (not9 (tp_300 hl n))
    exact jn_in ⟨fun _ => go _, fun _ => ⟨v1, m_in (br_b (fun _ => go _) (fun _ => ⟨fun _ => go _, fun _ => go _⟩))⟩⟩
  | true =>
    rw [if_pos n1] at s37
    have n1' := n1
    rw [Bool.and_eq_true, decide_eq_true_eq] at n1'
    obtain ⟨t1, a1, a2⟩ := numB_t n1'.1
    have e36 := v36 n rfl t1
    have kb := tk_b t (n + 1)
    have sb := srt_b kb
    have go : ∀ v39 : Int32, v39 = bI (quaB t O n) → wX10_due σ37 v39 (fun (r40 : Int32) (σ41 : St) =>
        (¬ (σ41.1 0 17) = (-9 : Int32) → jn (fun (v12 : Int32) => wX10_due σ41 v12 (fun (r13 : Int32) (σ14 : St) => P σ14)) (fun J11 : Int32 → Prop => (¬ (σ41.1 0 15) = (6 : Int32) → J11 (0 : Int32)) ∧ ((σ41.1 0 15) = (6 : Int32) → J11 (1 : Int32)))) ∧
        ((σ41.1 0 17) = (-9 : Int32) → vp_in (((64 : Int32) + ((8 : Int32) * r36)) + r40) 128 ∧ ∀ σ44 : St, σ44 = sI σ41 7 (((64 : Int32) + ((8 : Int32) * r36)) + r40).toNatClampNeg (vp_nar .boolean (1 : Int32)) →
          vp_in (((64 : Int32) + ((8 : Int32) * r40)) + r36) 128 ∧ ∀ σ46 : St, σ46 = sI σ44 7 (((64 : Int32) + ((8 : Int32) * r40)) + r36).toNatClampNeg (vp_nar .boolean (1 : Int32)) →
          jn (fun (v12 : Int32) => wX10_due σ46 v12 (fun (r13 : Int32) (σ14 : St) => P σ14)) (fun J11 : Int32 → Prop => (¬ (σ46.1 0 15) = (6 : Int32) → J11 (0 : Int32)) ∧ ((σ46.1 0 15) = (6 : Int32) → J11 (1 : Int32))))) := fun v39 hv => by
      refine m_due (b := quaB t O n) T37 hl s37 (fun i q => hv) (fun r40 σ41 f41 s41 v40 => ?_)
      have T41 := txtM_DD T37 (f41.up D1_DD)
      cases q : quaB t O n with
      | false =>
        rw [q] at s41
        have s41' : σ41.1 0 17 = nI (tp t (n + 1)) := s41
        refine ⟨fun _ => m_tail T41 hl s41 (fun μ' f' s' => (hP μ' ((f37.tr (f41.tr f')).up D1_DD)).2.1 n1 q s'), fun c => ?_⟩
        rw [s41'] at c
        exact absurd c (not9 (tp_300 hl _))
      | true =>
        rw [q] at s41
        have s41 : sM σ41 t (.inr (n + 2)) := s41
        refine ⟨fun c => absurd s41.1 c, fun _ => ?_⟩
        have q' := q
        unfold quaB at q'
        rw [Bool.and_eq_true, decide_eq_true_eq] at q'
        obtain ⟨t2, b1, b2⟩ := numB_t q'.1
        have e40 : r40 = nI (tv t (n + 1)) := by rw [v40 (n + 1) rfl]; exact s37.2.2.2.2 t2
        have ne := q'.2
        generalize ea : tv t n = a at *
        generalize eb : tv t (n + 1) = b at *
        have A : ((64 : Int32) + ((8 : Int32) * r36)) + r40 = nI (64 + 8 * a + b) := by rw [e36, e40, show (64 : Int32) = nI 64 from rfl, show (8 : Int32) = nI 8 from rfl, pk_mul, nI_add, nI_add]
        have B : ((64 : Int32) + ((8 : Int32) * r40)) + r36 = nI (64 + 8 * b + a) := by rw [e36, e40, show (64 : Int32) = nI 64 from rfl, show (8 : Int32) = nI 8 from rfl, pk_mul, nI_add, nI_add]
        rw [A, B, cl (n := 64 + 8 * a + b) (by omega), cl (n := 64 + 8 * b + a) (by omega), nar1]
        refine ⟨vp_in_nI (by omega) (by omega), fun σ44 h44 => ⟨vp_in_nI (by omega) (by omega), fun σ46 h46 => ?_⟩⟩
        have F46 : frJ DD μ7 σ46 := by rw [h46, h44]; exact (((f37.tr f41).up D1_DD).wr (DD_7 (by omega))).wr (DD_7 (by omega))
        have S46 : sM σ46 t (.inr (n + 2)) := by rw [h46, h44]; exact sM_off (sM_off s41 (by omega)) (by omega)
        refine m_tail (txtM_DD hT F46) hl S46 (fun μ' f' s' => ?_)
        obtain ⟨-, -, p3, p4⟩ := hP μ' (F46.tr (f'.up D1_DD))
        have s' : sM μ' t (if tk t (n + 2) = 5 then .inr (n + 3) else .inl (n + 2)) := s'
        by_cases s5 : tk t (n + 2) = 5
        · rw [if_pos s5] at s'
          refine p4 n1 q s5 s' ?_
          have E : ∀ k j, k ≠ 0 → μ'.1 k j = if k = 7 ∧ j = 64 + 8 * b + a then bI true else if k = 7 ∧ j = 64 + 8 * a + b then bI true else μ7.1 k j := fun k j hk => by
            rw [D1_k f' j hk, h46, sI_get, h44, sI_get, D1_k f41 j hk, D1_k f37 j hk]
          obtain ⟨d1, d2, d3, d4, d5⟩ := hD
          refine ⟨by rw [E _ _ (by omega), if_neg (by omega), if_neg (by omega)]; exact d1, by rw [E _ _ (by omega), if_neg (by omega), if_neg (by omega)]; exact d2, fun p hp => ?_, fun x y hx hy => ?_, fun u hu => ?_⟩
          · have A := d3 p hp
            rw [E 3 _ (by omega), E 4 _ (by omega), E 5 _ (by omega), E 6 _ (by omega)]
            refine ⟨?_, ?_, ?_, ?_⟩ <;> rw [if_neg (by omega), if_neg (by omega)]
            · exact A.1
            · exact A.2.1
            · exact A.2.2.1
            · exact A.2.2.2
          · rw [E _ _ (by omega), addQ_bit O (fun h => ne h.symm), d4 x y hx hy]
            show _ = bI (decide (x < oP O) && ((oQ O x).testBit y || (decide (x = a) && decide (y = b)) || (decide (x = b) && decide (y = a))))
            by_cases c1 : x = b ∧ y = a
            · obtain ⟨rfl, rfl⟩ := c1
              rw [if_pos ⟨rfl, by omega⟩, decide_eq_true (show x < oP O by omega)]; simp
            · rw [if_neg (by omega)]
              by_cases c2 : x = a ∧ y = b
              · obtain ⟨rfl, rfl⟩ := c2
                rw [if_pos ⟨rfl, by omega⟩, decide_eq_true (show x < oP O by omega)]; simp
              · rw [if_neg (by omega), show (decide (x = a) && decide (y = b)) = false by simp; omega, show (decide (x = b) && decide (y = a)) = false by simp; omega, Bool.or_false, Bool.or_false]
          · have B := d5 u hu
            rw [E 9 _ (by omega), E 10 _ (by omega), E 11 _ (by omega)]
            refine ⟨?_, ?_, ?_⟩ <;> rw [if_neg (by omega), if_neg (by omega)]
            · exact B.1
            · exact B.2.1
            · exact B.2.2
        · rw [if_neg s5] at s'
          exact p3 n1 q s5 s'
    rw [rdM_k s37.2]
    refine jn_in ⟨fun c => go _ ?_, fun c => ?_⟩
    · have c : ¬ tk t (n + 1) = 4 := fun q => c (by rw [q]; rfl)
      unfold quaB numB
      rw [decide_eq_false c, Bool.false_and, Bool.false_and]; rfl
    · have c := srt_5.mp ((eqI rfl (b := 5) rfl (by omega) (by omega)).mp c)
      have vb := tv_b t _ c
      have vb0 := tv_b t _ t1
      have e16 : σ37.1 0 16 = nI (tv t (n + 1)) := s37.2.2.2.2 c
      rw [e16]
      refine ⟨v1, m_inR (by omega) ?_⟩
      rw [inR_nI (by omega)]
      have qq : quaB t O n = (decide (tv t (n + 1) < oP O) && decide (tv t (n + 1) ≠ tv t n)) := by
        unfold quaB numB
        rw [decide_eq_true c, Bool.true_and, show decide (0 ≤ tv t (n + 1)) = true from decide_eq_true (by omega), Bool.true_and, show decide (tv t (n + 1) ≤ oP O - 1) = decide (tv t (n + 1) < oP O) from decide_eq_decide.mpr (by omega)]
      refine br_b (fun e => go _ ?_) (fun e => ⟨fun c => go _ ?_, fun c => go _ ?_⟩)
      · rw [qq, e, Bool.false_and]; rfl
      · rw [e36] at c
        have c := (nI_eq (by omega) (by omega)).mp c
        rw [qq, show decide (tv t (n + 1) ≠ tv t n) = false from decide_eq_false (fun q => q c), Bool.and_false]; rfl
      · have c : ¬ tv t (n + 1) = tv t n := fun q => c (by rw [q, e36])
        rw [qq, e, decide_eq_true c]; rfl
theorem m_readItem {μ : St} {t : Tx} {O : Orc} {i : Nat} {P : St → Prop} (hk : oOk O) (hD : drM μ O) (hT : txtM μ t) (hl : t.1 ≤ 300) (hS : sM μ t (.inr i)) (hP : imF μ t P (rdI t O i)) : wX10_readItem μ P := by
  have h8 := hk.1
  have h5 := hk.2.1
  have kb := tk_b t i
  have sb := srt_b kb
  have v1 : vp_in (1 : Int32) 2 := vp_in_nI (n := 1) (by omega) (by omega)
  unfold wX10_readItem
  intro z1 hz
  rw [rdM_k hS.2] at hz
  have z0 : z1 = 0 ↔ tk t i = 0 := (eqI hz (b := 0) rfl (by omega) (by omega)).trans (srt_lo3 (by omega))
  have z1' : z1 = 1 ↔ tk t i = 1 := (eqI hz (b := 1) rfl (by omega) (by omega)).trans (srt_lo3 (by omega))
  have z2 : z1 = 2 ↔ tk t i = 2 := (eqI hz (b := 2) rfl (by omega) (by omega)).trans (srt_lo3 (by omega))
  have z3 : z1 = 3 ↔ tk t i = 3 := (eqI hz (b := 3) rfl (by omega) (by omega)).trans (srt_lo3 (by omega))
  refine jn_b (fun v3 hv3 => jn_c (fun b hb => ?_))
  rw [z0, z1'] at hv3
  rw [toN1, hD.1, hD.2.1, z2, z3, hv3, show (nI (oP O) < (8 : Int32)) ↔ oP O < 8 from ltI rfl (b := 8) rfl (by omega) (by omega), show ((5 : Int32) ≤ nI (oT O)) ↔ 5 ≤ oT O from leI (a := 5) rfl rfl (by omega) (by omega)] at hb
  refine m_due (b := b) hT hl hS (fun _ _ => rfl) (fun v6 μ7 f7 s7 hv6 => ?_)
  have D7 := drM_fr hD f7 D1_lo
  have T7 := txtM_DD hT (f7.up D1_DD)
  cases b with
  | false =>
    have s7 : sM μ7 t (.inl i) := s7
    have e7 : μ7.1 0 17 = nI (tp t i) := s7
    refine ⟨fun c => absurd c (by rw [e7]; exact not9 (tp_300 hl i)), fun _ => ?_⟩
    have hb : ¬ (((tk t i = 0 ∨ tk t i = 1) ∧ oP O < 8) ∨ tk t i = 2 ∨ (tk t i = 3 ∧ ¬ 5 ≤ oT O)) := fun q => by cases hb.mpr q
    have ei : rdI t O i = .inl i := by
      unfold rdI
      by_cases c : tk t i = 0 ∨ tk t i = 1
      · rw [if_pos c, if_pos (by omega)]
      · rw [if_neg c, if_neg (by omega)]
        by_cases c3 : tk t i = 3
        · rw [if_pos c3, if_pos (by omega)]
        · rw [if_neg c3]
    rw [ei] at hP
    exact hP μ7 (f7.up D1_DD) s7
  | true =>
    have s7 : sM μ7 t (.inr (i + 1)) := s7
    have hb := hb.mp rfl
    have U : ∀ {μ' : St}, frJ DD μ7 μ' → frJ DD μ μ' := fun h => (f7.up D1_DD).tr h
    refine ⟨fun _ => jn_in ⟨fun c3 => ⟨fun c2 => ?_, fun c2 => ?_⟩, fun c3 => ?_⟩, fun c => absurd s7.1 c⟩
    · have nh : ¬ (tk t i = 0 ∨ tk t i = 1) := fun q => (hv3.mpr q) c3
      have c2 : ¬ tk t i = 2 := fun q => c2 (z2.mpr q)
      unfold rdI at hP
      rw [if_neg nh, if_neg c2, if_pos (by omega), if_neg (by omega)] at hP
      refine m_treeI hk D7 T7 hl s7 (by omega) (fun μ' F => ⟨fun n1 s => ?_, fun n1 n2 s => ?_, fun n1 n2 n3 s => ?_, fun n1 n2 n3 s5 s => ?_, fun n1 n2 n3 s5 s d => ?_⟩)
      · rw [if_pos n1] at hP; exact hP μ' (U F) s
      · rw [if_neg (by rw [n1]; decide), if_pos n2] at hP; exact hP μ' (U F) s
      · rw [if_neg (by rw [n1]; decide), if_neg (by rw [n2]; decide), if_pos n3] at hP; exact hP μ' (U F) s
      · rw [if_neg (by rw [n1]; decide), if_neg (by rw [n2]; decide), if_neg (by rw [n3]; decide), if_pos s5] at hP; exact hP μ' (U F) s
      · rw [if_neg (by rw [n1]; decide), if_neg (by rw [n2]; decide), if_neg (by rw [n3]; decide), if_neg (fun q => q s5)] at hP; exact hP μ' (U F) s d
    · have c2 := z2.mp c2
      unfold rdI at hP
      rw [if_neg (by omega), if_pos c2] at hP
      refine m_quar hk D7 T7 hl s7 (fun μ' F => ⟨fun n1 s => ?_, fun n1 n2 s => ?_, fun n1 n2 s5 s => ?_, fun n1 n2 s5 s d => ?_⟩)
      · rw [if_pos n1] at hP; exact hP μ' (U F) s
      · have n2 : (numB t (i + 2) 0 (oP O - 1) && decide (tv t (i + 2) ≠ tv t (i + 1))) = false := n2
        rw [if_neg (by rw [n1]; decide), if_pos n2] at hP; exact hP μ' (U F) s
      · have n2 : (numB t (i + 2) 0 (oP O - 1) && decide (tv t (i + 2) ≠ tv t (i + 1))) = true := n2
        rw [if_neg (by rw [n1]; decide), if_neg (by rw [n2]; decide), if_pos s5] at hP; exact hP μ' (U F) s
      · have n2 : (numB t (i + 2) 0 (oP O - 1) && decide (tv t (i + 2) ≠ tv t (i + 1))) = true := n2
        rw [if_neg (by rw [n1]; decide), if_neg (by rw [n2]; decide), if_neg (fun q => q s5)] at hP; exact hP μ' (U F) s d
    · have c3 := hv3.mp c3
      unfold rdI at hP
      rw [if_pos c3, if_neg (by omega)] at hP
      refine m_half hk D7 T7 hl s7 (by omega) (fun μ' F => ⟨fun n1 s => ?_, fun n1 n2 s => ?_, fun n1 n2 n3 s => ?_, fun n1 n2 n3 s5 s => ?_, fun n1 n2 n3 s5 s d => ?_⟩)
      · rw [if_pos n1] at hP; exact hP μ' (U F) s
      · rw [if_neg (by rw [n1]; decide), if_pos n2] at hP; exact hP μ' (U F) s
      · rw [if_neg (by rw [n1]; decide), if_neg (by rw [n2]; decide), if_pos n3] at hP; exact hP μ' (U F) s
      · rw [if_neg (by rw [n1]; decide), if_neg (by rw [n2]; decide), if_neg (by rw [n3]; decide), if_pos s5] at hP; exact hP μ' (U F) s
      · rw [if_neg (by rw [n1]; decide), if_neg (by rw [n2]; decide), if_neg (by rw [n3]; decide), if_neg (fun q => q s5)] at hP
        have es : (if z1 = 1 then 1 else 0) = tk t i := by
          by_cases c : tk t i = 1
          · rw [if_pos (z1'.mpr c), c]
          · rw [if_neg (fun q => c (z1'.mp q))]; omega
        rw [es] at d
        exact hP μ' (U F) s d
