/-! the reference reads an item -/
theorem jn_b {F : Int32 → Prop} {z : Int32} (h : ∀ v : Int32, (¬ v = 0 ↔ (z = 0 ∨ z = 1)) → F v) : jn F (fun J2 : Int32 → Prop => (z = 0 → J2 (1 : Int32)) ∧ (¬ z = 0 → (¬ z = (1 : Int32) → J2 (0 : Int32)) ∧ (z = (1 : Int32) → J2 (1 : Int32)))) :=
  jn_in ⟨fun c => h 1 ⟨fun _ => Or.inl c, fun _ => nb0⟩, fun c => ⟨fun c2 => h 0 ⟨fun q => absurd rfl q, fun q => by rcases q with q | q; exact absurd q c; exact absurd q c2⟩, fun c2 => h 1 ⟨fun _ => Or.inr c2, fun _ => nb0⟩⟩⟩
theorem jn_c {F : Int32 → Prop} {z v p r : Int32} (h : ∀ b : Bool, (b = true ↔ ((¬ v = 0 ∧ p < (8 : Int32)) ∨ z = (2 : Int32) ∨ (z = (3 : Int32) ∧ ¬ (5 : Int32) ≤ r))) → F (bI b)) :
    jn F (fun J4 : Int32 → Prop => jn ((z = (2 : Int32) → J4 (1 : Int32)) ∧ (¬ z = (2 : Int32) → (¬ z = (3 : Int32) → J4 (0 : Int32)) ∧ (z = (3 : Int32) → vp_in (1 : Int32) 2 ∧ ((5 : Int32) ≤ r → J4 (0 : Int32)) ∧ (¬ (5 : Int32) ≤ r → J4 (1 : Int32)))))
      (fun J74 : Prop => (v = 0 → J74) ∧ (¬ v = 0 → vp_in (1 : Int32) 2 ∧ (p < (8 : Int32) → J4 (1 : Int32)) ∧ (¬ p < (8 : Int32) → J74)))) := by
  have v1 : vp_in (1 : Int32) 2 := vp_in_nI (n := 1) (by omega) (by omega)
  have tt : ((¬ v = 0 ∧ p < (8 : Int32)) ∨ z = (2 : Int32) ∨ (z = (3 : Int32) ∧ ¬ (5 : Int32) ≤ r)) → F 1 := fun g => h true ⟨fun _ => g, fun _ => rfl⟩
  have ff : ¬ ((¬ v = 0 ∧ p < (8 : Int32)) ∨ z = (2 : Int32) ∨ (z = (3 : Int32) ∧ ¬ (5 : Int32) ≤ r)) → F 0 := fun g => h false ⟨fun q => (by cases q), fun q => absurd q g⟩
  have J : ¬ (¬ v = 0 ∧ p < (8 : Int32)) → ((z = (2 : Int32) → F (1 : Int32)) ∧ (¬ z = (2 : Int32) → (¬ z = (3 : Int32) → F (0 : Int32)) ∧ (z = (3 : Int32) → vp_in (1 : Int32) 2 ∧ ((5 : Int32) ≤ r → F (0 : Int32)) ∧ (¬ (5 : Int32) ≤ r → F (1 : Int32))))) := fun g =>
    ⟨fun c => tt (Or.inr (Or.inl c)), fun c => ⟨fun c3 => ff (fun q => by
      rcases q with q | q | q
      · exact g q
      · exact c q
      · exact c3 q.1), fun c3 => ⟨v1, fun c5 => ff (fun q => by
      rcases q with q | q | q
      · exact g q
      · exact c q
      · exact q.2 c5), fun c5 => tt (Or.inr (Or.inr ⟨c3, c5⟩))⟩⟩⟩
  exact jn_in (jn_in ⟨fun c => J (fun q => q.1 c), fun c => ⟨v1, fun c8 => tt (Or.inl ⟨c, c8⟩), fun c8 => J (fun q => c8 q.2)⟩⟩)
theorem jn_d {F : Int32 → Prop} {z : Int32} (h : ∀ v : Int32, v = (if z = (1 : Int32) then (1 : Int32) else 0) → F v) : jn F (fun J54 : Int32 → Prop => (¬ z = (1 : Int32) → J54 (0 : Int32)) ∧ (z = (1 : Int32) → J54 (1 : Int32))) :=
  jn_in ⟨fun c => h 0 (if_neg c).symm, fun c => h 1 (if_pos c).symm⟩
def semS (t : Tx) (st : Nat ⊕ Nat) : Nat ⊕ Nat := match st with
  | .inl f => .inl f
  | .inr i => if tk t i = 5 then .inr (i + 1) else .inl i
theorem m_tail {μ : St} {t : Tx} {st : Nat ⊕ Nat} {P : St → Prop} (hT : txtM μ t) (hl : t.1 ≤ 300) (hS : sM μ t st) (hP : ∀ μ', frJ D1 μ μ' → sM μ' t (semS t st) → P μ') :
    jn (fun (v12 : Int32) => wX10_due μ v12 (fun (r13 : Int32) (σ14 : St) => P σ14)) (fun J11 : Int32 → Prop => (¬ (μ.1 0 15) = (6 : Int32) → J11 (0 : Int32)) ∧ ((μ.1 0 15) = (6 : Int32) → J11 (1 : Int32))) := by
  cases st with
  | inl f => exact jn_in ⟨fun _ => m_due (b := true) hT hl hS (fun i q => by cases q) (fun v μ' hf hs hv => hP μ' hf hs), fun _ => m_due (b := true) hT hl hS (fun i q => by cases q) (fun v μ' hf hs hv => hP μ' hf hs)⟩
  | inr i =>
    have kb := tk_b t i
    have sb := srt_b kb
    rw [rdM_k hS.2]
    refine jn_in ⟨fun c => ?_, fun c => ?_⟩
    · have c : ¬ tk t i = 5 := fun q => c (by rw [q]; rfl)
      refine m_due (b := false) hT hl hS (fun _ _ => rfl) (fun v μ' hf hs hv => hP μ' hf ?_)
      show sM μ' t (if tk t i = 5 then .inr (i + 1) else .inl i)
      rw [if_neg c]; exact hs
    · have c := srt_6.mp ((eqI rfl (b := 6) rfl (by omega) (by omega)).mp c)
      refine m_due (b := true) hT hl hS (fun _ _ => rfl) (fun v μ' hf hs hv => hP μ' hf ?_)
      show sM μ' t (if tk t i = 5 then .inr (i + 1) else .inl i)
      rw [if_pos c]; exact hs
theorem numS_B {t : Tx} {i lo hi : Nat} {a b : Int32} (ha : a = nI lo) (hb : b = nI hi) (h1 : lo < 1000) (h2 : hi < 1000) : numS t (.inr i) a b = if numB t i lo hi = true then .inr (i + 1) else .inl i := by
  show (if numQ t i a b = true then _ else _) = _
  rw [ha, hb, numQ_B h1 h2]
theorem DD_2 : DD 2 1 := Or.inr (Or.inl ⟨rfl, rfl⟩)
theorem DD_8 : DD 8 1 := Or.inr (Or.inr (Or.inr (Or.inr (Or.inl ⟨rfl, rfl⟩))))
theorem DD_36 {k j : Nat} (h : 3 ≤ k ∧ k ≤ 6 ∧ 8 ≤ j) : DD k j := Or.inr (Or.inr (Or.inl h))
theorem DD_7 {j : Nat} (h : 64 ≤ j) : DD 7 j := Or.inr (Or.inr (Or.inr (Or.inl ⟨rfl, h⟩)))
theorem DD_911 {k j : Nat} (h : 9 ≤ k ∧ k ≤ 11 ∧ 5 ≤ j) : DD k j := Or.inr (Or.inr (Or.inr (Or.inr (Or.inr h))))
theorem D1_k {μ μ' : St} (hf : frJ D1 μ μ') {k : Nat} (j : Nat) (h : k ≠ 0) : μ'.1 k j = μ.1 k j := hf.1 k j (fun q => h q.1)
theorem toN1 : (1 : Int32).toNatClampNeg = 1 := rfl
theorem m_half {μ7 : St} {t : Tx} {O : Orc} {n : Nat} {z1 : Int32} {P : St → Prop} (hk : oOk O) (hD : drM μ7 O) (hT : txtM μ7 t) (hl : t.1 ≤ 300) (hS : sM μ7 t (.inr n)) (h8 : oP O < 8)
    (hP : ∀ μ', frJ DD μ7 μ' → (numB t n 1 9 = false → sM μ' t (.inl n) → P μ') ∧ (numB t n 1 9 = true → numB t (n + 1) 1 9 = false → sM μ' t (.inl (n + 1)) → P μ') ∧ (numB t n 1 9 = true → numB t (n + 1) 1 9 = true → numB t (n + 2) 1 9 = false → sM μ' t (.inl (n + 2)) → P μ') ∧
      (numB t n 1 9 = true → numB t (n + 1) 1 9 = true → numB t (n + 2) 1 9 = true → ¬ tk t (n + 3) = 5 → sM μ' t (.inl (n + 3)) → P μ') ∧ (numB t n 1 9 = true → numB t (n + 1) 1 9 = true → numB t (n + 2) 1 9 = true → tk t (n + 3) = 5 → sM μ' t (.inr (n + 4)) → drM μ' (addH O (if z1 = 1 then 1 else 0) (tv t n) (tv t (n + 1)) (tv t (n + 2))) → P μ')) :
    vp_in (1 : Int32) 2 ∧ ∀ z53 : Int32, z53 = ((8 : Int32) + (μ7.1 2 (1 : Int32).toNatClampNeg)) →
    jn (fun (v55 : Int32) => vp_in z53 16 ∧ ∀ σ57 : St, σ57 = sI μ7 3 z53.toNatClampNeg v55 →
      wX10_number σ57 (1 : Int32) (9 : Int32) (fun (r58 : Int32) (σ59 : St) => vp_in z53 16 ∧ ∀ σ61 : St, σ61 = sI σ59 4 z53.toNatClampNeg r58 →
      wX10_number σ61 (1 : Int32) (9 : Int32) (fun (r62 : Int32) (σ63 : St) => vp_in z53 16 ∧ ∀ σ65 : St, σ65 = sI σ63 5 z53.toNatClampNeg r62 →
      wX10_number σ65 (1 : Int32) (9 : Int32) (fun (r66 : Int32) (σ67 : St) => vp_in z53 16 ∧ ∀ σ69 : St, σ69 = sI σ67 6 z53.toNatClampNeg r66 →
      vp_in (1 : Int32) 2 ∧ vp_in (1 : Int32) 2 ∧ ∀ σ72 : St, σ72 = sI σ69 2 (1 : Int32).toNatClampNeg ((σ69.1 2 (1 : Int32).toNatClampNeg) + (1 : Int32)) →
      jn (fun (v12 : Int32) => wX10_due σ72 v12 (fun (r13 : Int32) (σ14 : St) => P σ14)) (fun J11 : Int32 → Prop => (¬ (σ72.1 0 15) = (6 : Int32) → J11 (0 : Int32)) ∧ ((σ72.1 0 15) = (6 : Int32) → J11 (1 : Int32)))))))
      (fun J54 : Int32 → Prop => (¬ z1 = (1 : Int32) → J54 (0 : Int32)) ∧ (z1 = (1 : Int32) → J54 (1 : Int32))) := by
  have v1 : vp_in (1 : Int32) 2 := vp_in_nI (n := 1) (by omega) (by omega)
  refine ⟨v1, fun z53 hz => ?_⟩
  rw [toN1] at hz ⊢
  rw [hD.1, show (8 : Int32) = nI 8 from rfl, nI_add] at hz
  have v : vp_in z53 16 := by rw [hz]; exact vp_in_nI (by omega) (by omega)
  have hz' : z53.toNatClampNeg = 8 + oP O := by rw [hz, cl (by omega)]
  rw [hz']
  refine jn_d (fun v55 hv55 => ⟨v, fun σ57 h57 => ?_⟩)
  have F57 : frJ DD μ7 σ57 := by rw [h57]; exact frJ.rf.wr (DD_36 (by omega))
  have S57 : sM σ57 t (.inr n) := by rw [h57]; exact sM_off hS (by omega)
  refine m_number (txtM_DD hT F57) hl S57 (fun r58 σ59 f59 s59 v58 => ⟨v, fun σ61 h61 => ?_⟩)
  have F61 : frJ DD μ7 σ61 := by rw [h61]; exact (F57.tr (f59.up D1_DD)).wr (DD_36 (by omega))
  have S61 : sM σ61 t (numS t (.inr n) 1 9) := by rw [h61]; exact sM_off s59 (by omega)
  refine m_number (txtM_DD hT F61) hl S61 (fun r62 σ63 f63 s63 v62 => ⟨v, fun σ65 h65 => ?_⟩)
  have F65 : frJ DD μ7 σ65 := by rw [h65]; exact (F61.tr (f63.up D1_DD)).wr (DD_36 (by omega))
  have S65 : sM σ65 t (numS t (numS t (.inr n) 1 9) 1 9) := by rw [h65]; exact sM_off s63 (by omega)
  refine m_number (txtM_DD hT F65) hl S65 (fun r66 σ67 f67 s67 v66 => ⟨v, fun σ69 h69 => ⟨v1, v1, fun σ72 h72 => ?_⟩⟩)
  have F69 : frJ DD μ7 σ69 := by rw [h69]; exact (F65.tr (f67.up D1_DD)).wr (DD_36 (by omega))
  have F72 : frJ DD μ7 σ72 := by rw [h72]; exact F69.wr DD_2
  have S72 : sM σ72 t (numS t (numS t (numS t (.inr n) 1 9) 1 9) 1 9) := by rw [h72, h69]; exact sM_off (sM_off s67 (by omega)) (by omega)
  refine m_tail (txtM_DD hT F72) hl S72 (fun μ' f' s' => ?_)
  have F' : frJ DD μ7 μ' := F72.tr (f'.up D1_DD)
  obtain ⟨p1, p2, p3, p4, p5⟩ := hP μ' F'
  rw [numS_B (lo := 1) (hi := 9) (a := 1) (b := 9) rfl rfl (by omega) (by omega)] at s' v62 v66
  cases n1 : numB t n 1 9 with
  | false =>
    rw [if_neg (by rw [n1]; decide)] at s'
    exact p1 n1 s'
  | true =>
    rw [if_pos n1] at s' v62 v66
    rw [numS_B (lo := 1) (hi := 9) (a := 1) (b := 9) rfl rfl (by omega) (by omega)] at s' v66
    cases n2 : numB t (n + 1) 1 9 with
    | false =>
      rw [if_neg (by rw [n2]; decide)] at s'
      exact p2 n1 n2 s'
    | true =>
      rw [if_pos n2] at s' v66
      rw [numS_B (lo := 1) (hi := 9) (a := 1) (b := 9) rfl rfl (by omega) (by omega)] at s'
      cases n3 : numB t (n + 1 + 1) 1 9 with
      | false =>
        rw [if_neg (by rw [n3]; decide)] at s'
        exact p3 n1 n2 n3 s'
      | true =>
        rw [if_pos n3] at s'
        have s' : sM μ' t (if tk t (n + 3) = 5 then .inr (n + 4) else .inl (n + 3)) := s'
        by_cases s5 : tk t (n + 3) = 5
        · rw [if_pos s5] at s'
          refine p5 n1 n2 n3 s5 s' ?_
          have e58 := v58 n rfl (numB_t n1).1
          have e62 := v62 (n + 1) rfl (numB_t n2).1
          have e66 := v66 (n + 1 + 1) rfl (numB_t n3).1
          have E : ∀ k j, k ≠ 0 → μ'.1 k j = if k = 2 ∧ j = 1 then nI (oP O + 1) else if k = 6 ∧ j = 8 + oP O then nI (tv t (n + 2)) else if k = 5 ∧ j = 8 + oP O then nI (tv t (n + 1)) else if k = 4 ∧ j = 8 + oP O then nI (tv t n) else if k = 3 ∧ j = 8 + oP O then v55 else μ7.1 k j := fun k j hk => by
            have e2 : σ69.1 2 1 = nI (oP O) := by
              rw [h69, sI_ne (by omega), D1_k f67 1 (by omega), h65, sI_ne (by omega), D1_k f63 1 (by omega), h61, sI_ne (by omega), D1_k f59 1 (by omega), h57, sI_ne (by omega)]; exact hD.1
            rw [D1_k f' j hk, h72, sI_get, e2, add1, h69, sI_get, D1_k f67 j hk, h65, sI_get, D1_k f63 j hk, h61, sI_get, D1_k f59 j hk, h57, sI_get, e58, e62, e66]
          obtain ⟨d1, d2, d3, d4, d5⟩ := hD
          refine ⟨by rw [E _ _ (by omega), if_pos ⟨rfl, rfl⟩]; rfl, ?_, fun p hp => ?_, fun a b ha hb => ?_, fun u hu => ?_⟩
          · rw [E _ _ (by omega), if_neg (by omega), if_neg (by omega), if_neg (by omega), if_neg (by omega), if_neg (by omega)]; exact d2
          · have hp : p < oP O + 1 := hp
            show μ'.1 3 (8 + p) = nI (upN (oS O) (oP O) _ p) ∧ μ'.1 4 (8 + p) = nI (upN (oG O) (oP O) _ p) ∧ μ'.1 5 (8 + p) = nI (upN (oL O) (oP O) _ p) ∧ μ'.1 6 (8 + p) = nI (upN (oC O) (oP O) _ p)
            rw [updN, updN, updN, updN, E 3 _ (by omega), E 4 _ (by omega), E 5 _ (by omega), E 6 _ (by omega)]
            by_cases e : p = oP O
            · subst e
              refine ⟨?_, ?_, ?_, ?_⟩
              · rw [if_neg (by omega), if_neg (by omega), if_neg (by omega), if_neg (by omega), if_pos ⟨rfl, rfl⟩, if_pos rfl, hv55]
                split <;> rfl
              · rw [if_neg (by omega), if_neg (by omega), if_neg (by omega), if_pos ⟨rfl, rfl⟩, if_pos rfl]
              · rw [if_neg (by omega), if_neg (by omega), if_pos ⟨rfl, rfl⟩, if_pos rfl]
              · rw [if_neg (by omega), if_pos ⟨rfl, rfl⟩, if_pos rfl]
            · have A := d3 p (by omega)
              refine ⟨?_, ?_, ?_, ?_⟩ <;> rw [if_neg (by omega), if_neg (by omega), if_neg (by omega), if_neg (by omega), if_neg (by omega), if_neg e]
              · exact A.1
              · exact A.2.1
              · exact A.2.2.1
              · exact A.2.2.2
          · rw [E _ _ (by omega), if_neg (by omega), if_neg (by omega), if_neg (by omega), if_neg (by omega), if_neg (by omega), d4 a b ha hb]
            show bI (decide (a < oP O) && (oQ O a).testBit b) = bI (decide (a < oP O + 1) && (upN (oQ O) (oP O) 0 a).testBit b)
            rw [updN]
            by_cases e : a = oP O
            · rw [if_pos e, decide_eq_false (show ¬ a < oP O by omega), Nat.zero_testBit, Bool.and_false, Bool.false_and]
            · rw [if_neg e, show decide (a < oP O) = decide (a < oP O + 1) from decide_eq_decide.mpr (by omega)]
          · have B := d5 u hu
            rw [E _ _ (by omega), E _ _ (by omega), E _ _ (by omega)]
            refine ⟨?_, ?_, ?_⟩ <;> rw [if_neg (by omega), if_neg (by omega), if_neg (by omega), if_neg (by omega), if_neg (by omega)]
            · exact B.1
            · exact B.2.1
            · exact B.2.2
        · rw [if_neg s5] at s'
          exact p4 n1 n2 n3 s5 s'
