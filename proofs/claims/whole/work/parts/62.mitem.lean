/-! the reference's items -/
def rdM (μ : St) (t : Tx) (i : Nat) : Prop := rdP μ t (tp t i)
theorem rdM_k {μ : St} {t : Tx} {i : Nat} (h : rdM μ t i) : μ.1 0 15 = nI (srt (tk t i)) := h.2.2.1
/-- where the reading stands: failed at a token, or ahead of one -/
def sM (μ : St) (t : Tx) (st : Nat ⊕ Nat) : Prop := match st with
  | .inl f => μ.1 0 17 = nI (tp t f)
  | .inr i => μ.1 0 17 = (-9 : Int32) ∧ rdM μ t i
theorem tp_300 {t : Tx} (hl : t.1 ≤ 300) (i : Nat) : tp t i ≤ 300 := by have := (tp_b t i).1; omega
theorem not9 {n : Nat} (h : n ≤ 300) : ¬ nI n = (-9 : Int32) := by
  have H : ∀ n : Fin 301, ¬ nI n.val = (-9 : Int32) := by decide +kernel
  exact H ⟨n, by omega⟩
def D1 (k j : Nat) : Prop := k = 0 ∧ 13 ≤ j ∧ j ≤ 17
theorem D0_D1 (k j : Nat) (h : D0 k j) : D1 k j := ⟨h.1, h.2.1, by have := h.2.2; omega⟩
def dueS (st : Nat ⊕ Nat) (b : Bool) : Nat ⊕ Nat := match st with
  | .inl f => .inl f
  | .inr i => if b then .inr (i + 1) else .inl i
theorem m_due {μ : St} {t : Tx} {st : Nat ⊕ Nat} {a : Int32} {b : Bool} {P : Int32 → St → Prop} (hT : txtM μ t) (hl : t.1 ≤ 300) (hS : sM μ t st) (hb : ∀ i, st = .inr i → a = bI b)
    (hP : ∀ v μ', frJ D1 μ μ' → sM μ' t (dueS st b) → (∀ i, st = .inr i → v = μ.1 0 16) → P v μ') : wX10_due μ a P := by
  unfold wX10_due
  intro z1 hz
  cases st with
  | inl f =>
    have h17 : μ.1 0 17 = nI (tp t f) := hS
    rw [h17]
    exact ⟨fun _ => hP z1 μ frJ.rf hS (fun i q => by cases q), fun c => absurd c (not9 (tp_300 hl f))⟩
  | inr i =>
    obtain ⟨h17, h14, h13, h15, h16⟩ := hS
    rw [h17]
    refine ⟨fun c => absurd rfl c, fun _ => ?_⟩
    have ha := hb i rfl
    rw [ha]
    refine br_b (fun e μ4 h4 => ?_) (fun e => ?_)
    · rw [h14] at h4
      refine hP z1 μ4 (by rw [h4]; exact frJ.rf.wr ⟨rfl, by omega, by omega⟩) ?_ (fun _ _ => hz)
      rw [e]
      show μ4.1 0 17 = nI (tp t i)
      rw [h4, sI_at]
    · have ab : afP t (tp t i) ≤ t.1 := by
        unfold afP
        split
        · rename_i c; exact (tokE_b t c).2
        · exact Nat.le_refl _
      refine m_next hT hl ab h13 (fun μ5 f5 r5 => hP z1 μ5 (f5.up D0_D1) ?_ (fun _ _ => hz))
      rw [e]
      exact ⟨by rw [f5.1 0 17 (fun q => by have := q.2.2; omega)]; exact h17, r5⟩
def numQ (t : Tx) (i : Nat) (lo hi : Int32) : Bool := decide (tk t i = 4) && (decide (lo.toInt ≤ (tv t i : Int)) && decide ((tv t i : Int) ≤ hi.toInt))
theorem numQ_B {t : Tx} {i lo hi : Nat} (h1 : lo < 1000) (h2 : hi < 1000) : numQ t i (nI lo) (nI hi) = numB t i lo hi := by
  unfold numQ numB
  rw [toI (by omega), toI (by omega), show decide ((lo : Int) ≤ (tv t i : Int)) = decide (lo ≤ tv t i) from decide_eq_decide.mpr (by omega), show decide ((tv t i : Int) ≤ (hi : Int)) = decide (tv t i ≤ hi) from decide_eq_decide.mpr (by omega)]
theorem numQ_P {t : Tx} {i n : Nat} (h : n < 2 ^ 31) : numQ t i (0 : Int32) (nI n - (1 : Int32)) = (numB t i 0 (n - 1) && decide (0 < n)) := by
  rw [← numZ_P h]
  unfold numQ numZ
  rw [show decide ((0 : Int32).toInt ≤ (tv t i : Int)) = decide (0 ≤ tv t i) from decide_eq_decide.mpr (by rw [show (0 : Int32).toInt = 0 from rfl]; omega)]
def numS (t : Tx) (st : Nat ⊕ Nat) (lo hi : Int32) : Nat ⊕ Nat := match st with
  | .inl f => .inl f
  | .inr i => if numQ t i lo hi then .inr (i + 1) else .inl i
theorem m_number {μ : St} {t : Tx} {st : Nat ⊕ Nat} {lo hi : Int32} {P : Int32 → St → Prop} (hT : txtM μ t) (hl : t.1 ≤ 300) (hS : sM μ t st)
    (hP : ∀ v μ', frJ D1 μ μ' → sM μ' t (numS t st lo hi) → (∀ i, st = .inr i → tk t i = 4 → v = nI (tv t i)) → P v μ') : wX10_number μ lo hi P := by
  unfold wX10_number
  have go : ∀ v : Int32, (∀ i, st = .inr i → v = bI (numQ t i lo hi)) → wX10_due μ v (fun (r3 : Int32) (σ4 : St) => P r3 σ4) := fun v hv => by
    cases st with
    | inl f => exact m_due (b := true) hT hl hS (fun i q => by cases q) (fun v μ' hf hs hv => hP v μ' hf hs (fun i q => by cases q))
    | inr i =>
      refine m_due (b := numQ t i lo hi) hT hl hS (fun j q => by cases q; exact hv i rfl) (fun v μ' hf hs hv => hP v μ' hf ?_ (fun j q h4 => ?_))
      · exact hs
      · cases q
        rw [hv i rfl]
        exact hS.2.2.2.2 h4
  refine jn_in ⟨fun c => go _ (fun i q => ?_), fun c => m_in ?_⟩
  · subst q
    rw [rdM_k hS.2] at c
    have kb := tk_b t i
    have c : ¬ tk t i = 4 := fun q => c (by rw [q]; rfl)
    unfold numQ
    rw [decide_eq_false c, Bool.false_and]; rfl
  · have key : ∀ i, st = .inr i → (decide (lo.toInt ≤ (μ.1 0 16).toInt) && decide ((μ.1 0 16).toInt ≤ hi.toInt)) = numQ t i lo hi := fun i q => by
      subst q
      rw [rdM_k hS.2] at c
      have kb := tk_b t i
      have c := srt_5.mp ((eqI rfl (b := 5) rfl (by have := srt_b kb; omega) (by omega)).mp c)
      have vb := tv_b t i c
      rw [hS.2.2.2.2 c]
      show (decide (lo.toInt ≤ (nI (tv t i)).toInt) && decide ((nI (tv t i)).toInt ≤ hi.toInt)) = _
      rw [toI (by omega)]
      unfold numQ
      rw [decide_eq_true c, Bool.true_and]
    refine br_b (fun e => go _ (fun i q => ?_)) (fun e => go _ (fun i q => ?_))
    · rw [← key i q, e]; rfl
    · rw [← key i q, e]; rfl
/-- the draft in the reference -/
def drM (μ : St) (O : Orc) : Prop := μ.1 2 1 = nI (oP O) ∧ μ.1 8 1 = nI (oT O) ∧
  (∀ p, p < oP O → μ.1 3 (8 + p) = nI (oS O p) ∧ μ.1 4 (8 + p) = nI (oG O p) ∧ μ.1 5 (8 + p) = nI (oL O p) ∧ μ.1 6 (8 + p) = nI (oC O p)) ∧
  (∀ a b, a < 8 → b < 8 → μ.1 7 (64 + (8 * a + b)) = bI (decide (a < oP O) && (oQ O a).testBit b)) ∧
  (∀ t, t < oT O → μ.1 9 (5 + t) = nI (oH O t) ∧ μ.1 10 (5 + t) = nI (oR O t) ∧ μ.1 11 (5 + t) = nI (oB O t))
def DD (k j : Nat) : Prop := (k = 0 ∧ 13 ≤ j ∧ j ≤ 17) ∨ (k = 2 ∧ j = 1) ∨ (3 ≤ k ∧ k ≤ 6 ∧ 8 ≤ j) ∨ (k = 7 ∧ 64 ≤ j) ∨ (k = 8 ∧ j = 1) ∨ (9 ≤ k ∧ k ≤ 11 ∧ 5 ≤ j)
theorem D1_DD (k j : Nat) (h : D1 k j) : DD k j := Or.inl h
theorem drM_fr {D : Nat → Nat → Prop} {μ μ' : St} {O : Orc} (h : drM μ O) (hf : frJ D μ μ') (hs : ∀ k j, D k j → k < 2 ∨ 12 ≤ k) : drM μ' O := by
  have e : ∀ k j, 2 ≤ k → k ≤ 11 → μ'.1 k j = μ.1 k j := fun k j h1 h2 => hf.1 k j (fun q => by have := hs k j q; omega)
  obtain ⟨h1, h2, h3, h4, h5⟩ := h
  refine ⟨by rw [e 2 1 (by omega) (by omega)]; exact h1, by rw [e 8 1 (by omega) (by omega)]; exact h2, fun p hp => ?_, fun a b ha hb => by rw [e 7 _ (by omega) (by omega)]; exact h4 a b ha hb, fun t ht => ?_⟩
  · rw [e 3 _ (by omega) (by omega), e 4 _ (by omega) (by omega), e 5 _ (by omega) (by omega), e 6 _ (by omega) (by omega)]; exact h3 p hp
  · rw [e 9 _ (by omega) (by omega), e 10 _ (by omega) (by omega), e 11 _ (by omega) (by omega)]; exact h5 t ht
theorem D1_lo (k j : Nat) (h : D1 k j) : k < 2 ∨ 12 ≤ k := Or.inl (by have := h.1; omega)
theorem orM_DD {μ μ' : St} {O : Orc} (hk : oOk O) (h : orM μ O) (hf : frJ DD μ μ') : orM μ' O := by
  obtain ⟨h1, h2, h3, h4, h5⟩ := h
  have h8 := hk.1
  have h5' := hk.2.1
  refine ⟨by rw [hf.1 2 0 (fun q => by unfold DD at q; omega)]; exact h1, by rw [hf.1 8 0 (fun q => by unfold DD at q; omega)]; exact h2, fun p hp => ?_, fun a b ha hb => by rw [hf.1 7 _ (fun q => by unfold DD at q; omega)]; exact h4 a b ha hb, fun t ht => ?_⟩
  · rw [hf.1 3 p (fun q => by unfold DD at q; omega), hf.1 4 p (fun q => by unfold DD at q; omega), hf.1 5 p (fun q => by unfold DD at q; omega), hf.1 6 p (fun q => by unfold DD at q; omega)]; exact h3 p hp
  · rw [hf.1 9 t (fun q => by unfold DD at q; omega), hf.1 10 t (fun q => by unfold DD at q; omega), hf.1 11 t (fun q => by unfold DD at q; omega)]; exact h5 t ht
theorem txtM_DD {μ μ' : St} {t : Tx} (h : txtM μ t) (hf : frJ DD μ μ') : txtM μ' t := txtM_fr h hf (fun q => by unfold DD at q; omega) (fun j q => by unfold DD at q; omega)
theorem sM_off {μ : St} {t : Tx} {st : Nat ⊕ Nat} {k j : Nat} {v : Int32} (h : sM μ t st) (hk : k ≠ 0) : sM (sI μ k j v) t st := by
  cases st with
  | inl f => show (sI μ k j v).1 0 17 = _; rw [sI_ne (Ne.symm hk)]; exact h
  | inr i =>
    obtain ⟨a, b, c, d, e⟩ := h
    exact ⟨by rw [sI_ne (Ne.symm hk)]; exact a, by rw [sI_ne (Ne.symm hk)]; exact b, by rw [sI_ne (Ne.symm hk)]; exact c, by rw [sI_ne (Ne.symm hk)]; exact d, fun q => by rw [sI_ne (Ne.symm hk)]; exact e q⟩
/-- an item's end -/
def imF (μ : St) (t : Tx) (P : St → Prop) (r : Nat ⊕ (Orc × Nat)) : Prop := match r with
  | .inl f => ∀ μ', frJ DD μ μ' → sM μ' t (.inl f) → P μ'
  | .inr q => ∀ μ', frJ DD μ μ' → sM μ' t (.inr q.2) → drM μ' q.1 → P μ'
