/-! which cells stay -/
def frC (S : List Nat) (σ σ' : St) : Prop := (∀ k, k ∉ S → σ'.1 k = σ.1 k) ∧ σ'.2 = σ.2
theorem frC.rf {S : List Nat} {σ : St} : frC S σ σ := ⟨fun _ _ => rfl, rfl⟩
theorem frC.tr {S : List Nat} {a b c : St} (h : frC S a b) (g : frC S b c) : frC S a c := ⟨fun k hk => (g.1 k hk).trans (h.1 k hk), g.2.trans h.2⟩
theorem frC.wr {S : List Nat} {σ σ' : St} {k j : Nat} {v : Int32} (h : frC S σ σ') (hk : k ∈ S) : frC S σ (sI σ' k j v) := ⟨fun i hi => by rw [sI_ne (fun e => hi (by rw [e]; exact hk))]; exact h.1 i hi, h.2⟩
theorem frC.up {S S' : List Nat} {σ σ' : St} (h : frC S σ σ') (hs : ∀ k, k ∈ S → k ∈ S') : frC S' σ σ' := ⟨fun k hk => h.1 k (fun q => hk (hs k q)), h.2⟩
theorem orC_kept {σ σ' : St} {o : Nat} {O : Orc} (h : orC σ o O) (hk : ∀ k, o ≤ k → k ≤ o + 8 → σ'.1 k = σ.1 k) : orC σ' o O := by
  obtain ⟨h1, h2, h3, h4⟩ := h
  refine ⟨by rw [hk o (by omega) (by omega)]; exact h1, by rw [hk o (by omega) (by omega)]; exact h2, fun p hp => ?_, fun t ht => ?_⟩
  · rw [hk _ (by omega) (by omega), hk _ (by omega) (by omega), hk _ (by omega) (by omega), hk _ (by omega) (by omega), hk _ (by omega) (by omega)]; exact h3 p hp
  · rw [hk _ (by omega) (by omega), hk _ (by omega) (by omega), hk _ (by omega) (by omega)]; exact h4 t ht
theorem isO_r {o : Nat} (h : isO o) : 7 ≤ o ∧ o + 8 < 25 := by rcases h with rfl | rfl <;> omega
theorem orC_fr {S : List Nat} {σ σ' : St} {o : Nat} {O : Orc} (ho : isO o) (h : orC σ o O) (hf : frC S σ σ') (hs : ∀ k, k ∈ S → k < 7 ∨ 25 ≤ k) : orC σ' o O :=
  orC_kept h (fun k h1 h2 => hf.1 k (fun q => by have := hs k q; have := isO_r ho; omega))
/-! the pairs that fit, in the order of 10 times the left one and the right one -/
def plR (O : Orc) (a j : Nat) : List (Nat × Nat) := ((List.range j).filter (oF O a)).map (fun b => (a, b))
def plA (O : Orc) (i : Nat) : List (Nat × Nat) := (List.range i).flatMap (fun a => if oS O a = 0 then plR O a (oP O) else [])
def prs (O : Orc) : List (Nat × Nat) := plA O (oP O)
def allL (O : Orc) : Nat → Nat
  | 0 => 0
  | i + 1 => if oS O i = 0 then allL O i ||| 2 ^ i else allL O i
def cnt0 (O : Orc) : Nat → Nat
  | 0 => 0
  | i + 1 => if oS O i = 0 then cnt0 O i + 1 else cnt0 O i
theorem plR_s (O : Orc) (a j : Nat) : plR O a (j + 1) = plR O a j ++ (if oF O a j = true then [(a, j)] else []) := by
  unfold plR
  rw [List.range_succ, List.filter_append, List.map_append]
  congr 1
  by_cases h : oF O a j = true <;> simp [List.filter, h]
theorem plA_s (O : Orc) (i : Nat) : plA O (i + 1) = plA O i ++ (if oS O i = 0 then plR O i (oP O) else []) := by
  unfold plA
  rw [List.range_succ, List.flatMap_append]
  simp
theorem oF_side {O : Orc} {a b : Nat} (h : oF O a b = true) : oS O a ≠ oS O b := by
  simp only [oF, oU, Bool.and_eq_true, decide_eq_true_eq] at h
  exact h.1.1
theorem plR_len (O : Orc) (a j : Nat) (ha : oS O a = 0) : (plR O a j).length + cnt0 O j ≤ j := by
  induction j with
  | zero => simp [plR, cnt0]
  | succ j ih =>
    rw [plR_s, List.length_append, cnt0]
    by_cases h : oF O a j = true
    · have := oF_side h
      rw [if_pos h, if_neg (by omega)]
      simp; omega
    · rw [if_neg h]
      split <;> simp <;> omega
theorem plA_len (O : Orc) (i : Nat) : (plA O i).length ≤ cnt0 O i * (oP O - cnt0 O (oP O)) := by
  induction i with
  | zero => simp [plA]
  | succ i ih =>
    rw [plA_s, List.length_append, cnt0]
    by_cases h : oS O i = 0
    · rw [if_pos h, if_pos h]
      have := plR_len O i (oP O) h
      rw [Nat.add_mul]
      omega
    · rw [if_neg h, if_neg h]
      simpa using ih
theorem cnt0_le (O : Orc) (i : Nat) : cnt0 O i ≤ i := by
  induction i with
  | zero => exact Nat.le_refl _
  | succ i ih => rw [cnt0]; split <;> omega
theorem cnt0_mono (O : Orc) {i j : Nat} (h : i ≤ j) : cnt0 O i ≤ cnt0 O j := by
  induction h with
  | refl => exact Nat.le_refl _
  | step _ ih => rw [cnt0]; split <;> omega
theorem mul16 {l r : Nat} (h : l + r ≤ 8) : l * r ≤ 16 := by
  have h1 : r ≤ 8 - l := by omega
  have h2 := Nat.mul_le_mul_left l h1
  have h3 : l ≤ 8 := by omega
  have : ∀ l, l ≤ 8 → l * (8 - l) ≤ 16 := by decide
  have := this l h3
  omega
theorem plen_lt {O : Orc} {a j : Nat} (hk : oOk O) (ha : a < oP O) (hl : oS O a = 0) (hj : j < oP O) (hf : oF O a j = true) : (plA O a ++ plR O a j).length < 16 := by
  have h1 := plA_len O a
  have h2 := plR_len O a j hl
  have h3 := cnt0_mono O (show a + 1 ≤ oP O from ha)
  rw [cnt0, if_pos hl] at h3
  have h4 := cnt0_le O (oP O)
  have hr : oS O j ≠ 0 := fun q => oF_side hf (by rw [hl, q])
  have h5 : cnt0 O (oP O) - cnt0 O j + (j + 1) ≤ oP O := by
    have : ∀ d, j + 1 + d ≤ oP O → cnt0 O (j + 1 + d) ≤ cnt0 O j + d := by
      intro d
      induction d with
      | zero => intro _; show cnt0 O (j + 1) ≤ _; rw [cnt0, if_neg hr]; omega
      | succ d ih => intro hd; have := ih (by omega); show cnt0 O (j + 1 + d + 1) ≤ _; rw [cnt0]; split <;> omega
    have := this (oP O - (j + 1)) (by omega)
    rw [show j + 1 + (oP O - (j + 1)) = oP O by omega] at this
    have := cnt0_mono O (show j ≤ oP O by omega)
    omega
  have h6 : (plR O a j).length < oP O - cnt0 O (oP O) := by
    have := cnt0_mono O (show j ≤ oP O by omega)
    omega
  have h7 : cnt0 O a * (oP O - cnt0 O (oP O)) + (oP O - cnt0 O (oP O)) ≤ 16 := by
    have h8 := hk.1
    have := mul16 (l := cnt0 O a + 1) (r := oP O - cnt0 O (oP O)) (by omega)
    rw [Nat.add_mul] at this
    omega
  rw [List.length_append]
  omega
theorem plA_le16 {O : Orc} (hk : oOk O) {i : Nat} (hi : i ≤ oP O) : (plA O i).length ≤ 16 := by
  have h1 := plA_len O i
  have h2 := cnt0_mono O hi
  have h3 := cnt0_le O (oP O)
  have h8 := hk.1
  have := mul16 (l := cnt0 O i) (r := oP O - cnt0 O (oP O)) (by omega)
  omega
/-- the class's cells of a list of pairs -/
def prC (σ : St) (O : Orc) (L : List (Nat × Nat)) : Prop := σ.1 25 0 = nI L.length ∧ ∀ (i a b : Nat), L[i]? = some (a, b) → σ.1 26 i = nI a ∧ σ.1 27 i = nI b ∧ σ.1 28 i = nI (2 ^ a ||| 2 ^ b) ∧ σ.1 29 i = nI (oG O a) ∧ σ.1 30 i = nI (min (oL O a) (oL O b)) ∧ σ.1 31 i = nI (oC O a + oC O b)
theorem prC_kept {σ σ' : St} {O : Orc} {L : List (Nat × Nat)} (h : prC σ O L) (hk : ∀ k, 25 ≤ k → k ≤ 31 → σ'.1 k = σ.1 k) : prC σ' O L := by
  obtain ⟨h1, h2⟩ := h
  refine ⟨by rw [hk 25 (by omega) (by omega)]; exact h1, fun i a b hi => ?_⟩
  rw [hk _ (by omega) (by omega), hk _ (by omega) (by omega), hk _ (by omega) (by omega), hk _ (by omega) (by omega), hk _ (by omega) (by omega), hk _ (by omega) (by omega)]; exact h2 i a b hi
def S25 : List Nat := [25, 26, 27, 28, 29, 30, 31]
theorem s_listOf {σ : St} {o : Nat} {O : Orc} {a : Nat} {P : St → Prop} (ho : isO o) (hO : orC σ o O) (hk : oOk O) (ha : a < oP O) (L : List (Nat × Nat)) (hL : prC σ O L) (hlen : ∀ j, j < oP O → oF O a j = true → (L ++ plR O a j).length < 16)
    (hP : ∀ σ', frC S25 σ σ' → σ'.1 25 1 = σ.1 25 1 → prC σ' O (L ++ plR O a (oP O)) → P σ') : wX4_listOf σ o (nI a) P := by
  have h8 := hk.1
  unfold wX4_listOf
  refine ⟨ho, oP O + 1, ?_⟩
  have step : ∀ d j σ1, j + d = oP O → frC S25 σ σ1 → σ1.1 25 1 = σ.1 25 1 → prC σ1 O (L ++ plR O a j) → wLX4_listOf_2 o (nI a) (fun σ26 => P σ26) P (d + 1) σ1 (nI j) := by
    intro d
    induction d with
    | zero =>
      intro j σ1 hj hf h1 hp
      rw [wLX4_listOf_2]
      have hO1 := orC_fr ho hO hf (by decide)
      rw [hO1.1]
      refine ⟨fun _ => hP σ1 hf h1 (by rw [show oP O = j by omega]; exact hp), fun c => absurd (nI_le (by omega) (by omega)) c⟩
    | succ d ih =>
      intro j σ1 hj hf h1 hp
      rw [wLX4_listOf_2]
      have hO1 := orC_fr ho hO hf (by decide)
      have hjP : j < oP O := by omega
      rw [hO1.1]
      refine ⟨fun c => absurd c (nI_ge (by omega) (by omega)), fun _ => s_fits ho hO1 hk ha hjP ?_⟩
      refine br_b (fun e z hz => ?_) (fun e => ?_)
      · rw [hz, show (1 : Int32) = nI 1 from rfl, nI_add]
        refine ih (j + 1) σ1 (by omega) hf h1 ?_
        rw [plR_s, if_neg (by rw [e]; decide), List.append_nil]
        exact hp
      · have hl := hlen j hjP e
        refine ⟨fun c => ?_, fun _ => ?_⟩
        · rw [hp.1] at c
          exact absurd ((leI (a := 16) rfl rfl (by omega) (by omega)).mp c) (by omega)
        · generalize hn : (L ++ plR O a j).length = n at hl
          have h25 : σ1.1 25 0 = nI n := by rw [hp.1, hn]
          have e1 : (nI n).toNatClampNeg = n := cl (by omega)
          have ea : (nI a).toNatClampNeg = a := cl (by omega)
          have ej : (nI j).toNatClampNeg = j := cl (by omega)
          have vn : vp_in (nI n) 16 := vp_in_nI hl (by omega)
          have va : vp_in (nI a) 8 := vp_in_nI (by omega) (by omega)
          have vj : vp_in (nI j) 8 := vp_in_nI (by omega) (by omega)
          have A := hO1.2.2.1 a ha
          have B := hO1.2.2.1 j hjP
          have hr := isO_r ho
          rw [h25, e1]
          refine ⟨vn, fun σ8 h8' => ?_⟩
          have g8 : σ8.1 25 0 = nI n := by rw [h8', sI_ne (by decide)]; exact h25
          rw [g8, e1]
          refine ⟨vn, fun σ10 h10 => ?_⟩
          have g10 : σ10.1 25 0 = nI n := by rw [h10, sI_ne (by decide)]; exact g8
          rw [g10, e1, shl1 (by omega), shl1 (by omega), orN]
          refine ⟨vn, fun σ12 h12 => ?_⟩
          have g12 : σ12.1 25 0 = nI n := by rw [h12, sI_ne (by decide)]; exact g10
          have a2 : σ12.1 (o + 2) = σ1.1 (o + 2) := by rw [h12, sI_ne (by omega), h10, sI_ne (by omega), h8', sI_ne (by omega)]
          rw [g12, e1, ea, a2, A.2.1]
          refine ⟨va, vn, fun σ15 h15 => ?_⟩
          have g15 : σ15.1 25 0 = nI n := by rw [h15, sI_ne (by decide)]; exact g12
          have a3 : σ15.1 (o + 3) = σ1.1 (o + 3) := by rw [h15, sI_ne (by omega), h12, sI_ne (by omega), h10, sI_ne (by omega), h8', sI_ne (by omega)]
          rw [g15, e1, ej, a3, A.2.2.1, B.2.2.1]
          refine ⟨va, vj, vn, fun σ19 h19 => ?_⟩
          have g19 : σ19.1 25 0 = nI n := by rw [h19, sI_ne (by decide)]; exact g15
          have a4 : σ19.1 (o + 4) = σ1.1 (o + 4) := by rw [h19, sI_ne (by omega), h15, sI_ne (by omega), h12, sI_ne (by omega), h10, sI_ne (by omega), h8', sI_ne (by omega)]
          rw [g19, e1, a4, A.2.2.2.1, B.2.2.2.1, nI_add]
          refine ⟨va, vj, vn, fun σ23 h23 σ24 h24 z hz => ?_⟩
          have g23 : σ23.1 25 0 = nI n := by rw [h23, sI_ne (by decide)]; exact g19
          rw [g23, show (1 : Int32) = nI 1 from rfl, nI_add] at h24
          have hmin : (if nI (oL O j) < nI (oL O a) then nI (oL O j) else nI (oL O a)) = nI (min (oL O a) (oL O j)) := by
            have q1 := (hk.2.2.1 a ha).2.2.1
            have q2 := (hk.2.2.1 j hjP).2.2.1
            by_cases q : oL O j < oL O a
            · rw [if_pos (nI_lt q (by omega)), Nat.min_eq_right (by omega)]
            · rw [if_neg (nI_nlt (by omega) (by omega)), Nat.min_eq_left (by omega)]
          rw [hmin] at h19
          rw [hz, show (1 : Int32) = nI 1 from rfl, nI_add]
          have F : frC S25 σ1 σ24 := by
            rw [h24]; refine frC.wr ?_ (by decide)
            rw [h23]; refine frC.wr ?_ (by decide)
            rw [h19]; refine frC.wr ?_ (by decide)
            rw [h15]; refine frC.wr ?_ (by decide)
            rw [h12]; refine frC.wr ?_ (by decide)
            rw [h10]; refine frC.wr ?_ (by decide)
            rw [h8']; exact frC.wr frC.rf (by decide)
          refine ih (j + 1) σ24 (by omega) (hf.tr F) ?_ ?_
          · rw [← h1, h24, sI_off (by decide), h23, sI_ne (by decide), h19, sI_ne (by decide), h15, sI_ne (by decide), h12, sI_ne (by decide), h10, sI_ne (by decide), h8', sI_ne (by decide)]
          · rw [plR_s, if_pos e, ← List.append_assoc]
            refine ⟨by rw [h24, sI_at, List.length_append, hn]; rfl, fun i x y hi => ?_⟩
            have v26 : ∀ i, σ24.1 26 i = if i = n then nI a else σ1.1 26 i := fun i => by
              rw [h24, sI_ne (by decide), h23, sI_ne (by decide), h19, sI_ne (by decide), h15, sI_ne (by decide), h12, sI_ne (by decide), h10, sI_ne (by decide), h8', sI_get]; simp
            have v27 : ∀ i, σ24.1 27 i = if i = n then nI j else σ1.1 27 i := fun i => by
              rw [h24, sI_ne (by decide), h23, sI_ne (by decide), h19, sI_ne (by decide), h15, sI_ne (by decide), h12, sI_ne (by decide), h10, sI_get, h8', sI_ne (by decide)]; simp
            have v28 : ∀ i, σ24.1 28 i = if i = n then nI (2 ^ a ||| 2 ^ j) else σ1.1 28 i := fun i => by
              rw [h24, sI_ne (by decide), h23, sI_ne (by decide), h19, sI_ne (by decide), h15, sI_ne (by decide), h12, sI_get, h10, sI_ne (by decide), h8', sI_ne (by decide)]; simp
            have v29 : ∀ i, σ24.1 29 i = if i = n then nI (oG O a) else σ1.1 29 i := fun i => by
              rw [h24, sI_ne (by decide), h23, sI_ne (by decide), h19, sI_ne (by decide), h15, sI_get, h12, sI_ne (by decide), h10, sI_ne (by decide), h8', sI_ne (by decide)]; simp
            have v30 : ∀ i, σ24.1 30 i = if i = n then nI (min (oL O a) (oL O j)) else σ1.1 30 i := fun i => by
              rw [h24, sI_ne (by decide), h23, sI_ne (by decide), h19, sI_get, h15, sI_ne (by decide), h12, sI_ne (by decide), h10, sI_ne (by decide), h8', sI_ne (by decide)]; simp
            have v31 : ∀ i, σ24.1 31 i = if i = n then nI (oC O a + oC O j) else σ1.1 31 i := fun i => by
              rw [h24, sI_ne (by decide), h23, sI_get, h19, sI_ne (by decide), h15, sI_ne (by decide), h12, sI_ne (by decide), h10, sI_ne (by decide), h8', sI_ne (by decide)]; simp
            rw [v26, v27, v28, v29, v30, v31]
            by_cases hin : i = n
            · subst hin
              rw [← hn, List.getElem?_append_right (Nat.le_refl _), Nat.sub_self] at hi
              cases hi
              simp
            · have hlt : i < n := by
                have := (List.getElem?_eq_some_iff.mp hi).1
                rw [List.length_append, hn] at this
                simp at this; omega
              rw [List.getElem?_append_left (by rw [hn]; exact hlt)] at hi
              have := hp.2 i x y hi
              simp only [if_neg hin]
              exact this
  have := step (oP O) 0 σ (by omega) frC.rf rfl (by rw [show plR O a 0 = [] from rfl, List.append_nil]; exact hL)
  exact this
theorem s_list {σ : St} {o : Nat} {O : Orc} {P : St → Prop} (ho : isO o) (hO : orC σ o O) (hk : oOk O)
    (hP : ∀ σ', frC S25 σ σ' → σ'.1 25 1 = nI (allL O (oP O)) → prC σ' O (prs O) → P σ') : wX4_list σ o P := by
  have h8 := hk.1
  unfold wX4_list
  refine ⟨ho, fun σ1 h1 σ2 h2 => ⟨oP O + 1, ?_⟩⟩
  have hr := isO_r ho
  have F2 : frC S25 σ σ2 := by rw [h2, h1]; exact (frC.rf.wr (by decide)).wr (by decide)
  have step : ∀ d i σ3, i + d = oP O → frC S25 σ σ3 → σ3.1 25 1 = nI (allL O i) → prC σ3 O (plA O i) → wLX4_list_12 o (fun σ10 => P σ10) P (d + 1) σ3 (nI i) := by
    intro d
    induction d with
    | zero =>
      intro i σ3 hi hf hm hp
      rw [wLX4_list_12]
      have hO1 := orC_fr ho hO hf (by decide)
      rw [hO1.1]
      have e : oP O = i := by omega
      exact ⟨fun _ => hP σ3 hf (by rw [e]; exact hm) (by unfold prs; rw [e]; exact hp), fun c => absurd (nI_le (by omega) (by omega)) c⟩
    | succ d ih =>
      intro i σ3 hi hf hm hp
      rw [wLX4_list_12]
      have hO1 := orC_fr ho hO hf (by decide)
      have hiP : i < oP O := by omega
      have A := hO1.2.2.1 i hiP
      rw [hO1.1, cl (by omega), A.1]
      refine ⟨fun c => absurd c (nI_ge (by omega) (by omega)), fun _ => ⟨vp_in_nI (by omega) (by omega), fun c z hz => ?_, fun c σ7 h7 => ?_⟩⟩
      · have hs : ¬ oS O i = 0 := fun q => c (by rw [q]; rfl)
        rw [hz, show (1 : Int32) = nI 1 from rfl, nI_add]
        refine ih (i + 1) σ3 (by omega) hf ?_ ?_
        · rw [allL, if_neg hs]; exact hm
        · rw [plA_s, if_neg hs, List.append_nil]; exact hp
      · have hs : oS O i = 0 := (eqI rfl (b := 0) rfl (by have := (hk.2.2.1 i hiP).1; omega) (by omega)).mp c
        rw [hm, shl1 (by omega), orN] at h7
        have F7 : frC S25 σ3 σ7 := by rw [h7]; exact frC.rf.wr (by decide)
        refine s_listOf ho (orC_fr ho hO1 F7 (by decide)) hk hiP (plA O i) ?_ (fun j hj hf => plen_lt hk hiP hs hj hf) (fun σ8 hf8 hm8 hp8 z hz => ?_)
        · refine ⟨by rw [h7, sI_off (by decide)]; exact hp.1, fun j a b hj => ?_⟩
          rw [h7, sI_ne (by decide), sI_ne (by decide), sI_ne (by decide), sI_ne (by decide), sI_ne (by decide), sI_ne (by decide)]
          exact hp.2 j a b hj
        · rw [hz, show (1 : Int32) = nI 1 from rfl, nI_add]
          refine ih (i + 1) σ8 (by omega) ((hf.tr F7).tr hf8) ?_ ?_
          · rw [hm8, h7, sI_at, allL, if_pos hs]
          · rw [plA_s, if_pos hs]; exact hp8
  refine step (oP O) 0 σ2 (by omega) F2 ?_ ⟨?_, fun i a b hi => by cases hi⟩
  · rw [h2, sI_at]; rfl
  · rw [h2, sI_off (by decide), h1, sI_at]; rfl
