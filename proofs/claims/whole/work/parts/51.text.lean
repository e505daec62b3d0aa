/-! the class's tokens -/
def txt (σ : St) (t : Tx) : Prop := σ.1 1 1 = nI t.1 ∧ ∀ j, j < t.1 → (σ.1 2 j) &&& (255 : Int32) = nI (t.2 j) ∧ t.2 j < 256
theorem txt_fr {S : List Nat} {σ σ' : St} {t : Tx} (h : txt σ t) (hf : frC S σ σ') (hs : ∀ k, k ∈ S → k ≠ 1 ∧ k ≠ 2) : txt σ' t :=
  ⟨by rw [hf.1 1 (fun q => (hs 1 q).1 rfl)]; exact h.1, fun j hj => by rw [hf.1 2 (fun q => (hs 2 q).2 rfl)]; exact h.2 j hj⟩
theorem s_at {σ : St} {t : Tx} {j : Nat} {P : Int32 → Prop} (hT : txt σ t) (hl : t.1 ≤ 300) (hj : j < t.1) (hP : P (nI (t.2 j))) : wX8_at σ (nI j) P := by
  unfold wX8_at
  rw [hT.1, cl (by omega), (hT.2 j hj).1]
  exact ⟨fun c => absurd c (nI_pos (by omega)), fun _ => ⟨fun c => absurd c (nI_ge hj (by omega)), fun _ => ⟨vp_in_nI (by omega) (by omega), hP⟩⟩⟩
theorem s_isLetter {σ : St} {c : Nat} {P : Int32 → Prop} (hc : c < 256) (hP : P (bI (isLB c))) : wX8_isLetter σ (nI c) P := by
  unfold wX8_isLetter
  unfold isLB at hP
  refine ⟨fun q => ?_, fun q => ⟨fun q2 => ?_, fun q2 => ?_⟩⟩
  · have q := (ltI rfl (b := 97) rfl (by omega) (by omega)).mp q
    rw [show decide (97 ≤ c) = false from decide_eq_false (by omega)] at hP; exact hP
  · have q2 := (ltI (a := 122) rfl rfl (by omega) (by omega)).mp q2
    rw [show decide (c ≤ 122) = false from decide_eq_false (by omega), Bool.and_false] at hP; exact hP
  · have q : ¬ c < 97 := fun x => q ((ltI rfl (b := 97) rfl (by omega) (by omega)).mpr x)
    have q2 : ¬ 122 < c := fun x => q2 ((ltI (a := 122) rfl rfl (by omega) (by omega)).mpr x)
    rw [show decide (97 ≤ c) = true from decide_eq_true (by omega), show decide (c ≤ 122) = true from decide_eq_true (by omega)] at hP; exact hP
theorem s_isDigit {σ : St} {c : Nat} {P : Int32 → Prop} (hc : c < 256) (hP : P (bI (isDB c))) : wX8_isDigit σ (nI c) P := by
  unfold wX8_isDigit
  unfold isDB at hP
  refine ⟨fun q => ?_, fun q => ⟨fun q2 => ?_, fun q2 => ?_⟩⟩
  · have q := (ltI rfl (b := 48) rfl (by omega) (by omega)).mp q
    rw [show decide (48 ≤ c) = false from decide_eq_false (by omega)] at hP; exact hP
  · have q2 := (ltI (a := 57) rfl rfl (by omega) (by omega)).mp q2
    rw [show decide (c ≤ 57) = false from decide_eq_false (by omega), Bool.and_false] at hP; exact hP
  · have q : ¬ c < 48 := fun x => q ((ltI rfl (b := 48) rfl (by omega) (by omega)).mpr x)
    have q2 : ¬ 57 < c := fun x => q2 ((ltI (a := 57) rfl rfl (by omega) (by omega)).mpr x)
    rw [show decide (48 ≤ c) = true from decide_eq_true (by omega), show decide (c ≤ 57) = true from decide_eq_true (by omega)] at hP; exact hP
theorem s_endOfToken {σ : St} {t : Tx} {j : Nat} {P : Int32 → Prop} (hT : txt σ t) (hl : t.1 ≤ 300) (hj : j < t.1) (hP : P (nI (tokE t j))) : wX8_endOfToken σ (nI j) P := by
  have cj := (hT.2 j hj).2
  have runL : ∀ (K : Int32 → Prop), ∀ d i, i + d = t.1 → K (nI (runE isLB t.2 d i)) → wLX8_endOfToken_15 σ K P (d + 1) (nI i) := by
    intro K d
    induction d with
    | zero =>
      intro i hi hK
      rw [wLX8_endOfToken_15, hT.1]
      exact ⟨fun _ => hK, fun c => absurd (nI_le (by omega) (by omega)) c⟩
    | succ d ih =>
      intro i hi hK
      rw [runE] at hK
      rw [wLX8_endOfToken_15, hT.1]
      refine ⟨fun c => absurd c (nI_ge (by omega) (by omega)), fun _ => s_at hT hl (by omega) (s_isLetter (hT.2 i (by omega)).2 (br_b (fun f => ?_) (fun f z hz => ?_)))⟩
      · rw [if_neg (by rw [f]; decide)] at hK; exact hK
      · rw [if_pos f] at hK
        rw [hz, add1]; exact ih (i + 1) (by omega) hK
  have runD : ∀ (K : Int32 → Prop), ∀ d i, i + d = t.1 → K (nI (runE isDB t.2 d i)) → wLX8_endOfToken_51 σ K P (d + 1) (nI i) := by
    intro K d
    induction d with
    | zero =>
      intro i hi hK
      rw [wLX8_endOfToken_51, hT.1]
      exact ⟨fun _ => hK, fun c => absurd (nI_le (by omega) (by omega)) c⟩
    | succ d ih =>
      intro i hi hK
      rw [runE] at hK
      rw [wLX8_endOfToken_51, hT.1]
      refine ⟨fun c => absurd c (nI_ge (by omega) (by omega)), fun _ => s_at hT hl (by omega) (s_isDigit (hT.2 i (by omega)).2 (br_b (fun f => ?_) (fun f z hz => ?_)))⟩
      · rw [if_neg (by rw [f]; decide)] at hK; exact hK
      · rw [if_pos f] at hK
        rw [hz, add1]; exact ih (i + 1) (by omega) hK
  unfold wX8_endOfToken
  intro z1 h1
  rw [h1, add1]
  unfold tokE at hP
  refine s_at hT hl hj (s_isLetter cj (br_b (fun f => s_at hT hl hj (s_isDigit cj (br_b (fun f2 => ?_) (fun f2 => ⟨t.1 - (j + 1) + 1, runD _ _ _ (by omega) ?_⟩)))) (fun f => ⟨t.1 - (j + 1) + 1, runL _ _ _ (by omega) ?_⟩)))
  · rw [if_neg (by rw [f]; decide), if_neg (by rw [f2]; decide)] at hP; exact hP
  · rw [if_neg (by rw [f]; decide), if_pos f2] at hP; exact hP
  · rw [if_pos f] at hP; exact hP
def zw : Nat → List Nat
  | 0 => [108, 101, 102, 116]
  | 1 => [114, 105, 103, 104, 116]
  | 2 => [113, 117, 97, 114, 114, 101, 108]
  | _ => [116, 114, 101, 101]
theorem zw_len {i : Nat} (hi : i < 4) : (Int32.ofNat (zSlen.getD i 0)) >>> ((0 : Int32) &&& 31) = nI (zw i).length ∧ (zw i).length ≤ 7 ∧ zSlen.getD i 0 = (zw i).length ∧ Int32.ofNat (zSlen.getD i 0) = nI (zw i).length := by
  have : i = 0 ∨ i = 1 ∨ i = 2 ∨ i = 3 := by omega
  rcases this with rfl | rfl | rfl | rfl <;> exact ⟨by decide, by decide, by decide, by decide⟩
theorem zw_ch {i k : Nat} (hi : i < 4) (hk : k < (zw i).length) : (((((zSbyt.getD i []).getD k 0) &&& (255 : Int32)).toUInt32 % 65536).toInt32) = nI ((zw i).getD k 0) ∧ (zw i).getD k 0 < 128 := by
  have H : ∀ i : Fin 4, ∀ k : Fin 7, k.val < (zw i.val).length → (((((zSbyt.getD i.val []).getD k.val 0) &&& (255 : Int32)).toUInt32 % 65536).toInt32) = nI ((zw i.val).getD k.val 0) ∧ (zw i.val).getD k.val 0 < 128 := by decide +kernel
  have := (zw_len hi).2.1
  exact H ⟨i, hi⟩ ⟨k, by omega⟩ hk
theorem wrd_eq {t : Tx} {j n : Nat} {w : List Nat} (h : n = w.length) : wrd t j n = w ↔ ∀ k, k < n → t.2 (j + k) = w.getD k 0 := by
  unfold wrd
  constructor
  · intro e k hk
    rw [← e, List.getD_eq_getElem?_getD, List.getElem?_map, List.getElem?_range hk]
    rfl
  · intro g
    apply List.ext_getElem?
    intro k
    by_cases hk : k < n
    · rw [List.getElem?_map, List.getElem?_range hk]
      have := g k hk
      rw [List.getD_eq_getElem?_getD, List.getElem?_eq_getElem (by omega)] at this
      rw [List.getElem?_eq_getElem (by omega)]
      show some (t.2 (j + k)) = _
      rw [this]; rfl
    · rw [List.getElem?_eq_none (by simp; omega), List.getElem?_eq_none (by omega)]
theorem nar_ch {c : Nat} (h : c < 128) : narrow .char (.int (nI c)) = .int (nI c) := by
  have H : ∀ c : Fin 128, ((nI c.val).toUInt32 % 65536).toInt32 = nI c.val := by decide +kernel
  show Value.int (((nI c).toUInt32 % 65536).toInt32) = .int (nI c)
  rw [H ⟨c, h⟩]
theorem s_charAt {σ : St} {i k : Nat} {P : Int32 → Prop} (hi : i < 4) (hk : k < (zw i).length) (hP : P (nI ((zw i).getD k 0))) : wJ0_charAt_5068e σ i (nI k) P := by
  obtain ⟨z1, z2, z3, z4⟩ := zw_len hi
  obtain ⟨c1, c2⟩ := zw_ch hi hk
  unfold wJ0_charAt_5068e wJ0_isLatin1_aae02 wJ1_charAt_3b067 wJ0_checkIndex_df160 wJ3_checkIndex_8e157
  rw [cl (n := k) (by omega), c1, z4, z3]
  refine ⟨hi, hi, fun c => absurd c nb0, fun _ => ⟨hi, jn_in ⟨fun c => absurd c (nI_pos (by omega)), fun _ => ⟨fun _ => ⟨vp_in_nI hk (by omega), nar_ch c2, nar_ch c2, hP⟩, fun c => absurd (nI_lt hk (by omega)) c⟩⟩⟩⟩
theorem s_spells {σ : St} {t : Tx} {i j b : Nat} {P : Int32 → Prop} (hT : txt σ t) (hl : t.1 ≤ 300) (hi : i < 4) (hj : j < b) (hb : b ≤ t.1) (hP : P (bI (decide (wrd t j (b - j) = zw i)))) : wX8_spells σ i (nI j) (nI b) P := by
  obtain ⟨z1, z2, z3, z4⟩ := zw_len hi
  unfold wX8_spells
  refine ⟨hi, ?_⟩
  have len : ∀ {Q : Int32 → Prop}, Q (nI (zw i).length) → wJ0_length_8abf5 σ i Q := fun {Q} h => by
    unfold wJ0_length_8abf5 wJ0_coder_7d493
    refine ⟨hi, hi, ?_⟩
    have g : Q (Int32.ofNat (zSlen.getD i 0) >>> ((0 : Int32) &&& 31)) := by rw [z1]; exact h
    exact g
  refine len ?_
  rw [pk_sub (by omega)]
  refine ⟨fun c => ⟨(zw i).length + 1, ?_⟩, fun c => ?_⟩
  · have c := (nI_eq (by omega) (by omega)).mp c
    have we := wrd_eq (t := t) (j := j) c
    have step : ∀ d k, k + d = (zw i).length → (∀ k', k' < k → t.2 (j + k') = (zw i).getD k' 0) → wLX8_spells_15 i (nI j) σ (P (1 : Int32)) P (d + 1) (nI k) := by
      intro d
      induction d with
      | zero =>
        intro k hk hx
        rw [wLX8_spells_15]
        refine len ⟨fun _ => ?_, fun c => absurd (nI_le (by omega) (by omega)) c⟩
        rw [decide_eq_true (we.mpr (fun k' hk' => hx k' (by omega)))] at hP
        exact hP
      | succ d ih =>
        intro k hk hx
        rw [wLX8_spells_15]
        obtain ⟨c1, c2⟩ := zw_ch hi (show k < (zw i).length by omega)
        have ch := (hT.2 (j + k) (by omega)).2
        rw [nI_add]
        refine len ⟨fun c => absurd c (nI_ge (by omega) (by omega)), fun _ => s_at hT hl (by omega) (s_charAt hi (by omega) ⟨fun e z hz => ?_, fun e => ?_⟩)⟩
        · have e := (nI_eq (by omega) (by omega)).mp e
          rw [hz, add1]
          refine ih (k + 1) (by omega) (fun k' hk' => ?_)
          by_cases q : k' = k
          · rw [q]; exact e
          · exact hx k' (by omega)
        · have e : ¬ t.2 (j + k) = (zw i).getD k 0 := fun q => e (by rw [q])
          rw [decide_eq_false (fun q => e (we.mp q k (by omega)))] at hP
          exact hP
    exact step (zw i).length 0 (by omega) (fun k' h => absurd h (Nat.not_lt_zero k'))
  · have c : ¬ b - j = (zw i).length := fun q => c (by rw [q])
    rw [decide_eq_false (fun q => c (by rw [← q]; unfold wrd; simp))] at hP
    exact hP
theorem s_tokenOf {σ : St} {t : Tx} {j : Nat} {P : Int32 → Prop} (hT : txt σ t) (hl : t.1 ≤ 300) (hj : j < t.1) (hP : P (nI (tokK t j))) : wX8_tokenOf σ (nI j) (nI (tokE t j)) P := by
  have cj := (hT.2 j hj).2
  obtain ⟨b1, b2⟩ := tokE_b t hj
  unfold wX8_tokenOf
  unfold tokK at hP
  refine s_at hT hl hj (s_isDigit cj (br_b (fun f => ?_) (fun f => ?_)))
  · rw [if_neg (by rw [f]; decide)] at hP
    refine ⟨fun c => ?_, fun c => ?_⟩
    · have c : ¬ t.2 j = 59 := fun q => c (by rw [q]; rfl)
      rw [if_neg c] at hP
      unfold wrdK at hP
      have hP : P (nI (if wrd t j (tokE t j - j) = zw 0 then 0 else if wrd t j (tokE t j - j) = zw 1 then 1 else if wrd t j (tokE t j - j) = zw 2 then 2 else if wrd t j (tokE t j - j) = zw 3 then 3 else 7)) := hP
      refine s_spells hT hl (i := 0) (by omega) b1 b2 (br_b (fun f0 => s_spells hT hl (i := 1) (by omega) b1 b2 (br_b (fun f1 => s_spells hT hl (i := 2) (by omega) b1 b2 (br_b (fun f2 => s_spells hT hl (i := 3) (by omega) b1 b2 (br_b (fun f3 => ?_) (fun f3 => ?_))) (fun f2 => ?_))) (fun f1 => ?_))) (fun f0 => ?_))
      · rw [if_neg (of_decide_eq_false f0), if_neg (of_decide_eq_false f1), if_neg (of_decide_eq_false f2), if_neg (of_decide_eq_false f3)] at hP; exact hP
      · rw [if_neg (of_decide_eq_false f0), if_neg (of_decide_eq_false f1), if_neg (of_decide_eq_false f2), if_pos (of_decide_eq_true f3)] at hP; exact hP
      · rw [if_neg (of_decide_eq_false f0), if_neg (of_decide_eq_false f1), if_pos (of_decide_eq_true f2)] at hP; exact hP
      · rw [if_neg (of_decide_eq_false f0), if_pos (of_decide_eq_true f1)] at hP; exact hP
      · rw [if_pos (of_decide_eq_true f0)] at hP; exact hP
    · have c := (eqI rfl (b := 59) rfl (by omega) (by omega)).mp c
      rw [if_pos c] at hP; exact hP
  · rw [if_pos f] at hP
    rw [pk_sub (by omega)]
    refine jn_in ⟨fun c => ?_, fun c => ⟨fun c2 => ?_, fun c2 => ⟨fun c3 => ?_, fun c3 => ?_⟩⟩⟩
    · have c := (eqI rfl (b := 1) rfl (by omega) (by omega)).mp c
      rw [if_pos (Or.inl c)] at hP
      exact ⟨fun x => absurd x nb0, fun _ => hP⟩
    · have c : ¬ tokE t j - j = 1 := fun q => c (by rw [q]; rfl)
      have c2 : ¬ tokE t j - j = 2 := fun q => c2 (by rw [q]; rfl)
      rw [if_neg (by omega)] at hP
      exact ⟨fun _ => hP, fun x => absurd rfl x⟩
    · have c : ¬ tokE t j - j = 1 := fun q => c (by rw [q]; rfl)
      have c3 := (eqI rfl (b := 48) rfl (by omega) (by omega)).mp c3
      rw [if_neg (by omega)] at hP
      exact ⟨fun _ => hP, fun x => absurd rfl x⟩
    · have c2 := (eqI rfl (b := 2) rfl (by omega) (by omega)).mp c2
      have c3 : ¬ t.2 j = 48 := fun q => c3 (by rw [q]; rfl)
      rw [if_pos (Or.inr ⟨c2, c3⟩)] at hP
      exact ⟨fun x => absurd x nb0, fun _ => hP⟩
/-- what a number's digits are -/
theorem tok4 {t : Tx} {j : Nat} (h : tokK t j = 4) : isDB (t.2 j) = true ∧ (tokE t j = j + 1 ∨ (tokE t j = j + 2 ∧ isDB (t.2 (j + 1)) = true)) := by
  have d : isDB (t.2 j) = true := by
    cases e : isDB (t.2 j) with
    | true => rfl
    | false =>
      unfold tokK at h
      rw [if_neg (by rw [e]; decide)] at h
      have := wrdK_b (wrd t j (tokE t j - j))
      split at h
      · omega
      · omega
  refine ⟨d, ?_⟩
  unfold tokK at h
  rw [if_pos d] at h
  split at h
  · rename_i c
    rcases c with c | ⟨c, -⟩
    · exact Or.inl (by omega)
    · refine Or.inr ⟨by omega, ?_⟩
      have d9 := d
      unfold isDB at d9
      simp at d9
      have el : isLB (t.2 j) = false := by unfold isLB; simp; omega
      unfold tokE at c
      rw [if_neg (by rw [el]; decide), if_pos d] at c
      exact runE_all isDB t.2 (t.1 - (j + 1)) (j + 1) (j + 1) (Nat.le_refl _) (by omega)
  · omega
theorem s_numberAt {σ : St} {t : Tx} {j : Nat} {P : Int32 → Prop} (hT : txt σ t) (hl : t.1 ≤ 300) (hj : j < t.1) (h4 : tokK t j = 4) (hP : P (nI (tokV t j))) : wX8_numberAt σ (nI j) (nI (tokE t j)) P := by
  have c1 := (hT.2 j hj).2
  obtain ⟨b1, b2⟩ := tokE_b t hj
  obtain ⟨d, e⟩ := tok4 h4
  unfold isDB at d
  simp at d
  unfold tokV at hP
  rw [if_pos h4] at hP
  unfold wX8_numberAt
  have z0 : (0 : Int32) * (10 : Int32) = nI 0 := by decide
  have k48 : (48 : Int32) = nI 48 := rfl
  rcases e with e | ⟨e, d2⟩
  · rw [e] at hP ⊢
    rw [if_pos (by omega)] at hP
    refine ⟨2, ?_⟩
    rw [wLX8_numberAt_5]
    refine ⟨fun c => absurd ((nI_leI (by omega) (by omega)).mp c) (by omega), fun _ => s_at hT hl hj (fun z3 h3 z4 h4 => ?_)⟩
    rw [h4, add1, wLX8_numberAt_5]
    rw [z0, nI_add, k48, pk_sub (by omega)] at h3
    refine ⟨fun _ => ?_, fun c => absurd (nI_le (Nat.le_refl _) (by omega)) c⟩
    rw [h3, Nat.zero_add]; exact hP
  · unfold isDB at d2
    simp at d2
    rw [e] at hP b2 ⊢
    rw [if_neg (by omega)] at hP
    refine ⟨3, ?_⟩
    rw [wLX8_numberAt_5]
    refine ⟨fun c => absurd ((nI_leI (by omega) (by omega)).mp c) (by omega), fun _ => s_at hT hl hj (fun z3 h3 z4 h4 => ?_)⟩
    rw [z0, nI_add, k48, pk_sub (by omega)] at h3
    rw [h4, add1, h3, wLX8_numberAt_5]
    refine ⟨fun c => absurd ((nI_leI (by omega) (by omega)).mp c) (by omega), fun _ => s_at hT hl (by omega) (fun z5 h5 z6 h6 => ?_)⟩
    rw [show (10 : Int32) = nI 10 from rfl, pk_mul, nI_add, k48, pk_sub (by omega)] at h5
    rw [h6, add1, h5, wLX8_numberAt_5]
    refine ⟨fun _ => ?_, fun c => absurd (nI_le (Nat.le_refl _) (by omega)) c⟩
    rw [show (0 + t.2 j - 48) * 10 + t.2 (j + 1) - 48 = 10 * (t.2 j - 48) + (t.2 (j + 1) - 48) by omega]
    exact hP
