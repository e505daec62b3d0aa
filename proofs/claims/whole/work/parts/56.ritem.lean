theorem Sd_6 {o : Nat} {σ σ' : St} (h : frC [6] σ σ') : frC (Sd o) σ σ' := h.up (fun k hk => by
  have : k = 6 := by simpa using hk
  subst this; simp [Sd])
theorem orC_6 {σ σ' : St} {o : Nat} {O : Orc} (ho : isO o) (h : orC σ o O) (hf : frC [6] σ σ') : orC σ' o O := orC_fr ho h hf (by decide)
theorem tkC_6 {σ σ' : St} {t : Tx} (h : tkC σ t) (hf : frC [6] σ σ') : tkC σ' t := tkC_fr h hf (by decide)
theorem numB_t {t : Tx} {i lo hi : Nat} (h : numB t i lo hi = true) : tk t i = 4 ∧ lo ≤ tv t i ∧ tv t i ≤ hi := by
  unfold numB at h
  simp at h
  exact ⟨h.1, h.2.1, h.2.2⟩
/-- what an item's end is: at fault, or behind it -/
def itF (σ : St) (o : Nat) (t : Tx) (P : Int32 → St → Prop) (r : Nat ⊕ (Orc × Nat)) : Prop := match r with
  | .inl f => ∀ σ', frC (Sd o) σ σ' → σ'.1 6 1 = nI f → f ≤ nT t → P (0 : Int32) σ'
  | .inr q => oOk q.1 → ∀ σ' j, frC (Sd o) σ σ' → orC σ' o q.1 → σ'.1 6 1 = nI j → j < nT t → q.2 = j + 1 → P (1 : Int32) σ'
theorem s_readHalf {σ : St} {o i : Nat} {O : Orc} {t : Tx} {P : Int32 → St → Prop} (ho : isO o) (hO : orC σ o O) (hk : oOk O) (hl : t.1 ≤ 300) (hT : tkC σ t) (h1 : rdC σ t i) (hi : i < nT t) (hs : tk t i = 0 ∨ tk t i = 1) (hP : itF σ o t P (rdI t O i)) : wX6_readHalf σ o (nI (tk t i)) P := by
  have h8 := hk.1
  unfold rdI at hP
  rw [if_pos hs] at hP
  unfold wX6_readHalf
  rw [hO.1]
  refine ⟨ho, fun c => ?_, fun c => ?_⟩
  · have c := (leI (a := 8) rfl rfl (by omega) (by omega)).mp c
    rw [if_pos c] at hP
    exact hP σ frC.rf h1.1 (by omega)
  · have c : ¬ 8 ≤ oP O := fun q => c ((leI (a := 8) rfl rfl (by omega) (by omega)).mpr q)
    rw [if_neg c] at hP
    refine s_readNumber (lo := 1) (hi := nI 9) hl hT h1 hi (by omega) (fun σ3 hf3 r3 => ?_)
    rw [numZ_I (by omega)]
    cases n1 : numB t (i + 1) 1 9 with
    | false =>
      rw [if_pos n1] at hP
      exact ⟨fun c => absurd rfl c, fun _ => hP σ3 (Sd_6 hf3) r3.1 (by omega)⟩
    | true =>
      rw [if_neg (by rw [n1]; decide)] at hP
      obtain ⟨t1, v1, w1⟩ := numB_t n1
      have i1' := nT_lt (t := t) (i := i + 1) (by omega) (by omega)
      refine ⟨fun _ z5 h5 => ?_, fun c => absurd c nb0⟩
      rw [r3.2.2 (by omega)] at h5
      refine s_readNumber (lo := 1) (hi := nI 9) hl (tkC_6 hT hf3) r3 i1' (by omega) (fun σ7 hf7 r7 => ?_)
      have F7 := hf3.tr hf7
      rw [numZ_I (by omega)]
      cases n2 : numB t (i + 2) 1 9 with
      | false =>
        rw [if_pos n2] at hP
        exact ⟨fun c => absurd rfl c, fun _ => hP σ7 (Sd_6 F7) r7.1 (by omega)⟩
      | true =>
        rw [if_neg (by rw [n2]; decide)] at hP
        obtain ⟨t2, v2, w2⟩ := numB_t n2
        have i2' := nT_lt (t := t) (i := i + 2) (by omega) (by omega)
        refine ⟨fun _ z9 h9 => ?_, fun c => absurd c nb0⟩
        rw [r7.2.2 (by show tk t (i + 2) ≠ 6; omega)] at h9
        refine s_readNumber (i := i + 2) (lo := 1) (hi := nI 9) hl (tkC_6 hT F7) r7 i2' (by omega) (fun σ11 hf11 r11 => ?_)
        have F11 := F7.tr hf11
        rw [numZ_I (by omega)]
        cases n3 : numB t (i + 3) 1 9 with
        | false =>
          rw [if_pos n3] at hP
          exact ⟨fun c => absurd rfl c, fun _ => hP σ11 (Sd_6 F11) r11.1 (by omega)⟩
        | true =>
          rw [if_neg (by rw [n3]; decide)] at hP
          obtain ⟨t3, v3, w3⟩ := numB_t n3
          have i3' := nT_lt (t := t) (i := i + 3) (by omega) (by omega)
          refine ⟨fun _ z13 h13 => ?_, fun c => absurd c nb0⟩
          rw [r11.2.2 (by show tk t (i + 3) ≠ 6; omega)] at h13
          refine s_readSemicolon (i := i + 3) hl (tkC_6 hT F11) r11 i3' (fun σ15 hf15 r15 => ?_)
          have F15 := F11.tr hf15
          by_cases s5 : tk t (i + 4) = 5
          · rw [if_neg (fun h => h s5)] at hP
            rw [decide_eq_true (show tk t (i + 3 + 1) = 5 from s5)]
            have i4' := nT_lt (t := t) (i := i + 4) (by omega) (by omega)
            refine ⟨fun _ => ?_, fun c => absurd c nb0⟩
            rw [h5, h9, h13]
            refine s_addHalf ho (orC_6 ho hO F15) hk (by omega) (fun σ17 hf17 O17 => ?_)
            refine hP (addH_ok hk (by omega) (by omega) ⟨v1, w1⟩ ⟨v2, w2⟩ ⟨v3, w3⟩) σ17 (i + 4) ((Sd_6 F15).tr (hf17.up So_Sd)) O17 ?_ i4' rfl
            rw [hf17.1 6 (So_6 ho)]; exact r15.1
          · rw [if_pos s5] at hP
            rw [decide_eq_false (show ¬ tk t (i + 3 + 1) = 5 from s5)]
            exact ⟨fun c => absurd rfl c, fun _ => hP σ15 (Sd_6 F15) r15.1 (by omega)⟩
theorem s_readTree {σ : St} {o i : Nat} {O : Orc} {t : Tx} {P : Int32 → St → Prop} (ho : isO o) (hO : orC σ o O) (hk : oOk O) (hl : t.1 ≤ 300) (hT : tkC σ t) (h1 : rdC σ t i) (hi : i < nT t) (hs : tk t i = 3) (hP : itF σ o t P (rdI t O i)) : wX6_readTree σ o P := by
  have h5' := hk.2.1
  unfold rdI at hP
  rw [if_neg (by omega), if_neg (by omega), if_pos hs] at hP
  unfold wX6_readTree
  rw [hO.2.1]
  refine ⟨ho, fun c => ?_, fun c => ?_⟩
  · have c := (leI (a := 5) rfl rfl (by omega) (by omega)).mp c
    rw [if_pos c] at hP
    exact hP σ frC.rf h1.1 (by omega)
  · have c : ¬ 5 ≤ oT O := fun q => c ((leI (a := 5) rfl rfl (by omega) (by omega)).mpr q)
    rw [if_neg c] at hP
    refine s_readNumber (lo := 1) (hi := nI 9) hl hT h1 hi (by omega) (fun σ3 hf3 r3 => ?_)
    rw [numZ_I (by omega)]
    cases n1 : numB t (i + 1) 1 9 with
    | false =>
      rw [if_pos n1] at hP
      exact ⟨fun c => absurd rfl c, fun _ => hP σ3 (Sd_6 hf3) r3.1 (by omega)⟩
    | true =>
      rw [if_neg (by rw [n1]; decide)] at hP
      obtain ⟨t1, v1, w1⟩ := numB_t n1
      have i1' := nT_lt (t := t) (i := i + 1) (by omega) (by omega)
      refine ⟨fun _ z5 h5 => ?_, fun c => absurd c nb0⟩
      rw [r3.2.2 (by omega)] at h5
      refine s_readNumber (lo := 0) (hi := nI 20) hl (tkC_6 hT hf3) r3 i1' (by omega) (fun σ7 hf7 r7 => ?_)
      have F7 := hf3.tr hf7
      rw [numZ_I (by omega)]
      cases n2 : numB t (i + 2) 0 20 with
      | false =>
        rw [if_pos n2] at hP
        exact ⟨fun c => absurd rfl c, fun _ => hP σ7 (Sd_6 F7) r7.1 (by omega)⟩
      | true =>
        rw [if_neg (by rw [n2]; decide)] at hP
        obtain ⟨t2, v2, w2⟩ := numB_t n2
        have i2' := nT_lt (t := t) (i := i + 2) (by omega) (by omega)
        refine ⟨fun _ z9 h9 => ?_, fun c => absurd c nb0⟩
        rw [r7.2.2 (by show tk t (i + 2) ≠ 6; omega)] at h9
        refine s_readNumber (i := i + 2) (lo := 0) (hi := nI 99) hl (tkC_6 hT F7) r7 i2' (by omega) (fun σ11 hf11 r11 => ?_)
        have F11 := F7.tr hf11
        rw [numZ_I (by omega)]
        cases n3 : numB t (i + 3) 0 99 with
        | false =>
          rw [if_pos n3] at hP
          exact ⟨fun c => absurd rfl c, fun _ => hP σ11 (Sd_6 F11) r11.1 (by omega)⟩
        | true =>
          rw [if_neg (by rw [n3]; decide)] at hP
          obtain ⟨t3, v3, w3⟩ := numB_t n3
          have i3' := nT_lt (t := t) (i := i + 3) (by omega) (by omega)
          refine ⟨fun _ z13 h13 => ?_, fun c => absurd c nb0⟩
          rw [r11.2.2 (by show tk t (i + 3) ≠ 6; omega)] at h13
          refine s_readSemicolon (i := i + 3) hl (tkC_6 hT F11) r11 i3' (fun σ15 hf15 r15 => ?_)
          have F15 := F11.tr hf15
          by_cases s5 : tk t (i + 4) = 5
          · rw [if_neg (fun h => h s5)] at hP
            rw [decide_eq_true (show tk t (i + 3 + 1) = 5 from s5)]
            have i4' := nT_lt (t := t) (i := i + 4) (by omega) (by omega)
            refine ⟨fun _ => ?_, fun c => absurd c nb0⟩
            rw [h5, h9, h13]
            refine s_addTree ho (orC_6 ho hO F15) hk (by omega) (fun σ17 hf17 O17 => ?_)
            refine hP (addT_ok hk (by omega) ⟨v1, w1⟩ w2 w3) σ17 (i + 4) ((Sd_6 F15).tr (hf17.up So_Sd)) O17 ?_ i4' rfl
            rw [hf17.1 6 (So_6 ho)]; exact r15.1
          · rw [if_pos s5] at hP
            rw [decide_eq_false (show ¬ tk t (i + 3 + 1) = 5 from s5)]
            exact ⟨fun c => absurd rfl c, fun _ => hP σ15 (Sd_6 F15) r15.1 (by omega)⟩
