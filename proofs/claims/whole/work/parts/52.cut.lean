theorem skS_sp {t : Tx} {j : Nat} (hj : j < t.1) (h : t.2 j = 32) : skS t j = skS t (j + 1) := by
  unfold skS
  rw [show t.1 - j = (t.1 - (j + 1)) + 1 by omega, runE, if_pos (by simp [h])]
theorem skS_no {t : Tx} {j : Nat} (hj : j < t.1) (h : ¬ t.2 j = 32) : skS t j = j := by
  unfold skS
  rw [show t.1 - j = (t.1 - (j + 1)) + 1 by omega, runE, if_neg (by simp [h])]
theorem skS_len (t : Tx) : skS t t.1 = t.1 := by
  have := skS_b t (Nat.le_refl t.1)
  omega
theorem nT_eq {t : Tx} {i : Nat} (h : tk t i = 6) (hl : ∀ k, k < i → tk t k ≠ 6) : i = nT t := by
  obtain ⟨-, h2, h3⟩ := nT_s t
  rcases Nat.lt_trichotomy i (nT t) with q | q | q
  · exact absurd h (h3 i q)
  · exact q
  · exact absurd h2 (hl _ q)
def tkC (σ : St) (t : Tx) : Prop := (∀ i, i ≤ nT t → σ.1 3 i = nI (tk t i) ∧ σ.1 4 i = nI (tp t i)) ∧ ∀ i, i < nT t → σ.1 5 i = nI (tv t i)
theorem s_cut {σ : St} {t : Tx} {P : St → Prop} (hT : txt σ t) (hl : t.1 ≤ 300) (hP : ∀ σ', frC [3, 4, 5] σ σ' → tkC σ' t → P σ') : wX8_cutIntoTokens σ P := by
  unfold wX8_cutIntoTokens
  refine ⟨t.1 + 1, ?_⟩
  have step : ∀ d i j σ1, t.1 ≤ j + d → j ≤ t.1 → i ≤ j → skS t j = tp t i → frC [3, 4, 5] σ σ1 → (∀ k, k < i → tk t k ≠ 6 ∧ σ1.1 3 k = nI (tk t k) ∧ σ1.1 4 k = nI (tp t k) ∧ σ1.1 5 k = nI (tv t k)) →
      wLX8_cutIntoTokens_4 (fun (σ21 : St) (y20 : Int32) => vp_in y20 301 ∧ ∀ σ23 : St, σ23 = sI σ21 3 y20.toNatClampNeg (6 : Int32) → vp_in y20 301 ∧ ∀ σ25 : St, σ25 = sI σ23 4 y20.toNatClampNeg (σ23.1 1 1) → P σ25) P (d + 1) σ1 (nI i) (nI j) := by
    intro d
    induction d with
    | zero =>
      intro i j σ1 hd hj hij hs hf hk
      have T1 := txt_fr hT hf (by decide)
      rw [wLX8_cutIntoTokens_4, T1.1]
      have ej : j = t.1 := by omega
      refine ⟨fun _ => ⟨vp_in_nI (by omega) (by omega), fun σ23 h23 => ⟨vp_in_nI (by omega) (by omega), fun σ25 h25 => ?_⟩⟩, fun c => absurd (nI_le (by omega) (by omega)) c⟩
      rw [cl (n := i) (by omega)] at h23 h25
      have e1 : σ23.1 1 1 = nI t.1 := by rw [h23, sI_ne (by decide)]; exact T1.1
      rw [e1] at h25
      have tpi : tp t i = t.1 := by rw [← hs, ej]; exact skS_len t
      have t6 : tk t i = 6 := (tk_6 t i).mpr tpi
      have en := nT_eq t6 (fun k hk' => (hk k hk').1)
      refine hP σ25 (by rw [h25, h23]; exact (hf.wr (by decide)).wr (by decide)) ⟨fun k hk' => ?_, fun k hk' => ?_⟩
      · rw [h25, sI_ne (by decide), h23, sI_get, sI_get, sI_ne (by decide)]
        by_cases e : k = i
        · subst e; rw [if_pos ⟨rfl, rfl⟩, if_pos ⟨rfl, rfl⟩, t6, tpi]; exact ⟨rfl, rfl⟩
        · rw [if_neg (fun y => e y.2), if_neg (fun y => e y.2)]
          obtain ⟨-, a, b, -⟩ := hk k (by omega)
          exact ⟨a, b⟩
      · rw [h25, sI_ne (by decide), h23, sI_ne (by decide)]
        exact (hk k (by omega)).2.2.2
    | succ d ih =>
      intro i j σ1 hd hj hij hs hf hk
      by_cases ej : j = t.1
      · -- the end before the count of steps is done
        have T1 := txt_fr hT hf (by decide)
        rw [wLX8_cutIntoTokens_4, T1.1]
        refine ⟨fun _ => ⟨vp_in_nI (by omega) (by omega), fun σ23 h23 => ⟨vp_in_nI (by omega) (by omega), fun σ25 h25 => ?_⟩⟩, fun c => absurd (nI_le (by omega) (by omega)) c⟩
        rw [cl (n := i) (by omega)] at h23 h25
        have e1 : σ23.1 1 1 = nI t.1 := by rw [h23, sI_ne (by decide)]; exact T1.1
        rw [e1] at h25
        have tpi : tp t i = t.1 := by rw [← hs, ej]; exact skS_len t
        have t6 : tk t i = 6 := (tk_6 t i).mpr tpi
        have en := nT_eq t6 (fun k hk' => (hk k hk').1)
        refine hP σ25 (by rw [h25, h23]; exact (hf.wr (by decide)).wr (by decide)) ⟨fun k hk' => ?_, fun k hk' => ?_⟩
        · rw [h25, sI_ne (by decide), h23, sI_get, sI_get, sI_ne (by decide)]
          by_cases e : k = i
          · subst e; rw [if_pos ⟨rfl, rfl⟩, if_pos ⟨rfl, rfl⟩, t6, tpi]; exact ⟨rfl, rfl⟩
          · rw [if_neg (fun y => e y.2), if_neg (fun y => e y.2)]
            obtain ⟨-, a, b, -⟩ := hk k (by omega)
            exact ⟨a, b⟩
        · rw [h25, sI_ne (by decide), h23, sI_ne (by decide)]
          exact (hk k (by omega)).2.2.2
      · have jl : j < t.1 := by omega
        have T1 := txt_fr hT hf (by decide)
        rw [wLX8_cutIntoTokens_4, T1.1]
        refine ⟨fun c => absurd c (nI_ge jl (by omega)), fun _ => ⟨fun c => absurd ((leI (a := 300) rfl rfl (by omega) (by omega)).mp c) (by omega), fun _ => s_at T1 hl jl ⟨fun c => ?_, fun c z hz => ?_⟩⟩⟩
        · have c : ¬ t.2 j = 32 := fun q => c (by rw [q]; rfl)
          have sj := skS_no jl c
          have tpi : tp t i = j := by rw [← hs]; exact sj
          obtain ⟨b1, b2⟩ := tokE_b t jl
          have kb := tokK_b t j
          have tki : tk t i = tokK t j := by unfold tk tkP; rw [tpi, if_pos jl]
          have tvi : tv t i = tokV t j := by unfold tv tvP; rw [tpi, if_pos jl]
          have v : vp_in (nI i) 301 := vp_in_nI (by omega) (by omega)
          refine s_endOfToken T1 hl jl ⟨v, fun σ6 h6 => ?_⟩
          rw [cl (n := i) (by omega)] at h6 ⊢
          have F6 : frC [3, 4, 5] σ σ6 := by rw [h6]; exact hf.wr (by decide)
          refine s_tokenOf (txt_fr hT F6 (by decide)) hl jl ⟨v, fun σ9 h9 => ⟨v, ?_⟩⟩
          have F9 : frC [3, 4, 5] σ σ9 := by rw [h9]; exact F6.wr (by decide)
          have e9 : σ9.1 3 i = nI (tokK t j) := by rw [h9, sI_at]
          rw [e9]
          have go : ∀ v12 : Int32, v12 = nI (tokV t j) → vp_in (nI i) 301 ∧ ∀ σ14 : St, σ14 = sI σ9 5 i v12 → ∀ z15 : Int32, z15 = nI i + (1 : Int32) → ∀ z16 : Int32, z16 = (if nI (tokE t j) < (nI j + (1 : Int32)) then (nI j + (1 : Int32)) else nI (tokE t j)) → wLX8_cutIntoTokens_4 (fun (σ21 : St) (y20 : Int32) => vp_in y20 301 ∧ ∀ σ23 : St, σ23 = sI σ21 3 y20.toNatClampNeg (6 : Int32) → vp_in y20 301 ∧ ∀ σ25 : St, σ25 = sI σ23 4 y20.toNatClampNeg (σ23.1 1 1) → P σ25) P (d + 1) σ14 z15 z16 := fun v12 hv => ⟨v, fun σ14 h14 z15 h15 z16 h16 => by
            rw [add1 j, if_neg (fun c => by have := (nI_ltI (by omega) (by omega)).mp c; omega)] at h16
            rw [h15, h16, add1]
            refine ih (i + 1) (tokE t j) σ14 (by omega) b2 (by omega) ?_ (by rw [h14]; exact F9.wr (by decide)) (fun k hk' => ?_)
            · rw [tp, tpi]; unfold afP; rw [if_pos jl]
            · have e3 : σ14.1 3 k = if k = i then nI (tokK t j) else σ1.1 3 k := by
                rw [h14, sI_ne (by decide), h9, sI_get, h6, sI_ne (by decide)]; simp
              have e4 : σ14.1 4 k = if k = i then nI j else σ1.1 4 k := by
                rw [h14, sI_ne (by decide), h9, sI_ne (by decide), h6, sI_get]; simp
              have e5 : σ14.1 5 k = if k = i then v12 else σ1.1 5 k := by
                rw [h14, sI_get, h9, sI_ne (by decide), h6, sI_ne (by decide)]; simp
              rw [e3, e4, e5]
              by_cases e : k = i
              · subst e
                rw [if_pos rfl, if_pos rfl, if_pos rfl, tki, tvi, tpi, hv]
                exact ⟨kb.2, rfl, rfl, rfl⟩
              · rw [if_neg e, if_neg e, if_neg e]
                exact hk k (by omega)⟩
          refine jn_in ⟨fun c4 => go _ ?_, fun c4 => s_numberAt (txt_fr hT F9 (by decide)) hl jl ((eqI rfl (b := 4) rfl (by omega) (by omega)).mp c4) (go _ rfl)⟩
          unfold tokV
          rw [if_neg (fun q => c4 (by rw [q]; rfl))]; rfl
        · have c := (eqI rfl (b := 32) rfl (by have := (hT.2 j jl).2; omega) (by omega)).mp c
          rw [hz, add1]
          exact ih i (j + 1) σ1 (by omega) (by omega) (by omega) (by rw [← skS_sp jl c]; exact hs) hf hk
  exact step t.1 0 0 σ (by omega) (Nat.zero_le _) (Nat.le_refl _) rfl frC.rf (fun k hk => absurd hk (Nat.not_lt_zero k))
