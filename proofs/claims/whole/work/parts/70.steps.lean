/-! each call, on both sides -/
def RR (σ μ : St) : Prop := ∃ (O : Orc) (N : Nw) (im : Nat → Option Nw) (len : Nat) (tx : Nat → Int32), oOk O ∧ nOk (oT O) N ∧ nD N ≤ 30 ∧ (∀ i N', im i = some N' → nOk (oT O) N' ∧ nD N' ≤ 30) ∧ len ≤ 300 ∧ clR σ O N im len tx ∧ mdR μ O N im len tx ∧ σ.2.1 = μ.2.1
theorem cor_fr2 {S : List Nat} {σ σ' : St} {O : Orc} (h : cor σ O) (hf : frC S σ σ') (hs : ∀ k, k ∈ S → k < 7 ∨ 32 ≤ k) : cor σ' O := cor_fr h hf hs
theorem txC_fr {S : List Nat} {σ σ' : St} {len : Nat} {tx : Nat → Int32} (h : txC σ len tx) (hf : frC S σ σ') (h1 : 1 ∉ S) (h2 : 2 ∉ S) : txC σ' len tx := ⟨by rw [hf.1 1 h1]; exact h.1, fun j hj => by rw [hf.1 2 h2]; exact h.2 j hj⟩
theorem clR_N {S : List Nat} {σ σ' : St} {O : Orc} {N N' : Nw} {im : Nat → Option Nw} {len : Nat} {tx : Nat → Int32} (h : clR σ O N im len tx) (hf : frC S σ σ') (hs : ∀ k, k ∈ S → k = 65 ∨ k = 66) (hN : nwC σ' 65 (oT O) N') : clR σ' O N' im len tx := by
  obtain ⟨h1, h2, h3, h4, h5, h6, h7⟩ := h
  have a : ∀ k, k ≠ 65 → k ≠ 66 → k ∉ S := fun k k1 k2 q => by have := hs k q; omega
  refine ⟨cor_fr h1 hf (fun k hk => by have := hs k hk; omega), hN, imC_fr h3 hf (fun k hk => by have := hs k hk; omega), ckC_fr h4 hf (a _ (by omega) (by omega)) (a _ (by omega) (by omega)) (a _ (by omega) (by omega)) (a _ (by omega) (by omega)), txC_fr h5 hf (a _ (by omega) (by omega)) (a _ (by omega) (by omega)), by rw [hf.2]; exact h6, by rw [hf.2]; exact h7⟩
theorem clR_P {S : List Nat} {σ σ' : St} {O : Orc} {N : Nw} {im : Nat → Option Nw} {len : Nat} {tx : Nat → Int32} (h : clR σ O N im len tx) (hf : frC S σ σ') (hs : ∀ k, k ∈ S → 51 ≤ k ∧ k ≤ 68 ∧ k ≠ 65 ∧ k ≠ 66) : clR σ' O N im len tx := by
  obtain ⟨h1, h2, h3, h4, h5, h6, h7⟩ := h
  have a : ∀ k, k < 51 ∨ k = 65 ∨ k = 66 → k ∉ S := fun k k1 q => by have := hs k q; omega
  exact ⟨cor_fr h1 hf (fun k hk => by have := hs k hk; omega), nwC_fr h2 hf (a _ (by omega)) (a _ (by omega)), imC_fr h3 hf (fun k hk => by have := hs k hk; omega), ckC_fr h4 hf (a _ (by omega)) (a _ (by omega)) (a _ (by omega)) (a _ (by omega)), txC_fr h5 hf (a _ (by omega)) (a _ (by omega)), by rw [hf.2]; exact h6, by rw [hf.2]; exact h7⟩
theorem mdR_N {μ μ' : St} {O : Orc} {N N' : Nw} {im : Nat → Option Nw} {len : Nat} {tx : Nat → Int32} (hk : oOk O) (h : mdR μ O N im len tx) (hf : f12 0 μ μ') (hN : nwM μ' 0 (oT O) N') : mdR μ' O N' im len tx := by
  obtain ⟨h1, h2, h3, h4⟩ := h
  exact ⟨orM_fr h1 hf.1 (by decide), hN, imM_12 hk.2.1 h3 hf.1 (by decide) (fun j hj => hf.2 j (by omega)), ⟨by rw [hf.1.1 0 (by decide)]; exact h4.1, fun j hj => by rw [hf.1.1 1 (by decide)]; exact h4.2 j hj⟩⟩
theorem mdR_P {S : List Nat} {μ μ' : St} {O : Orc} {N : Nw} {im : Nat → Option Nw} {len : Nat} {tx : Nat → Int32} (hk : oOk O) (h : mdR μ O N im len tx) (hf : frC S μ μ') (hs : ∀ k, k ∈ S → 12 ≤ k ∧ k ≠ 13) (hj : ∀ j, (j < 12 ∨ 24 ≤ j) → μ'.1 12 j = μ.1 12 j) : mdR μ' O N im len tx := by
  obtain ⟨h1, h2, h3, h4⟩ := h
  have h5 := hk.2.1
  exact ⟨orM_fr h1 hf (fun k hk => by have := hs k hk; omega), nwM_kept h2 (fun j _ hj2 => hj j (by omega)), imM_12 h5 h3 hf (fun q => by have := hs 13 q; omega) (fun j hj2 => hj j (by omega)), ⟨by rw [hf.1 0 (fun q => by have := hs 0 q; omega)]; exact h4.1, fun j hj2 => by rw [hf.1 1 (fun q => by have := hs 1 q; omega)]; exact h4.2 j hj2⟩⟩
theorem mdR_Q {S : List Nat} {μ μ' : St} {O : Orc} {N : Nw} {im : Nat → Option Nw} {len : Nat} {tx : Nat → Int32} (hk : oOk O) (h : mdR μ O N im len tx) (hf : frC S μ μ') (hs : ∀ k, k ∈ S → 14 ≤ k) : mdR μ' O N im len tx :=
  mdR_P hk h hf (fun k hk => by have := hs k hk; omega) (fun j _ => by rw [hf.1 12 (fun q => by have := hs 12 q; omega)])
theorem st_type {σ μ : St} (h : RR σ μ) (v : Int64) (n : Int32) : wX9_type σ v n (fun r σ' => wX10_type μ v n (fun r' μ' => r = r' ∧ RR σ' μ')) := by
  obtain ⟨O, N, im, len, tx, hk, hN, hd, hi, hl, hC, hM, ht⟩ := h
  refine s_type9 hl hC.2.2.2.2.1 (fun σ' f9 g9 t9 => m_type10 hl hM.2.2.2 (fun μ' f10 g10 t10 => ⟨rfl, O, N, im, lenType len n, txType len tx v n, hk, hN, hd, hi, ?_, ?_, ?_, by rw [f9.2, f10.2]; exact ht⟩))
  · unfold lenType
    split
    · split
      · assumption
      · exact hl
    · exact hl
  · obtain ⟨h1, h2, h3, h4, h5, h6, h7⟩ := hC
    exact ⟨cor_fr h1 f9 (by decide), nwC_fr h2 f9 (by decide) (by decide), imC_fr h3 f9 (by decide), ckC_fr h4 f9 (by decide) (by decide) (by decide) (by decide), t9, by rw [f9.2]; exact h6, by rw [f9.2]; exact h7⟩
  · obtain ⟨h1, h2, h3, h4⟩ := hM
    exact ⟨orM_fr h1 f10 (by decide), nwM_kept h2 (fun j _ _ => by rw [f10.1 12 (by decide)]), imM_12 hk.2.1 h3 f10 (by decide) (fun j _ => by rw [f10.1 12 (by decide)]), t10⟩
theorem st_clear {σ μ : St} (h : RR σ μ) : wX9_clear σ (fun r σ' => wX10_clear μ (fun r' μ' => r = r' ∧ RR σ' μ')) := by
  obtain ⟨O, N, im, len, tx, hk, hN, hd, hi, hl, hC, hM, ht⟩ := h
  refine s_clear9 hC.2.2.2.2.1 (fun σ' f9 g9 t9 => m_clear10 hM.2.2.2 (fun μ' f10 g10 t10 => ⟨rfl, O, N, im, 0, tx, hk, hN, hd, hi, by omega, ?_, ?_, by rw [f9.2, f10.2]; exact ht⟩))
  · obtain ⟨h1, h2, h3, h4, h5, h6, h7⟩ := hC
    exact ⟨cor_fr h1 f9 (by decide), nwC_fr h2 f9 (by decide) (by decide), imC_fr h3 f9 (by decide), ckC_fr h4 f9 (by decide) (by decide) (by decide) (by decide), t9, by rw [f9.2]; exact h6, by rw [f9.2]; exact h7⟩
  · obtain ⟨h1, h2, h3, h4⟩ := hM
    exact ⟨orM_fr h1 f10 (by decide), nwM_kept h2 (fun j _ _ => by rw [f10.1 12 (by decide)]), imM_12 hk.2.1 h3 f10 (by decide) (fun j _ => by rw [f10.1 12 (by decide)]), t10⟩
theorem st_orchard {σ μ : St} (h : RR σ μ) : wX9_orchard σ (fun r σ' => wX10_orchard μ (fun r' μ' => r = r' ∧ RR σ' μ')) := by
  obtain ⟨O, N, im, len, tx, hk, hN, hd, hi, hl, hC, hM, ht⟩ := h
  refine s_orchard9 hC hl (fun f e σ' c' t' => ?_) (fun q e σ' c' t' => ?_)
  · refine m_orchard10 hM hk hl (fun f2 e2 μ' m' u' => ?_) (fun q2 e2 μ' m' u' => ?_)
    · rw [e] at e2
      cases e2
      exact ⟨rfl, O, N, im, len, tx, hk, hN, hd, hi, hl, c', m', by rw [t', u']; exact ht⟩
    · rw [e] at e2; cases e2
  · refine m_orchard10 hM hk hl (fun f2 e2 μ' m' u' => ?_) (fun q2 e2 μ' m' u' => ?_)
    · rw [e] at e2; cases e2
    · rw [e] at e2
      cases e2
      have qk := (rdAll_b _ _ _ _ _ _ e O00_ok).2
      refine ⟨rfl, q.1, nSetB (nBeg N) (oB q.1), fun _ => none, 0, tx, qk, ⟨by show 0 ≤ 31; omega, by show 0 < 256; omega, by show 0 < 32; omega, fun t htt => ?_⟩, by show 0 ≤ 30; omega, (fun i N' q => by cases q), by omega, c', m', by rw [t', u']; exact ht⟩
      have := (qk.2.2.2.2 t htt).2.2
      show oB q.1 t ≤ 198
      omega
theorem st_half {σ μ : St} (h : RR σ μ) (p w : Int32) : wX9_half σ p w (fun r => wX10_half μ p w (fun r' => r = r')) := by
  obtain ⟨O, N, im, len, tx, hk, hN, hd, hi, hl, hC, hM, ht⟩ := h
  exact s_half9 hC.1 hk hC.2.1 hN (m_half10 hM.1 hk hM.2.1 hN rfl)
theorem st_tree {σ μ : St} (h : RR σ μ) (p w : Int32) : wX9_tree σ p w (fun r => wX10_tree μ p w (fun r' => r = r')) := by
  obtain ⟨O, N, im, len, tx, hk, hN, hd, hi, hl, hC, hM, ht⟩ := h
  exact s_tree9 hC.1 hk hC.2.1 hN (m_tree10 hM.1 hk hM.2.1 hN rfl)
theorem st_fit {σ μ : St} (h : RR σ μ) (a b : Int32) : wX9_fit σ a b (fun r => wX10_fit μ a b (fun r' => r = r')) := by
  obtain ⟨O, N, im, len, tx, hk, hN, hd, hi, hl, hC, hM, ht⟩ := h
  exact s_fit9 hC.1 hk (m_fit10 hM.1 hk rfl)
theorem nwClimb_ok {O : Orc} {N : Nw} (hk : oOk O) (h : nOk (oT O) N) (a b t : Int32) : nOk (oT O) (nwClimb O N a b t) ∧ nD (nwClimb O N a b t) = nD N := by
  unfold nwClimb
  split
  · rename_i c
    split
    · unfold cl3 at c
      simp only [Bool.and_eq_true] at c
      have h8 := hk.1
      have h5 := hk.2.1
      obtain ⟨k1, q1, rfl⟩ := inR_t c.1.1.1 (by omega)
      obtain ⟨k2, q2, rfl⟩ := inR_t c.1.1.2 (by omega)
      obtain ⟨k3, q3, rfl⟩ := inR_t c.2 (by omega)
      rw [cl (n := k1) (by omega), cl (n := k2) (by omega), cl (n := k3) (by omega)]
      exact ⟨nPick_ok h (by omega) (by omega) (by omega), rfl⟩
    · exact ⟨h, rfl⟩
  · exact ⟨h, rfl⟩
theorem st_climb {σ μ : St} (h : RR σ μ) (a b t : Int32) : wX9_climb σ a b t (fun r σ' => wX10_climb μ a b t (fun r' μ' => r = r' ∧ RR σ' μ')) := by
  obtain ⟨O, N, im, len, tx, hk, hN, hd, hi, hl, hC, hM, ht⟩ := h
  obtain ⟨k1, k2⟩ := nwClimb_ok hk hN a b t
  exact s_climb9 hC.1 hk hC.2.1 hN (fun σ' f9 n9 => m_climb hM.1 hk hM.2.1 hN (fun μ' f10 n10 => ⟨rfl, O, _, im, len, tx, hk, k1, by rw [k2]; exact hd, hi, hl, clR_N hC f9 (by decide) n9, mdR_N hk hM f10 n10, by rw [f9.2, f10.1.2]; exact ht⟩))
theorem st_ends {σ μ : St} (h : RR σ μ) : wX9_ends σ (fun r σ' => wX10_ends μ (fun r' μ' => r = r' ∧ RR σ' μ')) := by
  obtain ⟨O, N, im, len, tx, hk, hN, hd, hi, hl, hC, hM, ht⟩ := h
  have k : nOk (oT O) (nwEnds O N) ∧ nD (nwEnds O N) ≤ 30 := by
    unfold nwEnds
    split
    · exact ⟨hN, hd⟩
    · exact ⟨nEnd_ok hN hd, by show nD N + 1 ≤ 30; omega⟩
  exact s_ends9 hC.1 hk hC.2.1 hd (fun σ' f9 n9 => m_ends hM.1 hk hM.2.1 hd (fun μ' f10 n10 => ⟨rfl, O, _, im, len, tx, hk, k.1, k.2, hi, hl, clR_N hC f9 (by decide) n9, mdR_N hk hM f10 n10, by rw [f9.2, f10.1.2]; exact ht⟩))
theorem st_now {σ μ : St} (h : RR σ μ) (w : Int32) : wX9_now σ w (fun r => wX10_now μ w (fun r' => r = r')) := by
  obtain ⟨O, N, im, len, tx, hk, hN, hd, hi, hl, hC, hM, ht⟩ := h
  exact s_now9 hC.1 hk hC.2.1 (m_now hM.1 hk hM.2.1 rfl)
theorem st_year {σ μ : St} (h : RR σ μ) : wX9_year σ (fun r σ' => wX10_year μ (fun r' μ' => r = r' ∧ RR σ' μ')) := by
  obtain ⟨O, N, im, len, tx, hk, hN, hd, hi, hl, hC, hM, ht⟩ := h
  have k : nOk (oT O) (nBlo O (nBeg N)) := ⟨by show 0 ≤ 31; omega, by show 0 < 256; omega, by show 0 < 32; omega, fun t htt => by rw [nBlo_b]; exact blo_le hk htt⟩
  exact s_year9 hC.1 hk hC.2.1 (fun σ' f9 n9 => m_year hM.1 hk hM.2.1 (fun μ' f10 n10 => ⟨rfl, O, _, im, len, tx, hk, k, by show 0 ≤ 30; omega, hi, hl, clR_N hC f9 (by decide) n9, mdR_N hk hM f10 n10, by rw [f9.2, f10.1.2]; exact ht⟩))
theorem st_lot {σ μ : St} (h : RR σ μ) (v : Int32) : wX9_lot σ v (fun r σ' => wX10_lot μ v (fun r' μ' => r = r' ∧ RR σ' μ')) := by
  obtain ⟨O, N, im, len, tx, hk, hN, hd, hi, hl, hC, hM, ht⟩ := h
  exact s_lot9 hC.2.1 (fun σ' f9 n9 => m_lot hM.2.1 (fun μ' f10 n10 => ⟨rfl, O, (nD N, nC N, nK N, nP N, nF N, v, nB N), im, len, tx, hk, hN, hd, hi, hl, clR_N hC f9 (by decide) n9, mdR_N hk hM f10 n10, by rw [f9.2, f10.1.2]; exact ht⟩))
theorem st_best {σ μ : St} (h : RR σ μ) (t : Int32) : wX9_best σ t (fun r σ' => wX10_best μ t (fun r' μ' => r = r' ∧ RR σ' μ')) := by
  obtain ⟨O, N, im, len, tx, hk, hN, hd, hi, hl, hC, hM, ht⟩ := h
  exact s_best9 hC.1 hk hC.2.1 hN (fun σ' f9 => m_best10 hM.1 hk hM.2.1 hN (fun μ' f10 => ⟨rfl, O, N, im, len, tx, hk, hN, hd, hi, hl, clR_P hC f9 (by decide), mdR_Q hk hM f10 (by decide), by rw [f9.2, f10.2]; exact ht⟩))
theorem st_season {σ μ : St} (h : RR σ μ) (k : Int32) : wX9_season σ k (fun r σ' => wX10_season μ k (fun r' μ' => r = r' ∧ RR σ' μ')) := by
  obtain ⟨O, N, im, len, tx, hk, hN, hd, hi, hl, hC, hM, ht⟩ := h
  exact s_season9 hC.1 hk hC.2.1 hN hd (fun σ' f9 => m_season10 hM.1 hk hM.2.1 hN hd (fun μ' f10 => ⟨rfl, O, N, im, len, tx, hk, hN, hd, hi, hl, clR_P hC f9 (by decide), mdR_P hk hM f10.1 (by decide) f10.2, by rw [f9.2, f10.1.2]; exact ht⟩))
theorem st_whole {σ μ : St} (h : RR σ μ) (x : Int32) : wX9_whole σ x (fun r => wX10_whole μ x (fun r' μ' => r = r' ∧ RR σ μ')) := by
  obtain ⟨O, N, im, len, tx, hk, hN, hd, hi, hl, hC, hM, ht⟩ := h
  exact s_whole9 hC.1.1 hC.1.2.1 hk hC.2.2.2.1.1 (m_whole10 hM.1 hk (fun μ' f10 => ⟨rfl, O, N, im, len, tx, hk, hN, hd, hi, hl, hC, mdR_Q hk hM f10 (by decide), by rw [f10.2]; exact ht⟩))
theorem st_worth {σ μ : St} (h : RR σ μ) (p w : Int32) : wX9_worth σ p w (fun r => wX10_worth μ p w (fun r' μ' => r = r' ∧ RR σ μ')) := by
  obtain ⟨O, N, im, len, tx, hk, hN, hd, hi, hl, hC, hM, ht⟩ := h
  exact s_worth9 hC.1.1 hC.1.2.1 hk hC.2.2.2.1.1 (m_worth10 hM.1 hk (fun μ' f10 => ⟨rfl, O, N, im, len, tx, hk, hN, hd, hi, hl, hC, mdR_Q hk hM f10 (by decide), by rw [f10.2]; exact ht⟩))
theorem st_rests {σ μ : St} (h : RR σ μ) : wX9_rests σ (fun r => wX10_rests μ (fun r' μ' => r = r' ∧ RR σ μ')) := by
  obtain ⟨O, N, im, len, tx, hk, hN, hd, hi, hl, hC, hM, ht⟩ := h
  unfold wX9_rests
  rw [hC.2.2.2.1.2.2.2]
  exact m_rests10 hM.1 hk (fun μ' f10 => ⟨rfl, O, N, im, len, tx, hk, hN, hd, hi, hl, hC, mdR_Q hk hM f10 (by decide), by rw [f10.2]; exact ht⟩)
theorem st_cuts {σ μ : St} (h : RR σ μ) (k : Int32) : wX9_cuts σ k (fun r => wX10_cuts μ k (fun r' μ' => r = r' ∧ RR σ μ')) := by
  obtain ⟨O, N, im, len, tx, hk, hN, hd, hi, hl, hC, hM, ht⟩ := h
  exact s_cuts9 hC.2.2.2.1.2.1 (m_cuts10 hM.1 hk (fun μ' f10 => ⟨rfl, O, N, im, len, tx, hk, hN, hd, hi, hl, hC, mdR_Q hk hM f10 (by decide), by rw [f10.2]; exact ht⟩))
theorem st_whose {σ μ : St} (h : RR σ μ) (g a w : Int32) : wX9_whose σ g a w (fun r => wX10_whose μ g a w (fun r' => r = r')) := by
  obtain ⟨O, N, im, len, tx, hk, hN, hd, hi, hl, hC, hM, ht⟩ := h
  exact s_whose9 hk hC.1.2.2.1 (m_whose10 hM.1 hk rfl)
theorem st_mark {σ μ : St} (h : RR σ μ) (kd p : Int32) : wX9_mark σ kd p (fun r σ' => wX10_mark μ kd p (fun r' μ' => r = r' ∧ RR σ' μ')) := by
  obtain ⟨O, N, im, len, tx, hk, hN, hd, hi, hl, hC, hM, ht⟩ := h
  refine s_mark9 hC.1 hk hC.2.1 (m_mark10 hM.1 hk hM.2.1 ⟨rfl, O, N, im, len, tx, hk, hN, hd, hi, hl, hC, hM, ?_⟩)
  show σ.2.1 + _ = μ.2.1 + _
  rw [ht]
theorem st_keep {σ μ : St} (h : RR σ μ) (k : Int32) : wX9_keep σ k (fun r σ' => wX10_keep μ k (fun r' μ' => r = r' ∧ RR σ' μ')) := by
  obtain ⟨O, N, im, len, tx, hk, hN, hd, hi, hl, hC, hM, ht⟩ := h
  refine s_keep9 hk.2.1 hC.2.1 hC.2.2.1 (fun σ' f9 i9 => m_keep10 hk.2.1 hM.2.1 hM.2.2.1 (fun μ' f10 g10 i10 => ⟨rfl, O, N, imKeep N im k, len, tx, hk, hN, hd, ?_, hl, ?_, ?_, by rw [f9.2, f10.2]; exact ht⟩))
  · intro i N' e
    unfold imKeep at e
    split at e
    · by_cases q : i = k.toNatClampNeg
      · have e : (if i = k.toNatClampNeg then some N else im i) = some N' := e
        rw [if_pos q] at e
        cases e
        exact ⟨hN, hd⟩
      · have e : (if i = k.toNatClampNeg then some N else im i) = some N' := e
        rw [if_neg q] at e
        exact hi i N' e
    · exact hi i N' e
  · obtain ⟨h1, h2, h3, h4, h5, h6, h7⟩ := hC
    exact ⟨cor_fr h1 f9 (by decide), nwC_fr h2 f9 (by decide) (by decide), i9, ckC_fr h4 f9 (by decide) (by decide) (by decide) (by decide), txC_fr h5 f9 (by decide) (by decide), by rw [f9.2]; exact h6, by rw [f9.2]; exact h7⟩
  · obtain ⟨h1, h2, h3, h4⟩ := hM
    have h5 := hk.2.1
    exact ⟨orM_fr h1 f10 (by decide), nwM_kept h2 (fun j _ hj => g10 j (by omega)), i10, ⟨by rw [f10.1 0 (by decide)]; exact h4.1, fun j hj => by rw [f10.1 1 (by decide)]; exact h4.2 j hj⟩⟩
theorem st_back {σ μ : St} (h : RR σ μ) (k : Int32) : wX9_back σ k (fun r σ' => wX10_back μ k (fun r' μ' => r = r' ∧ RR σ' μ')) := by
  obtain ⟨O, N, im, len, tx, hk, hN, hd, hi, hl, hC, hM, ht⟩ := h
  have kk : nOk (oT O) (nwBack N im k) ∧ nD (nwBack N im k) ≤ 30 := by
    unfold nwBack
    split
    · cases e : im k.toNatClampNeg with
      | none => exact ⟨hN, hd⟩
      | some N' => exact hi _ N' e
    · exact ⟨hN, hd⟩
  exact s_back9 hk.2.1 hC.2.1 hC.2.2.1 (fun σ' f9 n9 => m_back10 hk.2.1 hM.2.1 hM.2.2.1 (fun μ' f10 n10 => ⟨rfl, O, _, im, len, tx, hk, kk.1, kk.2, hi, hl, clR_N hC f9 (by decide) n9, mdR_N hk hM f10 n10, by rw [f9.2, f10.1.2]; exact ht⟩))
theorem st_count {σ μ : St} (h : RR σ μ) (w : Int32) : wX9_count σ w (fun r => wX10_count μ w (fun r' => r = r')) := by
  obtain ⟨O, N, im, len, tx, hk, hN, hd, hi, hl, hC, hM, ht⟩ := h
  exact s_count9 hC.1 hk hC.2.2.2.2.1.1 (m_count10 hM.1 hk hM.2.2.2.1 rfl)
theorem st_trace {σ μ : St} (h : RR σ μ) : wX9_trace σ (fun r => wX10_trace μ (fun r' => r = r')) := by
  obtain ⟨O, N, im, len, tx, hk, hN, hd, hi, hl, hC, hM, ht⟩ := h
  exact ht
theorem st_asked {σ μ : St} (h : RR σ μ) (p : Int32) : wX9_asked σ p (fun r => wX10_asked μ p (fun r' μ' => r = r' ∧ RR σ μ')) := by
  obtain ⟨O, N, im, len, tx, hk, hN, hd, hi, hl, hC, hM, ht⟩ := h
  have h8 := hk.1
  have fin : ∀ r, r = ansAsked O p → wX10_asked μ p (fun r' μ' => r = r' ∧ RR σ μ') := fun r e => m_asked10 hM.1 hk (fun μ' f10 => ⟨e, O, N, im, len, tx, hk, hN, hd, hi, hl, hC, mdR_Q hk hM f10 (by decide), by rw [f10.2]; exact ht⟩)
  unfold wX9_asked
  refine ⟨hC.1.1, s_hasHalf hC.1.1 hC.1.2.1.1 h8 (br_b (fun e => fin _ ?_) (fun e => ?_))⟩
  · unfold ansAsked
    rw [if_neg (by rw [e]; decide)]
  · obtain ⟨k, hk2, rfl⟩ := inR_t e (by omega)
    refine ⟨vp_in_nI (by omega) (by omega), fin _ ?_⟩
    unfold ansAsked
    rw [if_pos e, cl (n := k) (by omega)]
    exact hC.2.2.2.1.2.2.1 k (by omega)
