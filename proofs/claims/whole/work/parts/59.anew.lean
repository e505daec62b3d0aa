/-! the class starts anew, and its orchard -/
theorem nar00 : vp_nar .boolean (0 : Int32) = bI false := by decide
theorem nwC_fr {S : List Nat} {σ σ' : St} {n T : Nat} {N : Nw} (h : nwC σ n T N) (hf : frC S σ σ') (h0 : n ∉ S) (h1 : n + 1 ∉ S) : nwC σ' n T N := nwC_kept h (hf.1 n h0) (hf.1 _ h1)
/-- what the class reckons when an orchard is told -/
def ckC (σ : St) (O : Orc) : Prop := (∀ s, s < 2 ^ oP O → σ.1 33 s = nI (W_ O s)) ∧ (∀ k, 1 ≤ k → k ≤ 4 → σ.1 35 k = oV (FK O k)) ∧ (∀ p, p < 8 → σ.1 47 p = oV ((AskF O).1 p)) ∧ σ.1 37 4 = nI (ansRests O)
def SA : List Nat := [25, 26, 27, 28, 29, 30, 31, 33, 35, 36, 37, 39, 40, 41, 42, 43, 44, 45, 46, 47, 48, 49, 65, 66, 70]
theorem ckC_fr {S : List Nat} {σ σ' : St} {O : Orc} (h : ckC σ O) (hf : frC S σ σ') (h1 : 33 ∉ S) (h2 : 35 ∉ S) (h3 : 47 ∉ S) (h4 : 37 ∉ S) : ckC σ' O :=
  ⟨fun s hs => by rw [hf.1 33 h1]; exact h.1 s hs, fun k a b => by rw [hf.1 35 h2]; exact h.2.1 k a b, fun p hp => by rw [hf.1 47 h3]; exact h.2.2.1 p hp, by rw [hf.1 37 h4]; exact h.2.2.2⟩
theorem prC_fr {S : List Nat} {σ σ' : St} {O : Orc} {L : List (Nat × Nat)} (h : prC σ O L) (hf : frC S σ σ') (hs : ∀ k, k ∈ S → k < 25 ∨ 32 ≤ k) : prC σ' O L := prC_kept h (fun k h1 h2 => hf.1 k (fun q => by have := hs k q; omega))
theorem s_startAnew {σ : St} {O : Orc} {N : Nw} {T0 T : Nat} {P : St → Prop} (ho : isO σ.2.2.1) (hO : orC σ σ.2.2.1 O) (hk : oOk O) (hN : nwC σ 65 T0 N)
    (hP : ∀ σ', frC SA σ σ' → cor σ' O → nwC σ' 65 (oT O) (nSetB (nBeg N) (oB O)) → imC σ' T (fun _ => none) → ckC σ' O → P σ') : wX9_startAnew σ P := by
  unfold wX9_startAnew
  refine ⟨ho, s_list ho hO hk (fun σ2 f2 a2 p2 => ?_)⟩
  have e2 : σ2.2.2.1 = σ.2.2.1 := by rw [f2.2]
  rw [e2]
  have O2 := orC_fr ho hO f2 (by decide)
  refine ⟨ho, s_sums ho O2 hk p2 (fun σ4 f4 w4 => ?_)⟩
  have e4 : σ4.2.2.1 = σ.2.2.1 := by rw [f4.2]; exact e2
  rw [e4]
  have O4 := orC_fr ho O2 f4 (by decide)
  have p4 := prC_fr p2 f4 (by decide)
  refine ⟨ho, s_cutting ho O4 hk (fun σ6 f6 w6 => ?_)⟩
  have e6 : σ6.2.2.1 = σ.2.2.1 := by rw [f6.2]; exact e4
  rw [e6]
  have O6 := orC_fr ho O4 f6 (by decide)
  have p6 := prC_fr p4 f6 (by decide)
  have a6 : σ6.1 25 1 = nI (allL O (oP O)) := by rw [f6.1 25 (by decide), f4.1 25 (by decide)]; exact a2
  refine ⟨ho, s_liking ho O6 hk p6 a6 (fun σ8 f8 k8 r8 => ?_)⟩
  have O8 := orC_fr ho O6 f8 (by decide)
  have p8 := prC_fr p6 f8 (by decide)
  have N8 := nwC_fr (nwC_fr (nwC_fr (nwC_fr hN f2 (by decide) (by decide)) f4 (by decide) (by decide)) f6 (by decide) (by decide)) f8 (by decide) (by decide)
  refine s_begin isN_65 N8 (fun σ9 f9 n9 => ?_)
  have f9 : frC [65, 66] σ8 σ9 := f9
  have O9 := orC_fr ho O8 f9 (by decide)
  have e9 : σ9.2.2.1 = σ.2.2.1 := by rw [f9.2, f8.2]; exact e6
  rw [e9]
  refine ⟨ho, s_bear isN_65 ho O9 hk n9 (fun σ11 f11 n11 => ⟨3, ?_⟩)⟩
  have f11 : frC [66] σ9 σ11 := f11
  rw [wLX9_startAnew_72]
  refine ⟨fun c => absurd c (by decide), fun _ => ⟨in0 (by omega) (by omega), fun σ14 h14 z hz => ?_⟩⟩
  rw [toN0, nar00] at h14
  rw [hz, wLX9_startAnew_72]
  refine ⟨fun c => absurd c (by decide), fun _ => ⟨vp_in_nI (n := 1) (by omega) (by omega), fun σ15 h15 z hz => ?_⟩⟩
  rw [show ((0 : Int32) + 1).toNatClampNeg = 1 from rfl, nar00] at h15
  rw [hz, wLX9_startAnew_72]
  refine ⟨fun _ => ?_, fun c => absurd (by decide) c⟩
  have f15 : frC [70] σ11 σ15 := by rw [h15, h14]; exact (frC.rf.wr (by decide)).wr (by decide)
  have G8 : frC [65, 66, 70] σ8 σ15 := (f9.up (by decide)).tr ((f11.up (by decide)).tr (f15.up (by decide)))
  have G6 : frC (S37 ++ [65, 66, 70]) σ6 σ15 := (f8.up (by decide)).tr (G8.up (by decide))
  have G4 : frC ([35, 36] ++ S37 ++ [65, 66, 70]) σ4 σ15 := (f6.up (by decide)).tr (G6.up (by decide))
  have G2 : frC ([33, 35, 36] ++ S37 ++ [65, 66, 70]) σ2 σ15 := (f4.up (by decide)).tr (G4.up (by decide))
  have G : frC SA σ σ15 := (f2.up (by decide)).tr (G2.up (by decide))
  have eo : σ15.2.2.1 = σ.2.2.1 := by rw [G.2]
  refine hP σ15 G ⟨by rw [eo]; exact ho, by rw [eo]; exact orC_fr ho hO G (by decide), prC_fr p8 G8 (by decide), by rw [G6.1 25 (by decide)]; exact a6⟩ (nwC_fr n11 f15 (by decide) (by decide)) (fun i hi => ⟨?_, fun N' h => by cases h⟩) ⟨fun s hs => by rw [G4.1 33 (by decide)]; exact w4 s hs, fun k a b => by rw [G6.1 35 (by decide)]; exact w6 k a b, fun p hp => by rw [G8.1 47 (by decide)]; exact k8 p hp, by rw [G8.1 37 (by decide)]; exact r8⟩
  show σ15.1 70 i = bI false
  rw [h15, sI_get, h14, sI_get]
  have : i = 0 ∨ i = 1 := by omega
  rcases this with rfl | rfl <;> rfl
/-- the class's whole picture -/
def clR (σ : St) (O : Orc) (N : Nw) (im : Nat → Option Nw) (len : Nat) (tx : Nat → Int32) : Prop := cor σ O ∧ nwC σ 65 (oT O) N ∧ imC σ (oT O) im ∧ ckC σ O ∧ txC σ len tx ∧ isO σ.2.2.2 ∧ σ.2.2.2 ≠ σ.2.2.1
noncomputable def tX (len : Nat) (tx : Nat → Int32) : Tx := (len, fun j => msk (tx j) 8)
theorem tX_C {σ : St} {len : Nat} {tx : Nat → Int32} (h : txC σ len tx) : txt σ (tX len tx) := ⟨h.1, fun j hj => by
  rw [h.2 j hj]
  exact ⟨msk_eq (tx j) (k := 8) (by omega), msk_lt (tx j) (k := 8) (by omega)⟩⟩
theorem neg10 {n : Nat} (h : n ≤ 300) : ¬ (0 : Int32) ≤ (-10 : Int32) - nI n := by
  have H : ∀ n : Fin 301, ¬ (0 : Int32) ≤ (-10 : Int32) - nI n.val := by decide +kernel
  exact H ⟨n, by omega⟩
theorem isO_2 {o o' : Nat} (h : isO o) (h' : isO o') (hn : o ≠ o') : ∀ k, (o ≤ k ∧ k ≤ o + 8) → k < o' ∨ o' + 8 < k := by
  intro k hk
  rcases h with rfl | rfl <;> rcases h' with rfl | rfl <;> omega
theorem s_orchard9 {σ : St} {O : Orc} {N : Nw} {im : Nat → Option Nw} {len : Nat} {tx : Nat → Int32} {P : Int32 → St → Prop} (hR : clR σ O N im len tx) (hl : len ≤ 300)
    (hF : ∀ f, rdAll (tX len tx) 301 O00 0 0 = .inl f → ∀ σ', clR σ' O N im len tx → σ'.2.1 = σ.2.1 → P ((-10 : Int32) - nI (tp (tX len tx) f)) σ')
    (hS : ∀ q, rdAll (tX len tx) 301 O00 0 0 = .inr q → ∀ σ', clR σ' q.1 (nSetB (nBeg N) (oB q.1)) (fun _ => none) 0 tx → σ'.2.1 = σ.2.1 → P (nI q.2) σ') : wX9_orchard σ P := by
  obtain ⟨hc, hN, hI, hK, hT, ho', hne⟩ := hR
  have or' := isO_r ho'
  have apart : ∀ k, k ∈ RA σ.2.2.2 → k < 25 := fun k hk => by have := RA_r hk; omega
  unfold wX9_orchard
  refine ⟨ho', s_readAll ho' hl (tX_C hT) (fun f e σ3 f3 => ?_) (fun q e σ3 f3 O3 => ?_)⟩
  · have tl : tp (tX len tx) f ≤ len := (tp_b (tX len tx) f).1
    refine ⟨fun c => absurd c (neg10 (by omega)), fun _ => hF f e σ3 ⟨?_, ?_, ?_, ?_, ?_, ?_, ?_⟩ (by rw [f3.2])⟩
    · refine ⟨by rw [f3.2]; exact hc.1, ?_, prC_fr hc.2.2.1 f3 (fun k hk => Or.inl (apart k hk)), by rw [f3.1 25 (fun q => by have := apart 25 q; omega)]; exact hc.2.2.2⟩
      rw [f3.2]
      refine orC_kept hc.2.1 (fun k h1 h2 => f3.1 k (fun q => ?_))
      have r7 := isO_r hc.1
      rcases RA_r q with q | q
      · omega
      · have := isO_2 ho' hc.1 hne k q; omega
    · exact nwC_fr hN f3 (fun q => by have := apart 65 q; omega) (fun q => by have := apart 66 q; omega)
    · exact imC_fr hI f3 (fun k hk => Or.inl (by have := apart k hk; omega))
    · exact ckC_fr hK f3 (fun q => by have := apart 33 q; omega) (fun q => by have := apart 35 q; omega) (fun q => by have := apart 47 q; omega) (fun q => by have := apart 37 q; omega)
    · exact ⟨by rw [f3.1 1 (fun q => by have := RA_r q; omega)]; exact hT.1, fun j hj => by rw [f3.1 2 (fun q => by have := RA_r q; omega)]; exact hT.2 j hj⟩
    · rw [f3.2]; exact ho'
    · rw [f3.2]; exact hne
  · obtain ⟨q2, qk⟩ := rdAll_b (tX len tx) 301 O00 0 0 q e O00_ok
    refine ⟨fun _ => ?_, fun c => absurd (nI_pos' (by omega)) c⟩
    have ed : σ3.2.2.2 = σ.2.2.2 := by rw [f3.2]
    have et : σ3.2.2.1 = σ.2.2.1 := by rw [f3.2]
    rw [ed, et]
    refine ⟨hc.1, ho', fun σ7 h7 σ8 h8 σ9 h9 => ?_⟩
    have c9 : ∀ k, k ≠ 1 → σ9.1 k = σ3.1 k := fun k hk => by rw [h9, sI_ne hk, h8, h7]
    have s9 : σ9.2 = (σ.2.1, (σ.2.2.2, σ.2.2.1)) := by rw [h9, sI_2, h8, h7]; show (σ3.2.1, (σ.2.2.2, σ.2.2.1)) = _; rw [f3.2]
    have o9 : σ9.2.2.1 = σ.2.2.2 := by rw [s9]
    have O9 : orC σ9 σ9.2.2.1 q.1 := by
      rw [o9]
      exact orC_kept O3 (fun k h1 h2 => c9 k (by omega))
    have N9 : nwC σ9 65 (oT O) N := nwC_kept (nwC_fr hN f3 (fun q => by have := apart 65 q; omega) (fun q => by have := apart 66 q; omega)) (c9 65 (by omega)) (c9 66 (by omega))
    refine s_startAnew (T := oT q.1) (by rw [o9]; exact ho') O9 qk N9 (fun σ' hf hc' hn' hi' hk' => hS q e σ' ⟨hc', hn', hi', hk', ⟨?_, fun j hj => absurd hj (Nat.not_lt_zero j)⟩, ?_, ?_⟩ ?_)
    · rw [hf.1 1 (by decide), h9, sI_at]; rfl
    · rw [hf.2, s9]; exact hc.1
    · rw [hf.2, s9]; exact hne.symm
    · rw [hf.2, s9]
