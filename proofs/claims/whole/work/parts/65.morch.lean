/-! the reference's orchard -/
theorem tk6_s {t : Tx} {i : Nat} (h : tk t i = 6) : tk t (i + 1) = 6 := by
  rw [tk_6] at h ⊢
  rw [tp]
  unfold afP
  rw [h, if_neg (by omega)]
  exact skS_len t
theorem tk6_up {t : Tx} : ∀ d, tk t (nT t + d) = 6 := by
  intro d
  induction d with
  | zero => exact (nT_s t).2.1
  | succ d ih => exact tk6_s ih
theorem tk6_lt {t : Tx} {i : Nat} (h : tk t i ≠ 6) : i < nT t := by
  rcases Nat.lt_or_ge i (nT t) with q | q
  · exact q
  · have := tk6_up (t := t) (i - nT t)
    rw [show nT t + (i - nT t) = i by omega] at this
    exact absurd this h
/-- the reading's end -/
def raM (μ : St) (t : Tx) (K : St → Int32 → Prop) (r : Nat ⊕ (Orc × Nat)) : Prop := match r with
  | .inl f => ∀ μ' y, frJ DD μ μ' → μ'.1 0 17 = nI (tp t f) → K μ' y
  | .inr q => ∀ μ', frJ DD μ μ' → μ'.1 0 17 = (-9 : Int32) → drM μ' q.1 → K μ' (nI q.2)
theorem m_readL {t : Tx} {K : St → Int32 → Prop} {P : Int32 → St → Prop} (hl : t.1 ≤ 300) : ∀ (n : Nat) (O : Orc) (i k : Nat) (μ : St), 1 ≤ n → nT t < n + i → drM μ O → oOk O → txtM μ t → sM μ t (.inr i) → raM μ t K (rdAll t n O i k) → wLX10_orchard_54 K P (n + 1) μ (nI k) := by
  intro n
  induction n with
  | zero => intro O i k μ h1; omega
  | succ n ih =>
    intro O i k μ h1 hn hD hk hT hS hP
    have kb := tk_b t i
    have sb := srt_b kb
    have h17 : μ.1 0 17 = (-9 : Int32) := hS.1
    rw [wLX10_orchard_54, h17, rdM_k hS.2]
    rw [rdAll] at hP
    refine ⟨fun c => absurd rfl c, fun _ => ⟨fun c => ?_, fun c => ?_⟩⟩
    · have c := srt_4.mp ((eqI rfl (b := 4) rfl (by omega) (by omega)).mp c)
      rw [if_pos c] at hP
      exact hP μ frJ.rf h17 hD
    · have c : ¬ tk t i = 6 := fun q => c (by rw [q]; rfl)
      have lt := tk6_lt c
      rw [if_neg c] at hP
      refine m_readItem hk hD hT hl hS ?_
      cases e : rdI t O i with
      | inl f =>
        rw [e] at hP
        intro μ' hf hs z hz
        have hs : μ'.1 0 17 = nI (tp t f) := hs
        rw [wLX10_orchard_54]
        exact ⟨fun _ => hP μ' z hf hs, fun q => absurd q (by rw [hs]; exact not9 (tp_300 hl f))⟩
      | inr q =>
        rw [e] at hP
        intro μ' hf hs hd z hz
        have ge := rdI_ge e
        rw [hz, add1]
        refine ih q.1 q.2 (k + 1) μ' (by omega) (by omega) hd (rdI_ok e hk) (txtM_DD hT hf) hs ?_
        have hP : raM μ t K (rdAll t n q.1 q.2 (k + 1)) := hP
        cases e2 : rdAll t n q.1 q.2 (k + 1) with
        | inl f => rw [e2] at hP; exact fun μ2 y h2 => hP μ2 y (hf.tr h2)
        | inr p => rw [e2] at hP; exact fun μ2 h2 => hP μ2 (hf.tr h2)
theorem m_cp124 {f1 : Int32} {K : St → Prop} {P : Int32 → St → Prop} : ∀ d k μ, k + d = 8 → (∀ μ', frJ (fun a b => 3 ≤ a ∧ a ≤ 6 ∧ k ≤ b ∧ b < 8) μ μ' → (∀ a j, 3 ≤ a → a ≤ 6 → k ≤ j → j < 8 → μ'.1 a j = μ.1 a (8 + j)) → K μ') → wLX10_orchard_124 f1 K P (d + 1) μ (nI k) := by
  intro d
  induction d with
  | zero =>
    intro k μ hk hK
    rw [wLX10_orchard_124]
    exact ⟨fun _ => hK μ frJ.rf (fun a j _ _ h1 h2 => by omega), fun c => absurd ((leI (a := 8) rfl rfl (by omega) (by omega)).mpr (by omega)) c⟩
  | succ d ih =>
    intro k μ hk hK
    rw [wLX10_orchard_124, show (8 : Int32) + nI k = nI (8 + k) by rw [show (8 : Int32) = nI 8 from rfl, nI_add], cl (n := 8 + k) (by omega), cl (n := k) (by omega)]
    have v : vp_in (nI k) 16 := vp_in_nI (by omega) (by omega)
    have v8 : vp_in (nI (8 + k)) 16 := vp_in_nI (by omega) (by omega)
    refine ⟨fun c => absurd ((leI (a := 8) rfl rfl (by omega) (by omega)).mp c) (by omega), fun _ => ⟨v8, v, fun μ1 h1 => ⟨v8, v, fun μ2 h2 => ⟨v8, v, fun μ3 h3 => ⟨v8, v, fun μ4 h4 z hz => ?_⟩⟩⟩⟩⟩
    rw [hz, add1]
    have E : ∀ a j, μ4.1 a j = if a = 6 ∧ j = k then μ.1 6 (8 + k) else if a = 5 ∧ j = k then μ.1 5 (8 + k) else if a = 4 ∧ j = k then μ.1 4 (8 + k) else if a = 3 ∧ j = k then μ.1 3 (8 + k) else μ.1 a j := fun a j => by
      have x1 : μ1.1 4 (8 + k) = μ.1 4 (8 + k) := by rw [h1, sI_ne (by omega)]
      have x2 : μ2.1 5 (8 + k) = μ.1 5 (8 + k) := by rw [h2, sI_ne (by omega), h1, sI_ne (by omega)]
      have x3 : μ3.1 6 (8 + k) = μ.1 6 (8 + k) := by rw [h3, sI_ne (by omega), h2, sI_ne (by omega), h1, sI_ne (by omega)]
      rw [h4, sI_get, x3, h3, sI_get, x2, h2, sI_get, x1, h1, sI_get]
    have F : frJ (fun a b => 3 ≤ a ∧ a ≤ 6 ∧ k ≤ b ∧ b < 8) μ μ4 := by
      rw [h4, h3, h2, h1]
      exact (((frJ.rf.wr ⟨by omega, by omega, by omega, by omega⟩).wr ⟨by omega, by omega, by omega, by omega⟩).wr ⟨by omega, by omega, by omega, by omega⟩).wr ⟨by omega, by omega, by omega, by omega⟩
    refine ih (k + 1) μ4 (by omega) (fun μ' hf hg => hK μ' (F.tr (hf.up (fun a b h => ⟨h.1, h.2.1, by omega, h.2.2.2⟩))) (fun a j a1 a2 j1 j2 => ?_))
    by_cases e : j = k
    · rw [hf.1 a j (fun q => by omega), E, e]
      have : a = 3 ∨ a = 4 ∨ a = 5 ∨ a = 6 := by omega
      rcases this with rfl | rfl | rfl | rfl <;> simp
    · rw [hg a j a1 a2 (by omega) j2, E, if_neg (by omega), if_neg (by omega), if_neg (by omega), if_neg (by omega)]
theorem m_cp198 {f1 : Int32} {K : St → Prop} {P : Int32 → St → Prop} : ∀ d k μ, k + d = 64 → (∀ j, j < 64 → ∃ b : Bool, μ.1 7 (64 + j) = bI b) → (∀ μ', frJ (fun a b => a = 7 ∧ k ≤ b ∧ b < 64) μ μ' → (∀ j, k ≤ j → j < 64 → μ'.1 7 j = μ.1 7 (64 + j)) → K μ') → wLX10_orchard_198 f1 K P (d + 1) μ (nI k) := by
  intro d
  induction d with
  | zero =>
    intro k μ hk hb hK
    rw [wLX10_orchard_198]
    exact ⟨fun _ => hK μ frJ.rf (fun j h1 h2 => by omega), fun c => absurd ((leI (a := 64) rfl rfl (by omega) (by omega)).mpr (by omega)) c⟩
  | succ d ih =>
    intro k μ hk hb hK
    rw [wLX10_orchard_198, show (64 : Int32) + nI k = nI (64 + k) by rw [show (64 : Int32) = nI 64 from rfl, nI_add], cl (n := 64 + k) (by omega), cl (n := k) (by omega)]
    refine ⟨fun c => absurd ((leI (a := 64) rfl rfl (by omega) (by omega)).mp c) (by omega), fun _ => ⟨vp_in_nI (by omega) (by omega), vp_in_nI (by omega) (by omega), fun μ4 h4 z hz => ?_⟩⟩
    rw [hz, add1]
    obtain ⟨b, eb⟩ := hb k (by omega)
    have en : vp_nar .boolean (μ.1 7 (64 + k)) = μ.1 7 (64 + k) := by rw [eb]; cases b <;> decide
    rw [en] at h4
    have F : frJ (fun a b => a = 7 ∧ k ≤ b ∧ b < 64) μ μ4 := by rw [h4]; exact frJ.rf.wr ⟨rfl, by omega, by omega⟩
    refine ih (k + 1) μ4 (by omega) (fun j hj => by rw [h4, sI_off (by omega)]; exact hb j hj) (fun μ' hf hg => hK μ' (F.tr (hf.up (fun a b h => ⟨h.1, by omega, h.2.2⟩))) (fun j j1 j2 => ?_))
    by_cases e : j = k
    · rw [hf.1 7 j (fun q => by omega), h4, e, sI_at]
    · rw [hg j (by omega) j2, h4, sI_off (by omega)]
theorem m_cp227 {f1 : Int32} {K : St → Prop} {P : Int32 → St → Prop} : ∀ d k μ, k + d = 5 → (∀ μ', frJ (fun a b => 9 ≤ a ∧ a ≤ 11 ∧ k ≤ b ∧ b < 5) μ μ' → (∀ a j, 9 ≤ a → a ≤ 11 → k ≤ j → j < 5 → μ'.1 a j = μ.1 a (5 + j)) → K μ') → wLX10_orchard_227 f1 K P (d + 1) μ (nI k) := by
  intro d
  induction d with
  | zero =>
    intro k μ hk hK
    rw [wLX10_orchard_227]
    exact ⟨fun _ => hK μ frJ.rf (fun a j _ _ h1 h2 => by omega), fun c => absurd ((leI (a := 5) rfl rfl (by omega) (by omega)).mpr (by omega)) c⟩
  | succ d ih =>
    intro k μ hk hK
    rw [wLX10_orchard_227, show (5 : Int32) + nI k = nI (5 + k) by rw [show (5 : Int32) = nI 5 from rfl, nI_add], cl (n := 5 + k) (by omega), cl (n := k) (by omega)]
    have v : vp_in (nI k) 10 := vp_in_nI (by omega) (by omega)
    have v8 : vp_in (nI (5 + k)) 10 := vp_in_nI (by omega) (by omega)
    refine ⟨fun c => absurd ((leI (a := 5) rfl rfl (by omega) (by omega)).mp c) (by omega), fun _ => ⟨v8, v, fun μ1 h1 => ⟨v8, v, fun μ2 h2 => ⟨v8, v, fun μ3 h3 z hz => ?_⟩⟩⟩⟩
    rw [hz, add1]
    have E : ∀ a j, μ3.1 a j = if a = 11 ∧ j = k then μ.1 11 (5 + k) else if a = 10 ∧ j = k then μ.1 10 (5 + k) else if a = 9 ∧ j = k then μ.1 9 (5 + k) else μ.1 a j := fun a j => by
      have x1 : μ1.1 10 (5 + k) = μ.1 10 (5 + k) := by rw [h1, sI_ne (by omega)]
      have x2 : μ2.1 11 (5 + k) = μ.1 11 (5 + k) := by rw [h2, sI_ne (by omega), h1, sI_ne (by omega)]
      rw [h3, sI_get, x2, h2, sI_get, x1, h1, sI_get]
    have F : frJ (fun a b => 9 ≤ a ∧ a ≤ 11 ∧ k ≤ b ∧ b < 5) μ μ3 := by
      rw [h3, h2, h1]
      exact ((frJ.rf.wr ⟨by omega, by omega, by omega, by omega⟩).wr ⟨by omega, by omega, by omega, by omega⟩).wr ⟨by omega, by omega, by omega, by omega⟩
    refine ih (k + 1) μ3 (by omega) (fun μ' hf hg => hK μ' (F.tr (hf.up (fun a b h => ⟨h.1, h.2.1, by omega, h.2.2.2⟩))) (fun a j a1 a2 j1 j2 => ?_))
    by_cases e : j = k
    · rw [hf.1 a j (fun q => by omega), E, e]
      have : a = 9 ∨ a = 10 ∨ a = 11 := by omega
      rcases this with rfl | rfl | rfl <;> simp
    · rw [hg a j a1 a2 (by omega) j2, E, if_neg (by omega), if_neg (by omega), if_neg (by omega)]
theorem m_cp286 {f1 : Int32} {T : Nat} {K : St → Prop} {P : Int32 → St → Prop} (hT : T ≤ 5) : ∀ d k μ, k + d = T → μ.1 8 0 = nI T → (∀ μ', frJ (fun a b => a = 12 ∧ 6 + k ≤ b ∧ b < 11) μ μ' → (∀ j, k ≤ j → j < T → μ'.1 12 (6 + j) = μ.1 11 j) → K μ') → wLX10_orchard_286 f1 K P (d + 1) μ (nI k) := by
  intro d
  induction d with
  | zero =>
    intro k μ hk h8 hK
    rw [wLX10_orchard_286, toN0, h8]
    exact ⟨in0 (by omega) (by omega), fun _ => hK μ frJ.rf (fun j h1 h2 => by omega), fun c => absurd (nI_le (by omega) (by omega)) c⟩
  | succ d ih =>
    intro k μ hk h8 hK
    rw [wLX10_orchard_286, toN0, h8, show (6 : Int32) + nI k = nI (6 + k) by rw [show (6 : Int32) = nI 6 from rfl, nI_add], cl (n := 6 + k) (by omega), cl (n := k) (by omega)]
    refine ⟨in0 (by omega) (by omega), fun c => absurd c (nI_ge (by omega) (by omega)), fun _ => ⟨vp_in_nI (by omega) (by omega), vp_in_nI (by omega) (by omega), fun μ4 h4 z hz => ?_⟩⟩
    rw [hz, add1]
    have F : frJ (fun a b => a = 12 ∧ 6 + k ≤ b ∧ b < 11) μ μ4 := by rw [h4]; exact frJ.rf.wr ⟨rfl, by omega, by omega⟩
    refine ih (k + 1) μ4 (by omega) (by rw [h4, sI_ne (by omega)]; exact h8) (fun μ' hf hg => hK μ' (F.tr (hf.up (fun a b h => ⟨h.1, by omega, h.2.2⟩))) (fun j j1 j2 => ?_))
    by_cases e : j = k
    · rw [hf.1 12 _ (fun q => by omega), h4, e, sI_at]
    · rw [hg j (by omega) j2, h4, sI_ne (by omega)]
theorem m_cl28 {K : St → Prop} {P : Int32 → St → Prop} : ∀ d k μ, k + d = 128 → 64 ≤ k → (∀ j, 64 ≤ j → j < k → μ.1 7 j = bI false) → (∀ μ', frJ (fun a b => a = 7 ∧ 64 ≤ b) μ μ' → (∀ j, 64 ≤ j → j < 128 → μ'.1 7 j = bI false) → K μ') → wLX10_orchard_28 K P (d + 1) μ (nI k) := by
  intro d
  induction d with
  | zero =>
    intro k μ hk h6 ha hK
    rw [wLX10_orchard_28]
    exact ⟨fun _ => hK μ frJ.rf (fun j h1 h2 => ha j h1 (by omega)), fun c => absurd ((leI (a := 128) rfl rfl (by omega) (by omega)).mpr (by omega)) c⟩
  | succ d ih =>
    intro k μ hk h6 ha hK
    rw [wLX10_orchard_28, cl (n := k) (by omega), nar00]
    refine ⟨fun c => absurd ((leI (a := 128) rfl rfl (by omega) (by omega)).mp c) (by omega), fun _ => ⟨vp_in_nI (by omega) (by omega), fun μ4 h4 z hz => ?_⟩⟩
    rw [hz, add1]
    have F : frJ (fun a b => a = 7 ∧ 64 ≤ b) μ μ4 := by rw [h4]; exact frJ.rf.wr ⟨rfl, h6⟩
    refine ih (k + 1) μ4 (by omega) (by omega) (fun j h1 h2 => ?_) (fun μ' hf hg => hK μ' (F.tr hf) hg)
    rw [h4, sI_get]
    by_cases e : j = k
    · rw [if_pos ⟨rfl, e⟩]
    · rw [if_neg (fun q => e q.2)]; exact ha j h1 (by omega)
/-- the reference's whole picture -/
def mdR (μ : St) (O : Orc) (N : Nw) (im : Nat → Option Nw) (len : Nat) (tx : Nat → Int32) : Prop := orM μ O ∧ nwM μ 0 (oT O) N ∧ imM μ (oT O) im ∧ txM μ len tx
theorem tX_M {μ : St} {len : Nat} {tx : Nat → Int32} (h : txM μ len tx) : txtM μ (tX len tx) := ⟨h.1, fun j hj => by
  rw [h.2 j hj]
  exact ⟨msk_eq (tx j) (k := 8) (by omega), msk_lt (tx j) (k := 8) (by omega)⟩⟩
theorem m_orchard10 {μ : St} {O : Orc} {N : Nw} {im : Nat → Option Nw} {len : Nat} {tx : Nat → Int32} {P : Int32 → St → Prop} (hR : mdR μ O N im len tx) (hk : oOk O) (hl : len ≤ 300)
    (hF : ∀ f, rdAll (tX len tx) 301 O00 0 0 = .inl f → ∀ μ', mdR μ' O N im len tx → μ'.2.1 = μ.2.1 → P ((-10 : Int32) - nI (tp (tX len tx) f)) μ')
    (hS : ∀ q, rdAll (tX len tx) 301 O00 0 0 = .inr q → ∀ μ', mdR μ' q.1 (nSetB (nBeg N) (oB q.1)) (fun _ => none) 0 tx → μ'.2.1 = μ.2.1 → P (nI q.2) μ') : wX10_orchard μ P := by
  obtain ⟨hM, hN, hI, hT⟩ := hR
  have v1 : vp_in (1 : Int32) 2 := vp_in_nI (n := 1) (by omega) (by omega)
  have v0 : vp_in (0 : Int32) 2 := in0 (by omega) (by omega)
  have T0 := tX_M hT
  have hl' : (tX len tx).1 ≤ 300 := hl
  unfold wX10_orchard
  refine fun σ1 h1 σ2 h2 => ⟨v1, fun σ4 h4 => ⟨v1, fun σ6 h6 => ⟨65, m_cl28 64 64 σ6 (by omega) (by omega) (fun j h1 h2 => by omega) (fun σ11 f11 q11 => ?_)⟩⟩⟩
  have F6 : frJ DD μ σ6 := by
    rw [h6, h4, h2, h1]
    exact (((frJ.rf.wr (Or.inl ⟨rfl, by omega, by omega⟩)).wr (Or.inl ⟨rfl, by omega, by omega⟩)).wr (by rw [toN1]; exact DD_2)).wr (by rw [toN1]; exact DD_8)
  have F11 : frJ DD μ σ11 := F6.tr (f11.up (fun a b h => by rw [h.1]; exact DD_7 h.2))
  have e13 : σ11.1 0 13 = nI 0 := by rw [f11.1 0 13 (fun q => by omega), h6, sI_ne (by decide), h4, sI_ne (by decide), h2, sI_off (by decide), h1, sI_at]; rfl
  have e17 : σ11.1 0 17 = (-9 : Int32) := by rw [f11.1 0 17 (fun q => by omega), h6, sI_ne (by decide), h4, sI_ne (by decide), h2, sI_at]
  have e2 : σ11.1 2 1 = nI 0 := by rw [f11.1 2 1 (fun q => by omega), h6, sI_ne (by decide), h4, toN1, sI_at]; rfl
  have e8 : σ11.1 8 1 = nI 0 := by rw [f11.1 8 1 (fun q => by omega), h6, toN1, sI_at]; rfl
  refine m_next (txtM_DD T0 F11) hl' (Nat.zero_le _) e13 (fun σ12 f12 r12 => ⟨302, ?_⟩)
  have D12 : drM σ12 O00 := drM_fr ⟨e2, e8, fun p hp => absurd hp (Nat.not_lt_zero p), fun a b ha hb => by
    rw [q11 _ (by omega) (by omega)]
    show _ = bI (decide (a < 0) && _)
    rw [decide_eq_false (Nat.not_lt_zero a), Bool.false_and], fun t ht => absurd ht (Nat.not_lt_zero t)⟩ f12 (fun k j h => Or.inl (by have := h.1; omega))
  have F12 : frJ DD μ σ12 := F11.tr ((f12.up D0_D1).up D1_DD)
  have S12 : sM σ12 (tX len tx) (.inr 0) := ⟨by rw [f12.1 0 17 (fun q => by have := q.2.2; omega)]; exact e17, r12⟩
  have n300 := (nT_s (tX len tx)).1
  refine m_readL hl' 301 O00 0 0 σ12 (by omega) (by omega) D12 O00_ok (txtM_DD T0 F12) S12 ?_
  cases e : rdAll (tX len tx) 301 O00 0 0 with
  | inl f =>
    intro σ18 y f18 h17
    have F18 := F12.tr f18
    refine ⟨fun c => absurd c (by rw [h17]; exact not9 (tp_300 hl' f)), fun _ => ?_⟩
    rw [h17]
    refine hF f e σ18 ⟨orM_DD hk hM F18, ?_, ?_, ?_⟩ (by rw [F18.2])
    · exact nwM_kept hN (fun j _ _ => F18.1 12 j (fun q => by unfold DD at q; omega))
    · exact fun i hi => ⟨by rw [F18.1 13 i (fun q => by unfold DD at q; omega)]; exact (hI i hi).1, fun N' hN' => nwM_kept ((hI i hi).2 N' hN') (fun j _ _ => F18.1 12 j (fun q => by unfold DD at q; omega))⟩
    · exact ⟨by rw [F18.1 0 2 (fun q => by unfold DD at q; omega)]; exact hT.1, fun j hj => by rw [F18.1 1 j (fun q => by unfold DD at q; omega)]; exact hT.2 j hj⟩
  | inr q =>
    intro σ18 f18 h17 D18
    have F18 := F12.tr f18
    obtain ⟨-, qk⟩ := rdAll_b (tX len tx) 301 O00 0 0 q e O00_ok
    have q8 := qk.1
    have q5 := qk.2.1
    obtain ⟨d1, d2, d3, d4, d5⟩ := D18
    refine ⟨fun _ => ⟨v1, v0, fun σ22 h22 => ⟨v1, v0, fun σ25 h25 => ⟨9, m_cp124 8 0 σ25 (by omega) (fun σ40 f40 g40 => ⟨65, m_cp198 64 0 σ40 (by omega) (fun j hj => ?_) (fun σ46 f46 g46 => ⟨6, m_cp227 5 0 σ46 (by omega) (fun σ58 f58 g58 => ?_)⟩)⟩)⟩⟩⟩, fun c => absurd h17 c⟩
    · refine ⟨decide (j / 8 < oP q.1) && (oQ q.1 (j / 8)).testBit (j % 8), ?_⟩
      rw [f40.1 7 _ (fun q => by omega), h25, sI_ne (by omega), h22, sI_ne (by omega)]
      have := d4 (j / 8) (j % 8) (by omega) (by omega)
      rw [show 64 + (8 * (j / 8) + j % 8) = 64 + j by omega] at this
      exact this
    · rw [toN0, toN1] at h22 h25
      have x25 : σ22.1 8 1 = nI (oT q.1) := by rw [h22, sI_ne (by omega)]; exact d2
      rw [x25] at h25
      rw [d1] at h22
      have c25 : ∀ a b, ¬ ((a = 2 ∨ a = 8) ∧ b = 0) → σ25.1 a b = σ18.1 a b := fun a b h => by
        rw [h25, sI_get, if_neg (fun q => h ⟨Or.inr q.1, q.2⟩), h22, sI_get, if_neg (fun q => h ⟨Or.inl q.1, q.2⟩)]
      have o2 : σ58.1 2 0 = nI (oP q.1) := by rw [f58.1 2 0 (fun q => by omega), f46.1 2 0 (fun q => by omega), f40.1 2 0 (fun q => by omega), h25, sI_ne (by omega), h22, sI_at]
      have o8 : σ58.1 8 0 = nI (oT q.1) := by rw [f58.1 8 0 (fun q => by omega), f46.1 8 0 (fun q => by omega), f40.1 8 0 (fun q => by omega), h25, sI_at]
      have M58 : orM σ58 q.1 := by
        refine ⟨o2, o8, fun p hp => ?_, fun a b ha hb => ?_, fun u hu => ?_⟩
        · have z : ∀ a, 3 ≤ a → a ≤ 6 → σ58.1 a p = σ18.1 a (8 + p) := fun a a1 a2 => by
            rw [f58.1 a p (fun q => by omega), f46.1 a p (fun q => by omega), g40 a p a1 a2 (by omega) (by omega), c25 _ _ (by omega)]
          rw [z 3 (by omega) (by omega), z 4 (by omega) (by omega), z 5 (by omega) (by omega), z 6 (by omega) (by omega)]
          exact d3 p hp
        · rw [f58.1 7 _ (fun q => by omega), g46 _ (by omega) (by omega), f40.1 7 _ (fun q => by omega), c25 _ _ (by omega)]
          exact d4 a b ha hb
        · have z : ∀ a, 9 ≤ a → a ≤ 11 → σ58.1 a u = σ18.1 a (5 + u) := fun a a1 a2 => by
            rw [g58 a u a1 a2 (by omega) (by omega), f46.1 a _ (fun q => by omega), f40.1 a _ (fun q => by omega), c25 _ _ (by omega)]
          rw [z 9 (by omega) (by omega), z 10 (by omega) (by omega), z 11 (by omega) (by omega)]
          exact d5 u hu
      have c58 : ∀ a b, (a < 2 ∨ 12 ≤ a) → σ58.1 a b = σ18.1 a b := fun a b h => by
        rw [f58.1 a b (fun q => by omega), f46.1 a b (fun q => by omega), f40.1 a b (fun q => by omega), c25 _ _ (by omega)]
      have s58 : σ58.2 = μ.2 := by rw [f58.2, f46.2, f40.2, h25, sI_2, h22, sI_2, F18.2]
      have N58 : nwM σ58 0 (oT O) N := nwM_kept hN (fun j _ _ => by rw [c58 12 j (by omega), F18.1 12 j (fun q => by unfold DD at q; omega)])
      refine m_begin N58 (fun σ59 f59 N59 => ⟨oT q.1 + 1, m_cp286 q5 (oT q.1) 0 σ59 (by omega) (by rw [f59.1.1 8 (by decide)]; exact o8) (fun σ66 f66 g66 => ⟨v0, fun σ68 h68 => ⟨v1, fun σ70 h70 σ71 h71 => ?_⟩⟩)⟩)
      rw [toN0, nar00] at h68
      rw [toN1, nar00] at h70
      have c71 : ∀ a, 2 ≤ a → a ≤ 12 → σ71.1 a = σ66.1 a := fun a h1 h2 => by
        rw [h71, sI_ne (by omega), h70, sI_ne (by omega), h68, sI_ne (by omega)]
      have M66 : orM σ66 q.1 := orM_kept M58 (fun k k1 k2 => by
        rw [← f59.1.1 k (fun q => by simp at q; omega)]
        funext j
        exact f66.1 k j (fun q => by omega))
      refine hS q e σ71 ⟨orM_kept M66 (fun k k1 k2 => c71 k k1 (by omega)), ?_, fun i hi => ⟨?_, fun N' h => by cases h⟩, ?_, fun j hj => absurd hj (Nat.not_lt_zero j)⟩ ?_
      · obtain ⟨n0, n1, n2, n3, n4, n5, -⟩ := N59
        have y : ∀ j, j < 6 → σ71.1 12 j = σ59.1 12 j := fun j hj => by rw [c71 12 (by omega) (by omega)]; exact f66.1 12 j (fun q => by omega)
        refine ⟨by rw [y 0 (by omega)]; exact n0, by rw [y 1 (by omega)]; exact n1, by rw [y 2 (by omega)]; exact n2, by rw [y 3 (by omega)]; exact n3, by rw [y 4 (by omega)]; exact n4, by rw [y 5 (by omega)]; exact n5, fun u hu => ?_⟩
        rw [c71 12 (by omega) (by omega), show 0 + 6 + u = 6 + u by omega, g66 u (by omega) hu, f59.1.1 11 (by decide)]
        exact (M58.2.2.2.2 u hu).2.2
      · show σ71.1 13 i = bI false
        rw [h71, sI_ne (by omega), h70, sI_get, h68, sI_get]
        have : i = 0 ∨ i = 1 := by omega
        rcases this with rfl | rfl <;> rfl
      · rw [h71, sI_at]; rfl
      · rw [h71, sI_2, h70, sI_2, h68, sI_2, f66.2, f59.1.2, s58]
