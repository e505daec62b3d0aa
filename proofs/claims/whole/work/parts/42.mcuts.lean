/-! the reference's cuts: left by left -/
def MLt (O : Orc) : Nat → Nat → Nat → Nat → Prop
  | 0, k, R, c => k = 0 ∧ R = 0 ∧ c = 0
  | a + 1, k, R, c => MLt O a k R c ∨ (oS O a = 0 ∧ ∃ b R' k' c', b < oP O ∧ oS O b = 1 ∧ oU O a b = true ∧ R'.testBit b = false ∧ MLt O a k' R' c' ∧ k = k' + 1 ∧ R = R' ||| 2 ^ b ∧ c = c' + dG O a b)
theorem ML_Mat {O : Orc} : ∀ a k R c, a ≤ oP O → MLt O a k R c → ∃ s, Mat O s k c ∧ ∀ x, s.testBit x = true → (oS O x = 0 ∧ x < a) ∨ (oS O x = 1 ∧ R.testBit x = true) := by
  intro a
  induction a with
  | zero =>
    rintro k R c - ⟨rfl, rfl, rfl⟩
    exact ⟨0, Mat.nil, fun x hx => by rw [Nat.zero_testBit] at hx; cases hx⟩
  | succ a ih =>
    rintro k R c ha (h | ⟨sa, b, R', k', c', hb, sb, hu, hR, h, rfl, rfl, rfl⟩)
    · obtain ⟨s, m, q⟩ := ih k R c (by omega) h
      refine ⟨s, m, fun x hx => ?_⟩
      rcases q x hx with ⟨q1, q2⟩ | q
      · exact Or.inl ⟨q1, by omega⟩
      · exact Or.inr q
    · obtain ⟨s, m, q⟩ := ih k' R' c' (by omega) h
      have na : s.testBit a = false := by
        cases f : s.testBit a with
        | false => rfl
        | true =>
          rcases q a f with ⟨-, q2⟩ | ⟨q1, -⟩
          · omega
          · omega
      have nb : s.testBit b = false := by
        cases f : s.testBit b with
        | false => rfl
        | true =>
          rcases q b f with ⟨q1, -⟩ | ⟨-, q2⟩
          · omega
          · rw [hR] at q2; cases q2
      refine ⟨_, Mat.add m (by omega) hb hu na nb, fun x hx => ?_⟩
      rw [Nat.testBit_or, Nat.testBit_or, bitset, bitset] at hx
      by_cases e1 : a = x
      · subst e1; exact Or.inl ⟨sa, by omega⟩
      · by_cases e2 : b = x
        · subst e2; exact Or.inr ⟨sb, by rw [Nat.testBit_or, bitset]; simp⟩
        · have hx : s.testBit x = true := by simpa [e1, e2] using hx
          rcases q x hx with ⟨q1, q2⟩ | ⟨q1, q2⟩
          · exact Or.inl ⟨q1, by omega⟩
          · exact Or.inr ⟨q1, by rw [Nat.testBit_or, q2]; rfl⟩
theorem Mat_ML {O : Orc} (hk : oOk O) : ∀ a, a ≤ oP O → ∀ s k c, Mat O s k c → (∀ x, s.testBit x = true → oS O x = 0 → x < a) → ∃ R, (∀ x, R.testBit x = (s.testBit x && decide (oS O x = 1))) ∧ MLt O a k R c := by
  intro a
  induction a with
  | zero =>
    intro _ s k c m hs
    cases k with
    | zero =>
      obtain ⟨rfl, rfl⟩ := m
      exact ⟨0, fun x => by rw [Nat.zero_testBit]; rfl, rfl, rfl, rfl⟩
    | succ k =>
      obtain ⟨s', c', a, b, -, ha, hb, hu, -, -, rfl, -⟩ := m
      have sd := oU_side hu
      have s1 := (hk.2.2.1 a ha).1
      have s2 := (hk.2.2.1 b hb).1
      by_cases q : oS O a = 0
      · exact absurd (hs a (by rw [Nat.testBit_or, Nat.testBit_or, bitset]; simp) q) (Nat.not_lt_zero a)
      · exact absurd (hs b (by rw [Nat.testBit_or, Nat.testBit_or, bitset, bitset]; simp) (by omega)) (Nat.not_lt_zero b)
  | succ a ih =>
    intro ha s k c m hs
    by_cases q : s.testBit a = true ∧ oS O a = 0
    · obtain ⟨y, k', c', -, q2, q3, q4, q5, q6, q7, q8⟩ := Mat_rem hk m a q.1
      have sy := (hk.2.2.1 y q2).1
      have sd' := oU_side q5
      obtain ⟨R, r1, r2⟩ := ih (by omega) _ k' c' q6 (fun x hx h0 => by
        rw [sd_bit, Nat.testBit_or, bitset, bitset] at hx
        simp at hx
        have := hs x hx.1 h0
        omega)
      have ry : R.testBit y = false := by rw [r1, sd_bit, Nat.testBit_or, bitset, bitset]; simp
      refine ⟨R ||| 2 ^ y, fun x => ?_, Or.inr ⟨q.2, y, R, k', c', q2, by omega, q5, ry, r2, q7, rfl, q8⟩⟩
      rw [Nat.testBit_or, r1, sd_bit, Nat.testBit_or, bitset, bitset]
      by_cases e1 : a = x
      · subst e1; simp [q.2, q3]
      · by_cases e2 : y = x
        · subst e2
          have : oS O y = 1 := by omega
          simp [q4, this]
        · simp [e1, e2]
    · obtain ⟨R, r1, r2⟩ := ih (by omega) s k c m (fun x hx h0 => by
        have := hs x hx h0
        have : x ≠ a := fun e => q ⟨by rw [← e]; exact hx, by rw [← e]; exact h0⟩
        omega)
      exact ⟨R, r1, Or.inl r2⟩
theorem ML_lt {O : Orc} (hk : oOk O) : ∀ a k R c, a ≤ oP O → MLt O a k R c → R < 256 ∧ c ≤ 8 * k := by
  have h8 := hk.1
  intro a
  induction a with
  | zero => rintro k R c - ⟨rfl, rfl, rfl⟩; exact ⟨by omega, by omega⟩
  | succ a ih =>
    rintro k R c ha (h | ⟨sa, b, R', k', c', hb, sb, hu, hR, h, rfl, rfl, rfl⟩)
    · exact ih k R c (by omega) h
    · obtain ⟨i1, i2⟩ := ih k' R' c' (by omega) h
      have := dG_le hk (show a < oP O by omega) hb
      exact ⟨Nat.or_lt_two_pow (n := 8) i1 (pow2_lt8 (by omega)), by omega⟩
theorem orAdd_all : ∀ (R : Fin 256) (b : Fin 8), R.val.testBit b.val = false → R.val ||| 2 ^ b.val = R.val + 2 ^ b.val ∧ R.val + 2 ^ b.val < 256 := by decide +kernel
theorem orAdd {R b : Nat} (hR : R < 256) (hb : b < 8) (h : R.testBit b = false) : R ||| 2 ^ b = R + 2 ^ b ∧ R + 2 ^ b < 256 := orAdd_all ⟨R, hR⟩ ⟨b, hb⟩ h
def MIt (O : Orc) (a i c : Nat) : Prop := MLt O a (i / 256) (i % 256) c
noncomputable def FI (O : Orc) (a i : Nat) : Option Nat := minO (MIt O a i)
def oMn : Option Nat → Nat
  | none => 9999
  | some c => c
theorem FI_le {O : Orc} (hk : oOk O) {a i c : Nat} (ha : a ≤ oP O) (h : FI O a i = some c) : c ≤ 8 * (i / 256) ∧ MIt O a i c := by
  have m := minO_is (MIt O a i)
  have h' : minO (MIt O a i) = some c := h
  rw [h'] at m
  exact ⟨(ML_lt hk a _ _ _ ha m.1).2, m.1⟩
/-- one more pair, from what stands at i' -/
def Tr (O : Orc) (a i' b' t c : Nat) : Prop := i' < 1024 ∧ b' < oP O ∧ oS O b' = 1 ∧ oU O a b' = true ∧ (i' % 256).testBit b' = false ∧ i' + 256 + 2 ^ b' = t ∧ ∃ c', FI O a i' = some c' ∧ c = c' + dG O a b'
def Cs (O : Orc) (a i b t c : Nat) : Prop := MIt O a t c ∨ ∃ i' b', (i' < i ∨ i' = i ∧ b' < b) ∧ Tr O a i' b' t c
theorem Cs_le {O : Orc} (hk : oOk O) {a i b t c : Nat} (ha : a < oP O) (ht : t < 1280) (h : Cs O a i b t c) : c ≤ 32 := by
  rcases h with h | ⟨i', b', -, h1, h2, h3, h4, h5, h6, c', h7, rfl⟩
  · have := (ML_lt hk a _ _ _ (by omega) h).2; omega
  · have := (FI_le hk (by omega) h7).1
    have := dG_le hk ha h2
    omega
theorem Cs_next {O : Orc} {a i t c : Nat} : Cs O a i (oP O) t c ↔ Cs O a (i + 1) 0 t c := by
  refine or_congr Iff.rfl ⟨?_, ?_⟩
  · rintro ⟨i', b', h1, h2⟩
    exact ⟨i', b', Or.inl (by omega), h2⟩
  · rintro ⟨i', b', h1, h2⟩
    refine ⟨i', b', ?_, h2⟩
    have := h2.2.1
    omega
theorem Cs_done {O : Orc} (hk : oOk O) {a t : Nat} (ha : a < oP O) (sa : oS O a = 0) (ht : t < 1280) {q : Option Nat} (h : isMinO (Cs O a 1024 0 t) q) : q = FI O (a + 1) t := by
  have h8 := hk.1
  refine isMinO_u (isMinO_sub h (D := MIt O (a + 1) t) (fun c hc => ?_) (fun c hc => ?_)) (minO_is (MIt O (a + 1) t)) (fun _ => Iff.rfl)
  · rcases hc with hc | ⟨i', b', -, h1, h2, h3, h4, h5, h6, c', h7, rfl⟩
    · exact Or.inl hc
    · obtain ⟨-, m⟩ := FI_le hk (by omega) h7
      obtain ⟨o1, o2⟩ := orAdd (R := i' % 256) (b := b') (by omega) (by omega) h5
      exact Or.inr ⟨sa, b', i' % 256, i' / 256, c', h2, h3, h4, h5, m, by omega, by omega, rfl⟩
  · rcases hc with hc | ⟨-, b, R', k', c', hb, sb, hu, hR, h, e1, e2, rfl⟩
    · exact ⟨c, Or.inl hc, Nat.le_refl _⟩
    · obtain ⟨r1, -⟩ := ML_lt hk a k' R' c' (by omega) h
      obtain ⟨o1, o2⟩ := orAdd r1 (show b < 8 by omega) hR
      have d1 : (256 * k' + R') / 256 = k' := by omega
      have d2 : (256 * k' + R') % 256 = R' := by omega
      have m := minO_is (MIt O a (256 * k' + R'))
      have mi : MIt O a (256 * k' + R') c' := by unfold MIt; rw [d1, d2]; exact h
      cases f : minO (MIt O a (256 * k' + R')) with
      | none => rw [f] at m; exact absurd mi (m c')
      | some c0 =>
        rw [f] at m
        exact ⟨c0 + dG O a b, Or.inr ⟨256 * k' + R', b, Or.inl (by omega), by omega, hb, sb, hu, by rw [d2]; exact hR, by omega, c0, f, rfl⟩, Nat.add_le_add_right (m.2 c' mi) _⟩
theorem m_cutOne {μ : St} {O : Orc} {a i : Nat} {P : St → Prop} (hM : orM μ O) (hk : oOk O) (ha : a < oP O) (sa : oS O a = 0) (hi : i < 1024) (h19 : ∀ t, t < 1280 → μ.1 19 t = nI (oMn (FI O a t))) (h20 : ∀ t, t < 1280 → ∃ q, isMinO (Cs O a i 0 t) q ∧ μ.1 20 t = nI (oMn q))
    (hP : ∀ μ', frC [20] μ μ' → (∀ t, t < 1280 → ∃ q, isMinO (Cs O a (i + 1) 0 t) q ∧ μ'.1 20 t = nI (oMn q)) → P μ') : wX10_cutOne μ (nI a) (nI i) P := by
  have h8 := hk.1
  unfold wX10_cutOne
  refine ⟨oP O + 1, ?_⟩
  have step : ∀ d b μ1, b + d = oP O → frC [20] μ μ1 → (∀ t, t < 1280 → ∃ q, isMinO (Cs O a i b t) q ∧ μ1.1 20 t = nI (oMn q)) → wLX10_cutOne_2 (nI a) (nI i) (fun (σ30 : St) => P σ30) P (d + 1) μ1 (nI b) := by
    intro d
    induction d with
    | zero =>
      intro b μ1 hb hf hq
      have M1 := orM_fr hM hf (by decide)
      rw [wLX10_cutOne_2, toN0, M1.1]
      have e : b = oP O := by omega
      subst e
      refine ⟨in0 (by omega) (by omega), fun _ => hP μ1 hf (fun t ht => ?_), fun c => absurd (nI_le (Nat.le_refl _) (by omega)) c⟩
      obtain ⟨q, q1, q2⟩ := hq t ht
      exact ⟨q, isMinO_iff q1 (fun x => Cs_next), q2⟩
    | succ d ih =>
      intro b μ1 hb hf hq
      have bP : b < oP O := by omega
      have M1 := orM_fr hM hf (by decide)
      have e19 : ∀ t, t < 1280 → μ1.1 19 t = nI (oMn (FI O a t)) := fun t ht => by rw [hf.1 19 (by decide)]; exact h19 t ht
      have A := hk.2.2.1 a ha
      have B := hk.2.2.1 b bP
      have rem : nI i - nI i / (256 : Int32) * (256 : Int32) = nI (i % 256) := pk_rem (d := 256) (by omega) (by omega) (by omega)
      have same : (∀ t c, ¬ Tr O a i b t c) → wLX10_cutOne_2 (nI a) (nI i) (fun (σ30 : St) => P σ30) P (d + 1) μ1 (nI (b + 1)) := fun q => by
        refine ih (b + 1) μ1 (by omega) hf (fun t ht => ?_)
        obtain ⟨q', q1, q2⟩ := hq t ht
        refine ⟨q', isMinO_iff q1 (fun x => or_congr Iff.rfl ⟨?_, ?_⟩), q2⟩
        · rintro ⟨i', b', a1, a2⟩; exact ⟨i', b', by omega, a2⟩
        · rintro ⟨i', b', a1, a2⟩
          refine ⟨i', b', ?_, a2⟩
          rcases a1 with a1 | ⟨rfl, a1⟩
          · exact Or.inl a1
          · have : b' ≠ b := fun e => q t x (by rw [← e]; exact a2)
            exact Or.inr ⟨rfl, by omega⟩
      rw [wLX10_cutOne_2, toN0, M1.1, rem, show (8 : Int32) = nI 8 from rfl, pk_mul, nI_add, bitN (by omega) (by omega), cl (n := a) (by omega), cl (n := b) (by omega), cl (n := 8 * a + b) (by omega), cl (n := i) (by omega), (M1.2.2.1 b bP).1, (M1.2.2.1 a ha).2.1, (M1.2.2.1 b bP).2.1, M1.2.2.2.1 a b (by omega) (by omega), decide_eq_true ha, Bool.true_and]
      refine ⟨in0 (by omega) (by omega), fun c => absurd c (nI_ge bP (by omega)), fun _ => ⟨vp_in_nI (by omega) (by omega), ?_⟩⟩
      have va : vp_in (nI a) 16 := vp_in_nI (by omega) (by omega)
      have vb : vp_in (nI b) 16 := vp_in_nI (by omega) (by omega)
      by_cases good : oS O b = 1 ∧ (oQ O a).testBit b = false ∧ (i % 256).testBit b = false
      · obtain ⟨g1, g2, g3⟩ := good
        obtain ⟨o1, o2⟩ := orAdd (R := i % 256) (b := b) (by omega) (by omega) g3
        have hu : oU O a b = true := by unfold oU; rw [g2, sa, g1]; decide
        have tl : i + 256 + 2 ^ b < 1280 := by omega
        have go : ∀ z10 : Int32, z10 = ((nI i + (256 : Int32)) + ((1 : Int32) <<< (nI b &&& 31))) → ((1 : Int32) = 0 → ∀ z12 : Int32, z12 = nI b + (1 : Int32) → wLX10_cutOne_2 (nI a) (nI i) (fun (σ30 : St) => P σ30) P (d + 1) μ1 z12) ∧
            (¬ (1 : Int32) = 0 → vp_in (nI i) 1280 ∧ vp_in z10 1280 ∧ ((μ1.1 20 z10.toNatClampNeg) ≤ ((μ1.1 19 i) + nI (dG O a b)) → ∀ z16 : Int32, z16 = nI b + (1 : Int32) → wLX10_cutOne_2 (nI a) (nI i) (fun (σ30 : St) => P σ30) P (d + 1) μ1 z16) ∧
            (¬ (μ1.1 20 z10.toNatClampNeg) ≤ ((μ1.1 19 i) + nI (dG O a b)) → vp_in (nI i) 1280 ∧ vp_in z10 1280 ∧ ∀ σ19 : St, σ19 = sI μ1 20 z10.toNatClampNeg ((μ1.1 19 i) + nI (dG O a b)) → ∀ z20 : Int32, z20 = nI b + (1 : Int32) → wLX10_cutOne_2 (nI a) (nI i) (fun (σ30 : St) => P σ30) P (d + 1) σ19 z20)) := by
          intro z10 h10
          rw [shl1 (by omega), show (256 : Int32) = nI 256 from rfl, nI_add, nI_add] at h10
          subst h10
          rw [cl (n := i + 256 + 2 ^ b) (by omega), e19 i (by omega), nI_add]
          have dl := dG_le hk ha bP
          obtain ⟨q, q1, q2⟩ := hq (i + 256 + 2 ^ b) tl
          have ql : oMn q ≤ 9999 := by
            cases q with
            | none => exact Nat.le_refl _
            | some m => have := Cs_le hk ha tl q1.1; show m ≤ 9999; omega
          have fl : oMn (FI O a i) ≤ 9999 := by
            cases f : FI O a i with
            | none => exact Nat.le_refl _
            | some m => have := (FI_le hk (by omega) f).1; show m ≤ 9999; omega
          -- what the cell holds, when v has come
          have upd : ∀ c', FI O a i = some c' → ∀ μ2, frC [20] μ μ2 → (∀ t, t ≠ i + 256 + 2 ^ b → μ2.1 20 t = μ1.1 20 t) → μ2.1 20 (i + 256 + 2 ^ b) = nI (oMn (fewO q (some (c' + dG O a b)))) → wLX10_cutOne_2 (nI a) (nI i) (fun (σ30 : St) => P σ30) P (d + 1) μ2 (nI (b + 1)) := fun c' f μ2 hf2 ho ht' => by
            refine ih (b + 1) μ2 (by omega) hf2 (fun t ht => ?_)
            by_cases e : t = i + 256 + 2 ^ b
            · subst e
              refine ⟨_, isMinO_iff (isMinO_one q1 (c' + dG O a b)) (fun x => ⟨?_, ?_⟩), ht'⟩
              · rintro ((h | ⟨i', b', a1, a2⟩) | rfl)
                · exact Or.inl h
                · exact Or.inr ⟨i', b', by omega, a2⟩
                · exact Or.inr ⟨i, b, by omega, hi, bP, g1, hu, g3, rfl, c', f, rfl⟩
              · rintro (h | ⟨i', b', a1, a2⟩)
                · exact Or.inl (Or.inl h)
                · by_cases e : i' = i ∧ b' = b
                  · obtain ⟨rfl, rfl⟩ := e
                    obtain ⟨-, -, -, -, -, -, c2, f2, rfl⟩ := a2
                    rw [f] at f2; cases f2; exact Or.inr rfl
                  · exact Or.inl (Or.inr ⟨i', b', by omega, a2⟩)
            · obtain ⟨q', q1', q2'⟩ := hq t ht
              refine ⟨q', isMinO_iff q1' (fun x => or_congr Iff.rfl ⟨?_, ?_⟩), by rw [ho t e]; exact q2'⟩
              · rintro ⟨i', b', a1, a2⟩; exact ⟨i', b', by omega, a2⟩
              · rintro ⟨i', b', a1, a2⟩
                refine ⟨i', b', ?_, a2⟩
                rcases a1 with a1 | ⟨rfl, a1⟩
                · exact Or.inl a1
                · have : b' ≠ b := fun e' => e (by rw [← e']; exact a2.2.2.2.2.2.1.symm)
                  exact Or.inr ⟨rfl, by omega⟩
          refine ⟨fun c => absurd c nb0, fun _ => ⟨vp_in_nI (by omega) (by omega), vp_in_nI (by omega) (by omega), fun c z hz => ?_, fun c => ⟨vp_in_nI (by omega) (by omega), vp_in_nI (by omega) (by omega), fun μ2 h2 z hz => ?_⟩⟩⟩
          · rw [hz, add1]
            rw [q2] at c
            have c := (nI_leI (by omega) (by omega)).mp c
            cases f : FI O a i with
            | none => exact same (fun t x h => by obtain ⟨-, -, -, -, -, -, c2, f2, -⟩ := h; rw [f] at f2; cases f2)
            | some c' =>
              rw [f] at c
              have c : oMn q ≤ c' + dG O a b := c
              refine upd c' f μ1 hf (fun _ _ => rfl) ?_
              rw [q2]
              cases q with
              | none => have := (FI_le hk (by omega) f).1; exact absurd c (by show ¬ 9999 ≤ _; omega)
              | some m =>
                have c : m ≤ c' + dG O a b := c
                show nI m = nI (min m (c' + dG O a b))
                rw [Nat.min_eq_left c]
          · rw [hz, add1]
            rw [q2] at c
            have c : ¬ oMn q ≤ oMn (FI O a i) + dG O a b := fun h => c (nI_le h (by omega))
            cases f : FI O a i with
            | none => rw [f] at c; exact absurd (Nat.le_trans ql (Nat.le_add_right _ _)) c
            | some c' =>
              rw [f] at c h2
              have c : ¬ oMn q ≤ c' + dG O a b := c
              refine upd c' f μ2 (by rw [h2]; exact hf.wr (by decide)) (fun t ht => by rw [h2, sI_off ht]) ?_
              rw [h2, sI_at]
              cases q with
              | none => rfl
              | some m =>
                have c : ¬ m ≤ c' + dG O a b := c
                show nI (c' + dG O a b) = nI (min m (c' + dG O a b))
                rw [Nat.min_eq_right (by omega)]
        refine jn_in ⟨fun c => absurd (by rw [g1]; rfl) c, fun _ => ⟨vp_in_nI (by omega) (by omega), fun c => absurd (by rw [g2]; rfl) c, fun _ => ⟨fun c => absurd (by rw [g3]; rfl) c, fun _ => ⟨va, vb, ?_⟩⟩⟩⟩
        by_cases g : oG O b ≤ oG O a
        · refine jn_in ⟨fun _ => ⟨va, vb, ?_⟩, fun c => absurd (nI_le g (by omega)) c⟩
          rw [pk_sub g, show oG O a - oG O b = dG O a b from (if_pos g).symm]
          exact go
        · refine jn_in ⟨fun c => absurd ((nI_leI (by omega) (by omega)).mp c) g, fun _ => ⟨vb, va, ?_⟩⟩
          rw [pk_sub (by omega), show oG O b - oG O a = dG O a b from (if_neg g).symm]
          exact go
      · have nt : ∀ t c, ¬ Tr O a i b t c := fun t c h => good ⟨h.2.2.1, by
          have := h.2.2.2.1
          unfold oU at this
          simp at this
          exact this.2, h.2.2.2.2.1⟩
        have fin := same nt
        refine jn_in ⟨fun c => ⟨va, vb, ?_⟩, fun c1 => ⟨vp_in_nI (by omega) (by omega), fun c => ⟨va, vb, ?_⟩, fun c2 => ⟨fun c => ⟨va, vb, ?_⟩, fun c3 => absurd ⟨(eqI rfl (b := 1) rfl (by omega) (by omega)).mp c1, bI_eq0.mp c2, bI_eq0.mp c3⟩ good⟩⟩⟩
        all_goals
          refine jn_in ⟨fun _ => ⟨va, vb, fun z10 _ => ⟨fun _ z hz => ?_, fun c => absurd rfl c⟩⟩, fun _ => ⟨vb, va, fun z10 _ => ⟨fun _ z hz => ?_, fun c => absurd rfl c⟩⟩⟩ <;> (rw [hz, add1]; exact fin)
  exact step (oP O) 0 μ (by omega) frC.rf h20
