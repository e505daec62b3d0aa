theorem cnt1_ex {O : Orc} (hk : oOk O) {k : Nat} (h1 : 1 ≤ k) : ∀ n, n ≤ oP O → k ≤ cnt1 O n → ∃ q, q < n ∧ oS O q = 1 ∧ cnt1 O (q + 1) = k := by
  intro n
  induction n with
  | zero => intro _ h; have : cnt1 O 0 = 0 := rfl; omega
  | succ n ih =>
    intro hn h
    by_cases g : k ≤ cnt1 O n
    · obtain ⟨q, q1, q2, q3⟩ := ih (by omega) g
      exact ⟨q, by omega, q2, q3⟩
    · have s := (hk.2.2.1 n (by omega)).1
      rw [cnt1] at h
      exact ⟨n, by omega, by omega, by rw [cnt1]; omega⟩
theorem m_right {μ : St} {O : Orc} {k q : Nat} {P : Int32 → Prop} (hM : orM μ O) (hk : oOk O) (hk8 : k ≤ 8) (hq : q < oP O) (hs : oS O q = 1) (hc : cnt1 O (q + 1) = k) (hP : P (nI q)) : wX10_right μ (nI k) P := by
  have h8 := hk.1
  unfold wX10_right
  refine ⟨q + 1, ?_⟩
  have step : ∀ d p, p + d = q → wLX10_right_4 (nI k) μ (P (-9 : Int32)) P (d + 1) (nI (cnt1 O p)) (nI p) := by
    intro d
    induction d with
    | zero =>
      intro p hp
      have e : p = q := by omega
      subst e
      rw [wLX10_right_4, toN0, hM.1, cl (n := p) (by omega), (hM.2.2.1 p hq).1, nI_add]
      refine ⟨in0 (by omega) (by omega), fun c => absurd c (nI_ge hq (by omega)), fun _ => ⟨vp_in_nI (by omega) (by omega), fun z4 h4 => ⟨vp_in_nI (by omega) (by omega), fun c => absurd (by rw [hs]; rfl) c, fun _ => ⟨fun c => absurd ?_ c, fun _ => hP⟩⟩⟩⟩
      rw [h4, ← hc, cnt1]
    | succ d ih =>
      intro p hp
      have pP : p < oP O := by omega
      have s := (hk.2.2.1 p pP).1
      have nx := ih (p + 1) (by omega)
      rw [cnt1] at nx
      have m := cnt1_mono O (show p + 1 ≤ q by omega)
      have cl8 := cnt1_le hk p (by omega)
      rw [cnt1, hs] at hc
      rw [cnt1] at m
      rw [wLX10_right_4, toN0, hM.1, cl (n := p) (by omega), (hM.2.2.1 p pP).1, nI_add]
      refine ⟨in0 (by omega) (by omega), fun c => absurd c (nI_ge pP (by omega)), fun _ => ⟨vp_in_nI (by omega) (by omega), fun z4 h4 => ⟨vp_in_nI (by omega) (by omega), fun _ z hz => ?_, fun _ => ⟨fun _ z hz => ?_, fun c => absurd ?_ (show ¬ cnt1 O p + oS O p = k by omega)⟩⟩⟩⟩
      · rw [hz, add1, h4]; exact nx
      · rw [hz, add1, h4]; exact nx
      · rw [h4] at c
        exact (nI_eq (by omega) (by omega)).mp c
  exact step q 0 (by omega)
def wiM (μ : St) (O : Orc) (W : Nat → Option Nat) : Prop := ∀ p, p < oP O → μ.1 17 p = oV (W p)
theorem m_pairL {μ : St} {O : Orc} {P : Int32 → St → Prop} (hM : orM μ O) (hk : oOk O) : ∀ (e c : Nat) (W : Nat → Option Nat) (μ1 : St), e ≤ oP O → c < 2 ^ 31 → frC [17] μ μ1 → wiM μ1 O W → wOk O W → (∀ x, oP O - e ≤ x → oS O x = 0 → W x = none) →
    (PW O (cnt1 O (oP O)) e c W = none → ∀ μ', frC [17] μ μ' → P (0 : Int32) μ') → (∀ W', PW O (cnt1 O (oP O)) e c W = some W' → wOk O W' → ∀ μ', frC [17] μ μ' → wiM μ' O W' → P (1 : Int32) μ') →
    wLX10_pair_34 (nI (cnt1 O (oP O))) (fun (σ33 : St) => P (1 : Int32) σ33) P (e + 1) μ1 (nI c) (nI (oP O - e)) := by
  have h8 := hk.1
  have c8 := cnt1_le hk (oP O) (Nat.le_refl _)
  intro e
  induction e with
  | zero =>
    intro c W μ1 he hc hf hw ok hn h0 h1
    rw [wLX10_pair_34, toN0, (orM_fr hM hf (by decide)).1, Nat.sub_zero]
    exact ⟨in0 (by omega) (by omega), fun _ => h1 W rfl ok μ1 hf hw, fun c => absurd (nI_le (Nat.le_refl _) (by omega)) c⟩
  | succ e ih =>
    intro c W μ1 he hc hf hw ok hn h0 h1
    have M1 := orM_fr hM hf (by decide)
    generalize hp : oP O - (e + 1) = p at *
    have pP : p < oP O := by omega
    have ep : oP O - e = p + 1 := by omega
    have s := (hk.2.2.1 p pP).1
    rw [wLX10_pair_34, toN0, M1.1, cl (n := p) (by omega), (M1.2.2.1 p pP).1, add1 (cnt1 O (oP O))]
    rw [PW, hp] at h0 h1
    have r0 : ¬ nI (cnt1 O (oP O) + 1) = 0 := nI_ne0 (by omega) (by omega)
    have vp : vp_in (nI p) 8 := vp_in_nI (by omega) (by omega)
    refine ⟨in0 (by omega) (by omega), fun c => absurd c (nI_ge pP (by omega)), fun _ => ⟨vp_in_nI (by omega) (by omega), fun q z hz => ?_, fun q => ⟨r0, fun z13 h13 => ⟨r0, fun z15 h15 => ?_⟩⟩⟩⟩
    · have q : ¬ oS O p = 0 := fun x => q (by rw [x]; rfl)
      rw [if_neg q] at h0 h1
      rw [hz, add1, ← ep]
      exact ih c W μ1 (by omega) hc hf hw ok (fun x hx hs => hn x (by omega) hs) h0 h1
    · have q : oS O p = 0 := (eqI rfl (b := 0) rfl (by omega) (by omega)).mp q
      rw [if_pos q] at h0 h1
      have wp := hn p (Nat.le_refl _) q
      rw [pk_rem (by omega) (by omega) (by omega)] at h13
      rw [divI (by omega) (by omega) (by omega)] at h15
      subst h13; subst h15
      have ml : c % (cnt1 O (oP O) + 1) < cnt1 O (oP O) + 1 := Nat.mod_lt _ (by omega)
      have dl : c / (cnt1 O (oP O) + 1) ≤ c := Nat.div_le_self _ _
      refine jn_in ⟨fun k0 => ?_, fun k0 => ?_⟩
      · have k0 : ¬ c % (cnt1 O (oP O) + 1) = 0 := fun x => k0 (by rw [x]; rfl)
        rw [if_neg k0] at h0 h1
        obtain ⟨g, g1, g2, g3⟩ := cnt1_ex hk (k := c % (cnt1 O (oP O) + 1)) (by omega) (oP O) (Nat.le_refl _) (by omega)
        have eg : rgt O (c % (cnt1 O (oP O) + 1)) = g := rgF_eq (oP O) g1 g2 g3
        rw [eg] at h0 h1
        have ng : ¬ nI g = (-9 : Int32) := oV_ne (by omega)
        have vg : vp_in (nI g) 8 := vp_in_nI (by omega) (by omega)
        have npg : p ≠ g := fun x => by rw [x] at q; omega
        refine m_right M1 hk (by omega) g1 g2 g3 (jn_in ⟨fun c => absurd c ng, fun _ => m_fits M1 hk pP g1 (br_b (fun f => ?_) (fun f => ⟨vg, fun w => ⟨vp, fun σ20 h20 => ⟨fun c => absurd c ng, fun _ => ⟨vg, fun σ24 h24 z hz => ?_⟩⟩⟩, fun w => ?_⟩))⟩)
        · rw [if_neg (fun x => by rw [f] at x; exact absurd x.1 (by decide))] at h0
          exact h0 rfl μ1 hf
        · rw [cl (n := g) (by omega), hw g g1] at w
          have wg : W g = none := by
            cases e : W g with
            | none => rfl
            | some h => rw [e] at w; have := (ok g h e).2.1; exact absurd w (oV_ne (by omega))
          rw [if_pos ⟨f, wg⟩] at h0 h1
          rw [cl (n := g) (by omega)] at h24
          have mem : (p, g) ∈ prs O := prs_mem.mpr ⟨pP, g1, q, f⟩
          rw [hz, add1, ← ep]
          refine ih _ (wPut W p g) σ24 (by omega) (by omega) (by rw [h24, h20]; exact (hf.wr (by decide)).wr (by decide)) (fun x hx => ?_) (wPut_ok hk ok mem wp wg) (fun x hx hs => ?_) h0 h1
          · show σ24.1 17 x = oV (if x = p then some g else if x = g then some p else W x)
            rw [h24, sI_get]
            by_cases x2 : x = g
            · rw [if_pos ⟨rfl, x2⟩, if_neg (fun y => npg (by rw [← y, x2])), if_pos x2]; rfl
            · rw [if_neg (fun y => x2 y.2), h20, sI_get]
              by_cases x1 : x = p
              · rw [if_pos ⟨rfl, x1⟩, if_pos x1]; rfl
              · rw [if_neg (fun y => x1 y.2), if_neg x1, if_neg x2]; exact hw x hx
          · show (if x = p then some g else if x = g then some p else W x) = none
            rw [if_neg (by omega), if_neg (fun y => by rw [y] at hs; omega)]
            exact hn x (by omega) hs
        · rw [cl (n := g) (by omega), hw g g1] at w
          rw [if_neg (fun x => w (by rw [x.2]; rfl))] at h0
          exact h0 rfl μ1 hf
      · have k0 : c % (cnt1 O (oP O) + 1) = 0 := (eqI rfl (b := 0) rfl (by omega) (by omega)).mp k0
        rw [if_pos k0] at h0 h1
        refine jn_in ⟨fun _ => ⟨vp, fun σ20 h20 => ⟨fun _ z hz => ?_, fun c => absurd rfl c⟩⟩, fun c => absurd rfl c⟩
        rw [hz, add1, ← ep]
        refine ih _ W σ20 (by omega) (by omega) (by rw [h20]; exact hf.wr (by decide)) (fun x hx => ?_) ok (fun x hx hs => hn x (by omega) hs) h0 h1
        rw [h20, sI_get]
        by_cases x1 : x = p
        · rw [if_pos ⟨rfl, x1⟩, x1, wp]; rfl
        · rw [if_neg (fun y => x1 y.2)]; exact hw x hx
theorem m_pair {μ : St} {O : Orc} {c : Nat} {P : Int32 → St → Prop} (hM : orM μ O) (hk : oOk O) (hc : c < 2 ^ 31) (h0 : PW O (cnt1 O (oP O)) (oP O) c (fun _ => none) = none → ∀ μ', frC [17] μ μ' → P (0 : Int32) μ') (h1 : ∀ W', PW O (cnt1 O (oP O)) (oP O) c (fun _ => none) = some W' → wOk O W' → ∀ μ', frC [17] μ μ' → wiM μ' O W' → P (1 : Int32) μ') : wX10_pair μ (nI c) (nI (cnt1 O (oP O))) P := by
  have h8 := hk.1
  unfold wX10_pair
  refine ⟨oP O + 1, ?_⟩
  have step : ∀ d i μ1, i + d = oP O → frC [17] μ μ1 → (∀ j, j < i → μ1.1 17 j = -9) → wLX10_pair_5 (nI (cnt1 O (oP O))) (nI c) (fun (σ6 : St) => ∃ n34 : Nat, wLX10_pair_34 (nI (cnt1 O (oP O))) (fun (σ33 : St) => P (1 : Int32) σ33) P n34 σ6 (nI c) (0 : Int32)) P (d + 1) μ1 (nI i) := by
    intro d
    induction d with
    | zero =>
      intro i μ1 hi hf hb
      rw [wLX10_pair_5, toN0, (orM_fr hM hf (by decide)).1]
      refine ⟨in0 (by omega) (by omega), fun _ => ⟨oP O + 1, ?_⟩, fun c => absurd (nI_le (by omega) (by omega)) c⟩
      have := m_pairL (P := P) hM hk (oP O) c (fun _ => none) μ1 (Nat.le_refl _) hc hf (fun p hp => hb p (by omega)) (fun p q h => by cases h) (fun _ _ _ => rfl) h0 h1
      rw [Nat.sub_self] at this
      exact this
    | succ d ih =>
      intro i μ1 hi hf hb
      have iP : i < oP O := by omega
      rw [wLX10_pair_5, toN0, (orM_fr hM hf (by decide)).1, cl (n := i) (by omega)]
      refine ⟨in0 (by omega) (by omega), fun c => absurd c (nI_ge iP (by omega)), fun _ => ⟨vp_in_nI (by omega) (by omega), fun σ4 h4 z hz => ?_⟩⟩
      rw [hz, add1]
      refine ih (i + 1) σ4 (by omega) (by rw [h4]; exact hf.wr (by decide)) (fun j hj => ?_)
      by_cases e : j = i
      · subst e; rw [h4, sI_at]
      · rw [h4, sI_off e]; exact hb j (by omega)
  exact step (oP O) 0 μ (by omega) frC.rf (fun j hj => absurd hj (Nat.not_lt_zero j))
/-- two who would rather have each other -/
def blk (O : Orc) (W : Nat → Option Nat) (a b : Nat) : Bool := oF O a b && (prf O W a b && prf O W b a)
theorem rst_blk {O : Orc} (hk : oOk O) {W : Nat → Option Nat} : rstB O W = true ↔ ∀ a b, a < oP O → b < oP O → blk O W a b = false := by
  unfold rstB
  rw [List.all_eq_true]
  constructor
  · intro h a b ha hb
    cases g : blk O W a b with
    | false => rfl
    | true =>
      unfold blk at g
      rw [Bool.and_eq_true, Bool.and_eq_true] at g
      obtain ⟨g1, g2, g3⟩ := g
      have sa := (hk.2.2.1 a ha).1
      have sb := (hk.2.2.1 b hb).1
      have sd := oF_side g1
      by_cases s : oS O a = 0
      · have := h (a, b) (prs_mem.mpr ⟨ha, hb, s, g1⟩)
        unfold prB at this
        rw [show prf O W (a, b).1 (a, b).2 = true from g2, show prf O W (a, b).2 (a, b).1 = true from g3] at this
        cases this
      · have := h (b, a) (prs_mem.mpr ⟨hb, ha, by omega, by rw [oF_comm hk hb ha]; exact g1⟩)
        unfold prB at this
        rw [show prf O W (b, a).1 (b, a).2 = true from g3, show prf O W (b, a).2 (b, a).1 = true from g2] at this
        cases this
  · rintro h ⟨a, b⟩ hq
    obtain ⟨ha, hb, -, hf⟩ := prs_mem.mp hq
    have := h a b ha hb
    unfold blk at this
    rw [hf, Bool.true_and] at this
    unfold prB
    rw [show (prf O W (a, b).1 (a, b).2 && prf O W (a, b).2 (a, b).1) = false from this]; rfl
theorem m_isRest {μ : St} {O : Orc} {W : Nat → Option Nat} {P : Int32 → Prop} (hM : orM μ O) (hk : oOk O) (hw : wiM μ O W) (ok : wOk O W) (hP : P (bI (rstB O W))) : wX10_isRest μ P := by
  have h8 := hk.1
  unfold wX10_isRest
  refine ⟨oP O + 1, ?_⟩
  have bad : ∀ a b, a < oP O → b < oP O → blk O W a b = true → P 0 := fun a b ha hb h => by
    have : rstB O W = false := by
      cases g : rstB O W with
      | false => rfl
      | true => have := (rst_blk hk).mp g a b ha hb; rw [h] at this; cases this
    rw [this] at hP; exact hP
  have inner : ∀ a, a < oP O → ∀ K : Prop, ((∀ b, b < oP O → blk O W a b = false) → K) → ∀ d b, b + d = oP O → (∀ b', b' < b → blk O W a b' = false) → wLX10_isRest_14 (nI a) μ K P (d + 1) (nI b) := by
    intro a ha K hK d
    induction d with
    | zero =>
      intro b hb hx
      rw [wLX10_isRest_14, toN0, hM.1]
      exact ⟨in0 (by omega) (by omega), fun _ => hK (fun b' hb' => hx b' (by omega)), fun c => absurd (nI_le (by omega) (by omega)) c⟩
    | succ d ih =>
      intro b hb hx
      have bP : b < oP O := by omega
      have stay : blk O W a b = false → wLX10_isRest_14 (nI a) μ K P (d + 1) (nI (b + 1)) := fun q => ih (b + 1) (by omega) (fun b' hb' => by
        by_cases e : b' = b
        · rw [e]; exact q
        · exact hx b' (by omega))
      rw [wLX10_isRest_14, toN0, hM.1, cl (n := a) (by omega), cl (n := b) (by omega), hw a ha, hw b bP]
      refine ⟨in0 (by omega) (by omega), fun c => absurd c (nI_ge bP (by omega)), fun _ => ⟨fun c z hz => ?_, fun _ => m_fits hM hk ha bP (br_b (fun f z hz => ?_) (fun f => ⟨vp_in_nI (by omega) (by omega), m_likes hM hk ha bP (fun h e => (ok a h e).2.1) (br_b (fun g z hz => ?_) (fun g => ⟨vp_in_nI (by omega) (by omega), m_likes hM hk bP ha (fun h e => (ok b h e).2.1) (br_b (fun g2 z hz => ?_) (fun g2 => ?_))⟩))⟩))⟩⟩
      · have c := (nI_eq (by omega) (by omega)).mp c
        subst c
        rw [hz, add1]
        refine stay ?_
        have f : oF O a a = false := by
          cases f : oF O a a with
          | false => rfl
          | true => exact absurd rfl (oF_side f)
        unfold blk; rw [f]; rfl
      · rw [hz, add1]
        exact stay (by unfold blk; rw [f]; rfl)
      · rw [hz, add1]
        exact stay (by unfold blk; rw [show prf O W a b = false from g]; simp)
      · rw [hz, add1]
        exact stay (by unfold blk; rw [show prf O W b a = false from g2]; simp)
      · exact bad a b ha bP (by unfold blk; rw [f, show prf O W a b = true from g, show prf O W b a = true from g2]; rfl)
  have step : ∀ d a, a + d = oP O → (∀ a' b', a' < a → b' < oP O → blk O W a' b' = false) → wLX10_isRest_2 μ (P (1 : Int32)) P (d + 1) (nI a) := by
    intro d
    induction d with
    | zero =>
      intro a ha hx
      rw [wLX10_isRest_2, toN0, hM.1]
      refine ⟨in0 (by omega) (by omega), fun _ => ?_, fun c => absurd (nI_le (by omega) (by omega)) c⟩
      have : rstB O W = true := (rst_blk hk).mpr (fun a' b' h1 h2 => hx a' b' (by omega) h2)
      rw [this] at hP; exact hP
    | succ d ih =>
      intro a ha hx
      have aP : a < oP O := by omega
      rw [wLX10_isRest_2, toN0, hM.1]
      refine ⟨in0 (by omega) (by omega), fun c => absurd c (nI_ge aP (by omega)), fun _ => ⟨oP O + 1, inner a aP _ (fun hb z hz => ?_) (oP O) 0 (by omega) (fun b' hb' => absurd hb' (Nat.not_lt_zero b'))⟩⟩
      rw [hz, add1]
      refine ih (a + 1) (by omega) (fun a' b' h1 h2 => ?_)
      by_cases e : a' = a
      · rw [e]; exact hb b' h2
      · exact hx a' b' (by omega) h2
  exact step (oP O) 0 (by omega) (fun a' b' h => absurd h (Nat.not_lt_zero a'))
def cdF (O : Orc) (r : Nat) : Nat → Nat
  | 0 => 1
  | i + 1 => if oS O i = 0 then cdF O r i * (r + 1) else cdF O r i
theorem cdF_N (O : Orc) (r : Nat) : ∀ e, e ≤ oP O → cdF O r (oP O - e) * cdN O r e = cdF O r (oP O) := by
  intro e
  induction e with
  | zero => intro _; rw [cdN, Nat.mul_one]; rfl
  | succ e ih =>
    intro h
    have ih := ih (by omega)
    rw [show oP O - e = oP O - (e + 1) + 1 by omega, cdF] at ih
    rw [cdN]
    by_cases s : oS O (oP O - (e + 1)) = 0
    · rw [if_pos s] at ih ⊢; rw [← ih, Nat.mul_assoc]
    · rw [if_neg s] at ih ⊢; exact ih
theorem cdN_F (O : Orc) (r : Nat) : cdF O r (oP O) = cdN O r (oP O) := by
  have := cdF_N O r (oP O) (Nat.le_refl _)
  rw [Nat.sub_self, cdF, Nat.one_mul] at this
  exact this.symm
theorem cdF_le (O : Orc) {r : Nat} (hr : r ≤ 8) : ∀ i, cdF O r i ≤ 9 ^ i := by
  intro i
  induction i with
  | zero => exact Nat.le_refl _
  | succ i ih =>
    rw [cdF, Nat.pow_succ]
    split
    · exact Nat.mul_le_mul ih (by omega)
    · exact Nat.le_trans ih (Nat.le_mul_of_pos_right _ (by omega))
theorem m_rests10 {μ : St} {O : Orc} {P : Int32 → St → Prop} (hM : orM μ O) (hk : oOk O) (hP : ∀ μ', frC [17] μ μ' → P (nI (ansRests O)) μ') : wX10_rests μ P := by
  have h8 := hk.1
  have c8 := cnt1_le hk (oP O) (Nat.le_refl _)
  have cdl : cdF O (cnt1 O (oP O)) (oP O) < 2 ^ 31 := by
    have h1 := cdF_le O (r := cnt1 O (oP O)) (by omega) (oP O)
    have h2 : 9 ^ oP O ≤ 9 ^ 8 := Nat.pow_le_pow_right (by omega) h8
    have h3 : (9 : Nat) ^ 8 < 2 ^ 31 := by decide
    omega
  unfold wX10_rests
  refine ⟨oP O + 1, ?_⟩
  have step1 : ∀ (K : Int32 → Prop), K (nI (cnt1 O (oP O))) → ∀ d i, i + d = oP O → wLX10_rests_6 (1 : Int32) μ K P (d + 1) (nI (cnt1 O i)) (nI i) := by
    intro K hK d
    induction d with
    | zero =>
      intro i hi
      rw [wLX10_rests_6, toN0, hM.1]
      exact ⟨in0 (by omega) (by omega), fun _ => by rw [show i = oP O by omega]; exact hK, fun c => absurd (nI_le (by omega) (by omega)) c⟩
    | succ d ih =>
      intro i hi
      have iP : i < oP O := by omega
      rw [wLX10_rests_6, toN0, hM.1, cl (n := i) (by omega), (hM.2.2.1 i iP).1, nI_add]
      refine ⟨in0 (by omega) (by omega), fun c => absurd c (nI_ge iP (by omega)), fun _ => ⟨vp_in_nI (by omega) (by omega), fun z hz z5 hz5 => ?_⟩⟩
      rw [hz, hz5, add1]
      exact ih (i + 1) (by omega)
  have step2 : ∀ (K : Int32 → Prop), K (nI (cdF O (cnt1 O (oP O)) (oP O))) → ∀ d i, i + d = oP O → wLX10_rests_33 (nI (cnt1 O (oP O))) μ K P (d + 1) (nI (cdF O (cnt1 O (oP O)) i)) (nI i) := by
    intro K hK d
    induction d with
    | zero =>
      intro i hi
      rw [wLX10_rests_33, toN0, hM.1]
      exact ⟨in0 (by omega) (by omega), fun _ => by rw [show i = oP O by omega]; exact hK, fun c => absurd (nI_le (by omega) (by omega)) c⟩
    | succ d ih =>
      intro i hi
      have iP : i < oP O := by omega
      have s := (hk.2.2.1 i iP).1
      have nx := ih (i + 1) (by omega)
      rw [cdF] at nx
      rw [wLX10_rests_33, toN0, hM.1, cl (n := i) (by omega), (hM.2.2.1 i iP).1, add1 (cnt1 O (oP O)), pk_mul]
      refine ⟨in0 (by omega) (by omega), fun c => absurd c (nI_ge iP (by omega)), fun _ => ⟨vp_in_nI (by omega) (by omega), fun c z hz z5 hz5 => ?_, fun c z hz z5 hz5 => ?_⟩⟩
      · rw [if_neg (fun x => c (by rw [x]; rfl))] at nx
        rw [hz, hz5, add1, i1, pk_mul, Nat.mul_one]; exact nx
      · rw [if_pos ((eqI rfl (b := 0) rfl (by omega) (by omega)).mp c)] at nx
        rw [hz, hz5, add1]; exact nx
  have step3 : ∀ d c μ1, c + d = cdF O (cnt1 O (oP O)) (oP O) → frC [17] μ μ1 → wLX10_rests_73 (nI (cnt1 O (oP O))) (nI (cdF O (cnt1 O (oP O)) (oP O))) (fun (σ29 : St) (y28 : Int32) => P y28 σ29) P (d + 1) μ1 (nI (sumT (fun c => vP O (PW O (cnt1 O (oP O)) (oP O) c (fun _ => none))) c)) (nI c) := by
    intro d
    induction d with
    | zero =>
      intro c μ1 hc hf
      rw [wLX10_rests_73]
      refine ⟨fun _ => ?_, fun x => absurd (nI_le (by omega) (by omega)) x⟩
      have e := ansRests_eq hk
      rw [← cdN_F] at e
      rw [show c = cdF O (cnt1 O (oP O)) (oP O) by omega, e]
      exact hP μ1 hf
    | succ d ih =>
      intro c μ1 hc hf
      have M1 := orM_fr hM hf (by decide)
      have nx := fun μ2 => ih (c + 1) μ2 (by omega)
      rw [sumT] at nx
      rw [wLX10_rests_73]
      refine ⟨fun x => absurd x (nI_ge (by omega) (by omega)), fun _ => m_pair M1 hk (by omega) (fun e μ' hf' => ⟨fun _ z hz z21 h21 => ?_, fun x => absurd rfl x⟩) (fun W' e ok' μ' hf' hw' => ⟨fun x => absurd x nb0, fun _ => ?_⟩)⟩
      · have := nx μ' (hf.tr hf')
        rw [e] at this
        rw [hz, h21, add1, Iz]; exact this
      · have M2 := orM_fr M1 hf' (by decide)
        have := nx μ' (hf.tr hf')
        rw [e] at this
        refine m_isRest M2 hk hw' ok' (br_b (fun f z hz z25 h25 => ?_) (fun f z hz z25 h25 => ?_))
        · rw [show vP O (some W') = (rstB O W').toNat from rfl, f] at this
          rw [hz, h25, add1, Iz]; exact this
        · rw [show vP O (some W') = (rstB O W').toNat from rfl, f] at this
          rw [hz, h25, add1, add1]; exact this
  refine step1 _ ⟨oP O + 1, step2 _ ⟨cdF O (cnt1 O (oP O)) (oP O) + 1, step3 _ 0 μ (by omega) frC.rf⟩ (oP O) 0 (by omega)⟩ (oP O) 0 (by omega)
