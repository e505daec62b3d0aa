/-! kinds -/
def fitN (O : Orc) (p : Nat) : Nat → Nat
  | 0 => 0
  | q + 1 => fitN O p q + (oF O p q).toNat
theorem fitN_le (O : Orc) (p : Nat) : ∀ q, fitN O p q ≤ q := by
  intro q
  induction q with
  | zero => exact Nat.le_refl _
  | succ q ih => rw [fitN]; have := Bool.toNat_le (oF O p q); omega
def bitC (p : Nat) (l : List (Nat × Nat)) : Nat := l.countP (fun q => (two q).testBit p)
theorem bitC_plR_self {O : Orc} {p : Nat} : ∀ j, bitC p (plR O p j) = fitN O p j := by
  intro j
  induction j with
  | zero => rfl
  | succ j ih =>
    rw [plR_s, bitC, List.countP_append, fitN]
    have e : List.countP (fun q => (two q).testBit p) (plR O p j) = fitN O p j := ih
    rw [e]
    cases f : oF O p j with
    | false => simp
    | true => simp [List.countP_cons, two_bit]
theorem bitC_plR_other {O : Orc} {p a : Nat} (hap : a ≠ p) : ∀ j, bitC p (plR O a j) = if p < j ∧ oF O a p = true then 1 else 0 := by
  intro j
  induction j with
  | zero => simp [plR, bitC]
  | succ j ih =>
    rw [plR_s, bitC, List.countP_append]
    have e : List.countP (fun q => (two q).testBit p) (plR O a j) = if p < j ∧ oF O a p = true then 1 else 0 := ih
    rw [e]
    by_cases q : j = p
    · subst q
      rw [if_neg (fun h => absurd h.1 (Nat.lt_irrefl j))]
      by_cases f : oF O a j = true
      · rw [if_pos f, if_pos ⟨by omega, f⟩]; simp [List.countP_cons, two_bit]
      · rw [if_neg f, if_neg (fun h => f h.2)]; rfl
    · have z : List.countP (fun q => (two q).testBit p) (if oF O a j = true then [(a, j)] else []) = 0 := by
        by_cases f : oF O a j = true
        · rw [if_pos f]; simp [List.countP_cons, two_bit, hap, q]
        · rw [if_neg f]; rfl
      rw [z, Nat.add_zero]
      have : (p < j ∧ oF O a p = true) ↔ (p < j + 1 ∧ oF O a p = true) := ⟨fun h => ⟨by omega, h.2⟩, fun h => ⟨by omega, h.2⟩⟩
      simp only [this]
theorem bitC_prs {O : Orc} (hk : oOk O) {p : Nat} (hp : p < oP O) : bitC p (prs O) = fitN O p (oP O) := by
  have sp := (hk.2.2.1 p hp).1
  by_cases s : oS O p = 0
  · have step : ∀ i, i ≤ oP O → bitC p (plA O i) = if p < i then fitN O p (oP O) else 0 := by
      intro i
      induction i with
      | zero => intro _; rfl
      | succ i ih =>
        intro hi
        rw [plA_s, bitC, List.countP_append]
        have e : List.countP (fun q => (two q).testBit p) (plA O i) = if p < i then fitN O p (oP O) else 0 := ih (by omega)
        rw [e]
        by_cases q : i = p
        · subst q
          rw [if_neg (Nat.lt_irrefl i), if_pos s, if_pos (by omega), Nat.zero_add]
          exact bitC_plR_self (oP O)
        · have z : List.countP (fun q => (two q).testBit p) (if oS O i = 0 then plR O i (oP O) else []) = 0 := by
            by_cases si : oS O i = 0
            · rw [if_pos si]
              have := bitC_plR_other (O := O) q (oP O)
              rw [if_neg (fun h => oF_side h.2 (by rw [si, s]))] at this
              exact this
            · rw [if_neg si]; rfl
          rw [z, Nat.add_zero]
          have : p < i ↔ p < i + 1 := by omega
          simp only [this]
    have := step (oP O) (Nat.le_refl _)
    rw [if_pos hp] at this
    exact this
  · have step : ∀ i, i ≤ oP O → bitC p (plA O i) = fitN O p i := by
      intro i
      induction i with
      | zero => intro _; rfl
      | succ i ih =>
        intro hi
        rw [plA_s, bitC, List.countP_append, fitN]
        have e : List.countP (fun q => (two q).testBit p) (plA O i) = fitN O p i := ih (by omega)
        rw [e]
        congr 1
        have si' := (hk.2.2.1 i (by omega)).1
        by_cases si : oS O i = 0
        · rw [if_pos si]
          have ne : i ≠ p := fun q => s (by rw [← q]; exact si)
          have := bitC_plR_other (O := O) ne (oP O)
          rw [oF_comm hk (by omega) hp] at this
          refine Eq.trans this ?_
          cases f : oF O p i with
          | false => simp
          | true => rw [if_pos ⟨hp, rfl⟩]; rfl
        · rw [if_neg si]
          have : oF O p i = false := by
            cases f : oF O p i with
            | false => rfl
            | true => have := oF_side f; omega
          rw [this]; rfl
    exact step (oP O) (Nat.le_refl _)
theorem s_howManyWith {σ : St} {O : Orc} {p : Nat} {P : Int32 → Prop} (hk : oOk O) (hp : prC σ O (prs O)) (hpP : p < oP O) (hP : P (nI (fitN O p (oP O)))) : wX4_howManyWith σ (nI p) P := by
  have h8 := hk.1
  have hl := prs_len hk
  unfold wX4_howManyWith
  refine ⟨(prs O).length + 1, ?_⟩
  have step : ∀ d i, i + d = (prs O).length → wLX4_howManyWith_4 (nI p) σ (fun (y5 : Int32) => P y5) P (d + 1) (nI (bitC p ((prs O).take i))) (nI i) := by
    intro d
    induction d with
    | zero =>
      intro i hi
      rw [wLX4_howManyWith_4, hp.1]
      refine ⟨fun _ => ?_, fun c => absurd (nI_le (by omega) (by omega)) c⟩
      rw [show i = (prs O).length by omega, List.take_length, bitC_prs hk hpP]; exact hP
    | succ d ih =>
      intro i hi
      have hil : i < (prs O).length := by omega
      obtain ⟨q, hq⟩ : ∃ q, (prs O)[i]? = some q := ⟨_, List.getElem?_eq_getElem hil⟩
      obtain ⟨a, b⟩ := q
      obtain ⟨ha, hb, -, -⟩ := prs_at hq
      have tl := two_lt (show a < 8 by omega) (show b < 8 by omega)
      have nx := ih (i + 1) (by omega)
      rw [List.take_add_one, hq, bitC, List.countP_append] at nx
      rw [wLX4_howManyWith_4, hp.1, cl (by omega), (hp.2 i a b hq).2.2.1, bitN (by omega) (by omega)]
      refine ⟨fun c => absurd c (nI_ge hil (by omega)), fun _ => ⟨vp_in_nI (by omega) (by omega), fun z hz z4 hz4 => ?_⟩⟩
      rw [hz, hz4, add1]
      have e : nI (bitC p ((prs O).take i)) + bI ((2 ^ a ||| 2 ^ b).testBit p) = nI (List.countP (fun q => (two q).testBit p) ((prs O).take i) + List.countP (fun q => (two q).testBit p) (Option.toList (some (a, b)))) := by
        have e2 : (two (a, b)).testBit p = (2 ^ a ||| 2 ^ b).testBit p := rfl
        cases f : (2 ^ a ||| 2 ^ b).testBit p with
        | false => rw [f] at e2; simp [List.countP_cons, e2, bI, bitC]
        | true => rw [f] at e2; rw [show bI true = nI 1 from rfl, nI_add]; simp [List.countP_cons, e2, bitC]
      rw [e]
      exact nx
  exact step (prs O).length 0 (by omega)
def mkOk (O : Orc) (kind p : Int32) : Bool := inR kind 6 && inR p (oP O)
def ansMark (O : Orc) (N : Nw) (kind p : Int32) : Int32 := if mkOk O kind p = true then
    (if kind = 0 then nI (oL O p.toNatClampNeg) else if kind = 1 then nI (oL O p.toNatClampNeg) - nI (oG O p.toNatClampNeg) else if kind = 2 then (2 : Int32) * nI (oL O p.toNatClampNeg) else if kind = 3 then (nI (oL O p.toNatClampNeg) - nI (oG O p.toNatClampNeg)) + nI (oC O p.toNatClampNeg) else if kind = 4 then (2 : Int32) * nI (oL O p.toNatClampNeg) + nI (fitN O p.toNatClampNeg (oP O)) else nI (oL O p.toNatClampNeg) + nI (nD N)) else -1000000
def trMark (O : Orc) (kind p : Int32) : Int64 := if mkOk O kind p = true then
    (if kind = 0 then 1 else if kind = 1 then 11 else if kind = 2 then 101 else if kind = 3 then 1011 else if kind = 4 then 10101 else 100001) else 0
def tau (σ : St) (x : Int64) : St := (σ.1, (σ.2.1 + x, σ.2.2.1, σ.2.2.2))
theorem tau_cor {σ : St} {x : Int64} {O : Orc} (h : cor σ O) : cor (tau σ x) O := h
theorem tau_tau (σ : St) (x y : Int64) : tau (tau σ x) y = tau σ (x + y) := by
  unfold tau
  rw [Int64.add_assoc]
theorem tau_0 (σ : St) : tau σ 0 = σ := by
  unfold tau
  rw [Int64.add_zero]
theorem in6 {k : Nat} (h : k < 6) : inR (nI k) 6 = true := by rw [inR_nI (by omega)]; exact decide_eq_true h
/-- the head of each kind's body -/
theorem s_mkHead {σ : St} {O : Orc} {k p d : Nat} {dep : Nat} {P : Int32 → St → Prop} (hc : cor σ O) (hk : oOk O) (hp : p < oP O) (hkd : k < 6) (hdep : dep ≤ 5)
    (h0 : k = 0 → P (nI (oL O p)) (tau σ 1))
    (h1 : k ≠ 0 → wX9_markAs d (tau σ ((zT 1 k).toInt64)) (zT 0 k) (nI p) (nI (dep + 1)) (fun (r11 : Int32) (σ12 : St) =>
    ((nI k) = (1 : Int32) → isO σ12.2.2.1 ∧ vp_in (nI p) 8 ∧ P (r11 - (σ12.1 (σ12.2.2.1 + 2) p)) σ12) ∧
    (¬ (nI k) = (1 : Int32) → ((nI k) = (2 : Int32) → P (r11 * (2 : Int32)) σ12) ∧
    (¬ (nI k) = (2 : Int32) → ((nI k) = (3 : Int32) → isO σ12.2.2.1 ∧ vp_in (nI p) 8 ∧ P (r11 + (σ12.1 (σ12.2.2.1 + 4) p)) σ12) ∧
    (¬ (nI k) = (3 : Int32) → ((nI k) = (4 : Int32) → wX4_howManyWith σ12 (nI p) (fun r21 : Int32 => P (r11 + r21) σ12)) ∧
    (¬ (nI k) = (4 : Int32) → P (r11 + (σ12.1 65 0)) σ12)))))) : wX9_markAs (d + 1) σ (nI k) (nI p) (nI dep) P := by
  have h8 := hk.1
  rw [wX9_markAs]
  refine ⟨fun c => absurd ((ltI (a := 5) rfl rfl (by omega) (by omega)).mp c) (by omega), fun _ => ⟨fun c => absurd c (nI_pos (by omega)), fun _ => ⟨fun c => absurd ((ltI (a := 5) rfl rfl (by omega) (by omega)).mp c) (by omega), fun _ => ⟨hc.1, s_hasHalf hc.1 hc.2.1.1 hk.1 ?_⟩⟩⟩⟩
  rw [inR_nI (by omega), decide_eq_true hp]
  refine ⟨fun _ => ⟨vp_in_nI (by omega) (by omega), fun σ8 e8 => ?_⟩, fun c => absurd c nb0⟩
  rw [cl (n := k) (by omega)] at e8
  have e8 : σ8 = tau σ ((zT 1 k).toInt64) := e8
  subst e8
  rw [cl (n := k) (by omega), cl (n := p) (by omega), add1]
  refine ⟨fun c => ⟨vp_in_nI (by omega) (by omega), h1 (fun q => c (by rw [q]; rfl))⟩, fun c => ⟨(tau_cor hc).1, vp_in_nI (by omega) (by omega), ?_⟩⟩
  have c : k = 0 := (eqI rfl (b := 0) rfl (by omega) (by omega)).mp c
  subst c
  have e : (tau σ ((zT 1 0).toInt64)).1 ((tau σ ((zT 1 0).toInt64)).2.2.1 + 3) p = nI (oL O p) := (hc.2.1.2.2.1 p hp).2.2.1
  rw [e, show (zT 1 0).toInt64 = 1 by decide +kernel]
  exact h0 rfl
theorem s_mk0 {σ : St} {O : Orc} {p d dep : Nat} {P : Int32 → St → Prop} (hc : cor σ O) (hk : oOk O) (hp : p < oP O) (hdep : dep ≤ 5) (hP : P (nI (oL O p)) (tau σ 1)) : wX9_markAs (d + 1) σ (nI 0) (nI p) (nI dep) P :=
  s_mkHead hc hk hp (by omega) hdep (fun _ => hP) (fun q => absurd rfl q)
theorem s_mk1 {σ : St} {O : Orc} {p d dep : Nat} {P : Int32 → St → Prop} (hc : cor σ O) (hk : oOk O) (hp : p < oP O) (hdep : dep ≤ 4) (hP : P (nI (oL O p) - nI (oG O p)) (tau σ 11)) : wX9_markAs (d + 2) σ (nI 1) (nI p) (nI dep) P := by
  have h8 := hk.1
  refine s_mkHead hc hk hp (by omega) (by omega) (fun q => absurd q (by decide)) (fun _ => ?_)
  rw [show zT 0 1 = nI 0 by decide +kernel, show (zT 1 1).toInt64 = 10 by decide +kernel]
  refine s_mk0 (tau_cor hc) hk hp (by omega) ⟨fun _ => ⟨hc.1, vp_in_nI (by omega) (by omega), ?_⟩, fun c => absurd rfl c⟩
  rw [tau_tau, show (10 : Int64) + 1 = 11 by decide]
  have e : (tau σ 11).1 ((tau σ 11).2.2.1 + 2) p = nI (oG O p) := (hc.2.1.2.2.1 p hp).2.1
  rw [e]; exact hP
theorem s_mk2 {σ : St} {O : Orc} {p d dep : Nat} {P : Int32 → St → Prop} (hc : cor σ O) (hk : oOk O) (hp : p < oP O) (hdep : dep ≤ 4) (hP : P ((2 : Int32) * nI (oL O p)) (tau σ 101)) : wX9_markAs (d + 2) σ (nI 2) (nI p) (nI dep) P := by
  have h8 := hk.1
  refine s_mkHead hc hk hp (by omega) (by omega) (fun q => absurd q (by decide)) (fun _ => ?_)
  rw [show zT 0 2 = nI 0 by decide +kernel, show (zT 1 2).toInt64 = 100 by decide +kernel]
  refine s_mk0 (tau_cor hc) hk hp (by omega) ⟨fun c => absurd c (by decide), fun _ => ⟨fun _ => ?_, fun c => absurd rfl c⟩⟩
  rw [tau_tau, show (100 : Int64) + 1 = 101 by decide, Int32.mul_comm]
  exact hP
theorem s_mark9 {σ : St} {O : Orc} {N : Nw} {kind p : Int32} {P : Int32 → St → Prop} (hc : cor σ O) (hk : oOk O) (hN : nwC σ 65 (oT O) N) (hP : P (ansMark O N kind p) (tau σ (trMark O kind p))) : wX9_mark σ kind p P := by
  have h8 := hk.1
  have bad : mkOk O kind p = false → P (-1000000) σ := fun q => by
    unfold ansMark trMark at hP
    rw [if_neg (by rw [q]; decide), if_neg (by rw [q]; decide), tau_0] at hP; exact hP
  unfold wX9_mark
  refine ⟨fun c => bad (by unfold mkOk; rw [inR_lt0 c]; rfl), fun c0 => ⟨fun c => bad ?_, fun c5 => ⟨hc.1, s_hasHalf hc.1 hc.2.1.1 hk.1 ((br_b (fun q => bad (by unfold mkOk; rw [q]; simp)) (fun q => ⟨6, by omega, ?_⟩)) |> fun h => ⟨fun c => h.2 c, fun c => h.1 c⟩)⟩⟩⟩
  · have c := Int32.lt_iff_toInt_lt.mp c
    rw [show (5 : Int32).toInt = 5 from rfl] at c
    have : inR kind 6 = false := by unfold inR; simp; omega
    unfold mkOk
    rw [this]; rfl
  · have hin : inR kind 6 = true := by
      have a0 : ¬ kind.toInt < 0 := fun q => c0 (lt0.mpr q)
      have a5 : ¬ 5 < kind.toInt := fun q => c5 (Int32.lt_iff_toInt_lt.mpr q)
      unfold inR; simp; omega
    have ok : mkOk O kind p = true := by unfold mkOk; rw [hin, q]; rfl
    obtain ⟨k, hkd, rfl⟩ := inR_t hin (by omega)
    obtain ⟨p, hp, rfl⟩ := inR_t q (by omega)
    unfold ansMark trMark at hP
    rw [if_pos ok, if_pos ok, cl (n := p) (by omega)] at hP
    have : k = 0 ∨ k = 1 ∨ k = 2 ∨ k = 3 ∨ k = 4 ∨ k = 5 := by omega
    rcases this with rfl | rfl | rfl | rfl | rfl | rfl
    · exact s_mk0 (d := 5) (dep := 0) hc hk hp (by omega) hP
    · exact s_mk1 (d := 4) (dep := 0) hc hk hp (by omega) hP
    · exact s_mk2 (d := 4) (dep := 0) hc hk hp (by omega) hP
    · refine s_mkHead (d := 5) (dep := 0) hc hk hp (by omega) (by omega) (fun q => absurd q (by decide)) (fun _ => ?_)
      rw [show zT 0 3 = nI 1 by decide +kernel, show (zT 1 3).toInt64 = 1000 by decide +kernel]
      refine s_mk1 (tau_cor hc) hk hp (by omega) ⟨fun c => absurd c (by decide), fun _ => ⟨fun c => absurd c (by decide), fun _ => ⟨fun _ => ⟨hc.1, vp_in_nI (by omega) (by omega), ?_⟩, fun c => absurd rfl c⟩⟩⟩
      rw [tau_tau, show (1000 : Int64) + 11 = 1011 by decide]
      have e : (tau σ 1011).1 ((tau σ 1011).2.2.1 + 4) p = nI (oC O p) := (hc.2.1.2.2.1 p hp).2.2.2.1
      rw [e]; exact hP
    · refine s_mkHead (d := 5) (dep := 0) hc hk hp (by omega) (by omega) (fun q => absurd q (by decide)) (fun _ => ?_)
      rw [show zT 0 4 = nI 2 by decide +kernel, show (zT 1 4).toInt64 = 10000 by decide +kernel]
      refine s_mk2 (tau_cor hc) hk hp (by omega) ⟨fun c => absurd c (by decide), fun _ => ⟨fun c => absurd c (by decide), fun _ => ⟨fun c => absurd c (by decide), fun _ => ⟨fun _ => ?_, fun c => absurd rfl c⟩⟩⟩⟩
      rw [tau_tau, show (10000 : Int64) + 101 = 10101 by decide]
      have hP4 : P ((2 : Int32) * nI (oL O p) + nI (fitN O p (oP O))) (tau σ 10101) := hP
      have pc : prC (tau σ 10101) O (prs O) := (tau_cor hc).2.2.1
      refine s_howManyWith hk pc hp ?_
      exact hP4
    · refine s_mkHead (d := 5) (dep := 0) hc hk hp (by omega) (by omega) (fun q => absurd q (by decide)) (fun _ => ?_)
      rw [show zT 0 5 = nI 0 by decide +kernel, show (zT 1 5).toInt64 = 100000 by decide +kernel]
      refine s_mk0 (tau_cor hc) hk hp (by omega) ⟨fun c => absurd c (by decide), fun _ => ⟨fun c => absurd c (by decide), fun _ => ⟨fun c => absurd c (by decide), fun _ => ⟨fun c => absurd c (by decide), fun _ => ?_⟩⟩⟩⟩
      rw [tau_tau, show (100000 : Int64) + 1 = 100001 by decide]
      have e : (tau σ 100001).1 65 0 = nI (nD N) := hN.1
      rw [e]; exact hP
theorem m_mark10 {μ : St} {O : Orc} {N : Nw} {kind p : Int32} {P : Int32 → St → Prop} (hM : orM μ O) (hk : oOk O) (hN : nwM μ 0 (oT O) N) (hP : P (ansMark O N kind p) (tau μ (trMark O kind p))) : wX10_mark μ kind p P := by
  have h8 := hk.1
  have bad : mkOk O kind p = false → P (-1000000) μ := fun q => by
    unfold ansMark trMark at hP
    rw [if_neg (by rw [q]; decide), if_neg (by rw [q]; decide), tau_0] at hP; exact hP
  unfold wX10_mark
  refine m_inL (a := 0) (b := 5) (by omega) (by omega) ?_
  rw [show (decide (((0 : Nat) : Int) ≤ kind.toInt) && decide (kind.toInt ≤ ((5 : Nat) : Int))) = inR kind 6 by
    unfold inR
    congr 1
    apply decide_eq_decide.mpr
    omega]
  refine br_b (fun q => bad (by unfold mkOk; rw [q]; rfl)) (fun hin => m_isOne hM hk ((br_b (fun q => bad (by unfold mkOk; rw [q]; simp)) (fun q => ⟨oP O + 1, ?_⟩)) |> fun h => ⟨fun c => h.2 c, fun c => h.1 c⟩))
  have ok : mkOk O kind p = true := by unfold mkOk; rw [hin, q]; rfl
  obtain ⟨k, hkd, rfl⟩ := inR_t hin (by omega)
  obtain ⟨p, hp, rfl⟩ := inR_t q (by omega)
  unfold ansMark trMark at hP
  rw [if_pos ok, if_pos ok, cl (n := p) (by omega)] at hP
  have step : ∀ (K : Int32 → Prop), K (nI (fitN O p (oP O))) → ∀ d i, i + d = oP O → wLX10_mark_25 (nI k) (nI p) μ K P (d + 1) (nI (fitN O p i)) (nI i) := by
    intro K hK d
    induction d with
    | zero =>
      intro i hi
      rw [wLX10_mark_25, toN0, hM.1]
      exact ⟨in0 (by omega) (by omega), fun _ => by rw [show i = oP O by omega]; exact hK, fun c => absurd (nI_le (by omega) (by omega)) c⟩
    | succ d ih =>
      intro i hi
      have hiP : i < oP O := by omega
      have nx := ih (i + 1) (by omega)
      rw [fitN] at nx
      rw [wLX10_mark_25, toN0, hM.1]
      refine ⟨in0 (by omega) (by omega), fun c => absurd c (nI_ge hiP (by omega)), fun _ => ⟨fun c z hz z9 hz9 => ?_, fun c => m_fits hM hk hp hiP (br_b (fun f z hz z9 hz9 => ?_) (fun f z hz z9 hz9 => ?_))⟩⟩
      · have c := (nI_eq (by omega) (by omega)).mp c
        subst c
        have f : oF O i i = false := by
          cases f : oF O i i with
          | false => rfl
          | true => exact absurd rfl (oF_side f)
        rw [f] at nx
        rw [hz, hz9, add1, Iz]; exact nx
      · rw [f] at nx
        rw [hz, hz9, add1, Iz]; exact nx
      · rw [f] at nx
        rw [hz, hz9, add1, add1]; exact nx
  refine step _ ?_ (oP O) 0 (by omega)
  obtain ⟨A1, A2, A3, A4⟩ := hM.2.2.1 p hp
  have eL : ∀ x, (tau μ x).1 5 p = nI (oL O p) := fun _ => A3
  have eG : ∀ x, (tau μ x).1 4 p = nI (oG O p) := fun _ => A2
  have eC : ∀ x, (tau μ x).1 6 p = nI (oC O p) := fun _ => A4
  have eD : ∀ x, (tau μ x).1 12 0 = nI (nD N) := fun _ => hN.1
  have v : vp_in (nI p) 16 := vp_in_nI (by omega) (by omega)
  rw [cl (n := p) (by omega), toN0]
  have : k = 0 ∨ k = 1 ∨ k = 2 ∨ k = 3 ∨ k = 4 ∨ k = 5 := by omega
  rcases this with rfl | rfl | rfl | rfl | rfl | rfl
  · refine ⟨fun _ μ1 h1 => ⟨v, ?_⟩, fun c => absurd rfl c⟩
    have h1 : μ1 = tau μ 1 := h1
    rw [h1, eL]; exact hP
  · refine ⟨fun c => absurd c (by decide), fun _ => ⟨fun _ μ1 h1 => ⟨v, v, ?_⟩, fun c => absurd rfl c⟩⟩
    have h1 : μ1 = tau μ 11 := h1
    rw [h1, eL, eG]; exact hP
  · refine ⟨fun c => absurd c (by decide), fun _ => ⟨fun c => absurd c (by decide), fun _ => ⟨fun _ μ1 h1 => ⟨v, ?_⟩, fun c => absurd rfl c⟩⟩⟩
    have h1 : μ1 = tau μ 101 := h1
    rw [h1, eL]; exact hP
  · refine ⟨fun c => absurd c (by decide), fun _ => ⟨fun c => absurd c (by decide), fun _ => ⟨fun c => absurd c (by decide), fun _ => ⟨fun _ μ1 h1 => ⟨v, v, v, ?_⟩, fun c => absurd rfl c⟩⟩⟩⟩
    have h1 : μ1 = tau μ 1011 := h1
    rw [h1, eL, eG, eC]; exact hP
  · refine ⟨fun c => absurd c (by decide), fun _ => ⟨fun c => absurd c (by decide), fun _ => ⟨fun c => absurd c (by decide), fun _ => ⟨fun c => absurd c (by decide), fun _ => ⟨fun _ μ1 h1 => ⟨v, ?_⟩, fun c => absurd rfl c⟩⟩⟩⟩⟩
    have h1 : μ1 = tau μ 10101 := h1
    rw [h1, eL]; exact hP
  · refine ⟨fun c => absurd c (by decide), fun _ => ⟨fun c => absurd c (by decide), fun _ => ⟨fun c => absurd c (by decide), fun _ => ⟨fun c => absurd c (by decide), fun _ => ⟨fun c => absurd c (by decide), fun _ μ1 h1 => ⟨v, in0 (by omega) (by omega), ?_⟩⟩⟩⟩⟩⟩
    have h1 : μ1 = tau μ 100001 := h1
    rw [h1, eL, eD]; exact hP
