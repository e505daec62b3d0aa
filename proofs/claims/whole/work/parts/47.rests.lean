/-! the class's rests -/
def prB (O : Orc) (W : Nat → Option Nat) (q : Nat × Nat) : Bool := prf O W q.1 q.2 && prf O W q.2 q.1
def rstB (O : Orc) (W : Nat → Option Nat) : Bool := (prs O).all (fun q => !prB O W q)
def wPut (W : Nat → Option Nat) (a b : Nat) : Nat → Option Nat := fun x => if x = a then some b else if x = b then some a else W x
def RsL (O : Orc) : List (Nat × Nat) → (Nat → Option Nat) → Nat
  | [], W => (rstB O W).toNat
  | q :: l, W => RsL O l W + (if W q.1 = none ∧ W q.2 = none then RsL O l (wPut W q.1 q.2) else 0)
theorem wPut_ok {O : Orc} (hk : oOk O) {W : Nat → Option Nat} {a b : Nat} (h : wOk O W) (hq : (a, b) ∈ prs O) (ha : W a = none) (hb : W b = none) : wOk O (wPut W a b) := by
  obtain ⟨p1, p2, p3, p4⟩ := prs_mem.mp hq
  have nab : a ≠ b := fun e => oF_side p4 (by rw [e])
  intro x y hxy
  have hxy : (if x = a then some b else if x = b then some a else W x) = some y := hxy
  show x < oP O ∧ y < oP O ∧ oF O x y = true ∧ (if y = a then some b else if y = b then some a else W y) = some x
  by_cases x1 : x = a
  · rw [if_pos x1] at hxy; cases hxy; subst x1
    exact ⟨p1, p2, p4, by rw [if_neg (fun e => nab e.symm), if_pos rfl]⟩
  · rw [if_neg x1] at hxy
    by_cases x2 : x = b
    · rw [if_pos x2] at hxy; cases hxy; subst x2
      exact ⟨p2, p1, by rw [oF_comm hk p2 p1]; exact p4, by rw [if_pos rfl]⟩
    · rw [if_neg x2] at hxy
      obtain ⟨d1, d2, d3, d4⟩ := h x y hxy
      exact ⟨d1, d2, d3, by rw [if_neg (fun e => by rw [e, ha] at d4; cases d4), if_neg (fun e => by rw [e, hb] at d4; cases d4)]; exact d4⟩
theorem s_isRest {σ : St} {O : Orc} {W : Nat → Option Nat} {P : Int32 → Prop} (hk : oOk O) (hp : prC σ O (prs O)) (hL : lkC σ O) (hW : wiC σ W) (ok : wOk O W) (hP : P (bI (rstB O W))) : wX1_isRest σ P := by
  have hl := prs_len hk
  unfold wX1_isRest
  refine ⟨(prs O).length + 1, ?_⟩
  have step : ∀ l i, (prs O).drop i = l → i ≤ (prs O).length → P (bI (l.all (fun q => !prB O W q))) → wLX1_isRest_2 σ (P (1 : Int32)) P (l.length + 1) (nI i) := by
    intro l
    induction l with
    | nil =>
      intro i hi hle hP
      have := drop_nil hi
      rw [List.length_nil, wLX1_isRest_2, hp.1]
      exact ⟨fun _ => hP, fun c => absurd (nI_le (by omega) (by omega)) c⟩
    | cons q l ih =>
      intro i hi hle hP
      obtain ⟨e1, e2, e3⟩ := drop_cons hi
      obtain ⟨a, b⟩ := q
      obtain ⟨ha, hb, hs, hf⟩ := prs_at e1
      obtain ⟨q0, q1, -⟩ := hp.2 i a b e1
      have vi : vp_in (nI i) 16 := vp_in_nI (by omega) (by omega)
      rw [List.length_cons, wLX1_isRest_2, hp.1, cl (by omega), q0, q1]
      rw [List.all_cons] at hP
      refine ⟨fun c => absurd c (nI_ge e3 (by omega)), fun _ => ⟨vi, fun z3 h3 => ⟨vi, fun z5 h5 => ?_⟩⟩⟩
      rw [h3, h5]
      have stay : prB O W (a, b) = false → wLX1_isRest_2 σ (P (1 : Int32)) P (l.length + 1) (nI (i + 1)) := fun f => by
        rw [f] at hP
        exact ih (i + 1) e2 (by omega) hP
      refine s_ratherHas hk hL hW ok ha hb hf (br_b (fun f z hz => ?_) (fun f => s_ratherHas hk hL hW ok hb ha (by rw [oF_comm hk hb ha]; exact hf) (br_b (fun f2 z hz => ?_) (fun f2 => ?_))))
      · rw [hz, add1]
        exact stay (by unfold prB; rw [show prf O W (a, b).1 (a, b).2 = false from f]; rfl)
      · rw [hz, add1]
        exact stay (by unfold prB; rw [show prf O W (a, b).2 (a, b).1 = false from f2, Bool.and_false])
      · rw [show prB O W (a, b) = true by unfold prB; rw [show prf O W (a, b).1 (a, b).2 = true from f, show prf O W (a, b).2 (a, b).1 = true from f2]; rfl] at hP
        exact hP
  exact step (prs O) 0 rfl (Nat.zero_le _) hP
theorem s_restsFrom {O : Orc} (hk : oOk O) : ∀ (l : List (Nat × Nat)) (i : Nat) (W : Nat → Option Nat) (σ : St) (P : Int32 → St → Prop) (d : Nat), (prs O).drop i = l → i ≤ (prs O).length → l.length < d → prC σ O (prs O) → lkC σ O → wiC σ W → wOk O W → (∀ σ', frC [48] σ σ' → wiC σ' W → P (nI (RsL O l W)) σ') → wX9_restsFrom d σ (nI i) P := by
  have hl := prs_len hk
  have h8 := hk.1
  intro l
  induction l with
  | nil =>
    intro i W σ P d hi hle hd hp hL hW ok hP
    cases d with
    | zero => omega
    | succ d =>
      have := drop_nil hi
      rw [wX9_restsFrom, hp.1]
      refine ⟨fun c => absurd ((nI_ltI (by omega) (by omega)).mp c) (by omega), fun _ => s_isRest hk hp hL hW ok (br_b (fun f => ?_) (fun f => ?_))⟩
      · have := hP σ frC.rf hW
        rw [RsL, f] at this; exact this
      · have := hP σ frC.rf hW
        rw [RsL, f] at this; exact this
  | cons q l ih =>
    intro i W σ P d hi hle hd hp hL hW ok hP
    cases d with
    | zero => omega
    | succ d =>
      obtain ⟨e1, e2, e3⟩ := drop_cons hi
      obtain ⟨a, b⟩ := q
      obtain ⟨ha, hb, hs, hf⟩ := prs_at e1
      have nab : a ≠ b := fun e => oF_side hf (by rw [e])
      have vi : vp_in (nI i) 16 := vp_in_nI (by omega) (by omega)
      have va : vp_in (nI a) 8 := vp_in_nI (by omega) (by omega)
      have vb : vp_in (nI b) 8 := vp_in_nI (by omega) (by omega)
      rw [List.length_cons] at hd
      rw [wX9_restsFrom, hp.1]
      refine ⟨fun _ => ?_, fun c => absurd (nI_lt e3 (by omega)) c⟩
      rw [add1]
      refine ih (i + 1) W σ _ d e2 (by omega) (by omega) hp hL hW ok (fun σ3 hf3 hW3 => ?_)
      have p3 : prC σ3 O (prs O) := prC_kept hp (fun k h1 h2 => hf3.1 k (by simp; omega))
      have L3 := lkC_fr hL hf3 (by decide)
      obtain ⟨q0, q1, -⟩ := p3.2 i a b e1
      rw [cl (n := i) (by omega), q0, q1]
      refine ⟨vi, fun z5 h5 => ⟨vi, fun z7 h7 => ?_⟩⟩
      subst h5; subst h7
      rw [cl (n := a) (by omega), cl (n := b) (by omega), hW3 a (by omega), hW3 b (by omega)]
      have no : ¬ (W a = none ∧ W b = none) → P (nI (RsL O l W)) σ3 := fun c => by
        have := hP σ3 hf3 hW3
        rw [RsL, if_neg c, Nat.add_zero] at this; exact this
      refine ⟨va, fun c => no (fun h => c (by rw [h.1]; rfl)), fun c => ⟨vb, fun c2 => no (fun h => c2 (by rw [h.2]; rfl)), fun c2 => ?_⟩⟩
      have wn : ∀ p, oW (W p) = (-1 : Int32) → W p = none := fun p h => by
        cases e : W p with
        | none => rfl
        | some h' =>
          rw [e] at h
          have := (ok p h' e).2.1
          exact absurd h (oW_ne (by omega))
      have wa := wn a c
      have wb := wn b c2
      refine ⟨va, fun σ13 h13 => ⟨vb, fun σ15 h15 => ?_⟩⟩
      have F15 : frC [48] σ3 σ15 := by rw [h15, h13]; exact (frC.rf.wr (by decide)).wr (by decide)
      have W15 : wiC σ15 (wPut W a b) := fun p hp8 => by
        show σ15.1 48 p = oW (if p = a then some b else if p = b then some a else W p)
        rw [h15, sI_get]
        by_cases x2 : p = b
        · rw [if_pos ⟨rfl, x2⟩, if_neg (fun e => nab (by rw [← e, x2])), if_pos x2]; rfl
        · rw [if_neg (fun y => x2 y.2), h13, sI_get]
          by_cases x1 : p = a
          · rw [if_pos ⟨rfl, x1⟩, if_pos x1]; rfl
          · rw [if_neg (fun y => x1 y.2), if_neg x1, if_neg x2]; exact hW3 p hp8
      have mem : (a, b) ∈ prs O := List.mem_of_getElem? e1
      refine ih (i + 1) (wPut W a b) σ15 _ d e2 (by omega) (by omega) (prC_kept p3 (fun k h1 h2 => F15.1 k (by simp; omega))) (lkC_fr L3 F15 (by decide)) W15 (wPut_ok hk ok mem wa wb) (fun σ17 hf17 hW17 z18 h18 => ⟨va, fun σ20 h20 => ⟨vb, fun σ22 h22 => ?_⟩⟩)
      rw [h18, nI_add]
      have := hP σ22 (by rw [h22, h20]; exact (((hf3.tr F15).tr hf17).wr (by decide)).wr (by decide)) (fun p hp8 => by
        rw [h22, sI_get]
        by_cases x2 : p = b
        · rw [if_pos ⟨rfl, x2⟩, x2, wb]; rfl
        · rw [if_neg (fun y => x2 y.2), h20, sI_get]
          by_cases x1 : p = a
          · rw [if_pos ⟨rfl, x1⟩, x1, wa]; rfl
          · rw [if_neg (fun y => x1 y.2), hW17 p hp8]
            show oW (if p = a then some b else if p = b then some a else W p) = _
            rw [if_neg x1, if_neg x2])
      rw [RsL, if_pos ⟨wa, wb⟩] at this
      exact this
def ansRests (O : Orc) : Nat := RsL O (prs O) (fun _ => none)
/-! all that a new orchard says of liking -/
def S37 : List Nat := [37, 39, 40, 41, 42, 43, 44, 45, 46, 47, 48, 49]
theorem S37_r : ∀ k, k ∈ S37 → 37 ≤ k ∧ k ≤ 49 ∧ k ≠ 38 := by decide
theorem S37_in {k : Nat} (h1 : 39 ≤ k) (h2 : k ≤ 49) : k ∈ S37 := by
  have : k = 39 ∨ k = 40 ∨ k = 41 ∨ k = 42 ∨ k = 43 ∨ k = 44 ∨ k = 45 ∨ k = 46 ∨ k = 47 ∨ k = 48 ∨ k = 49 := by omega
  rcases this with rfl | rfl | rfl | rfl | rfl | rfl | rfl | rfl | rfl | rfl | rfl <;> decide
theorem sF_fr {S : List Nat} {σ σ' : St} {k n : Nat} {v : Int32} (h : frC S σ σ') (hk : k ∈ S) : frC S σ (sF σ' k n v) := ⟨fun i hi => by
  have : i ≠ k := fun e => hi (by rw [e]; exact hk)
  show (if i = k then _ else σ'.1 i) = _
  rw [if_neg this]; exact h.1 i hi, h.2⟩
theorem sF_atV {σ : St} {k n : Nat} {v : Int32} {j : Nat} (hj : j < n) : (sF σ k n v).1 k j = v := by
  show (if k = k then (fun i => if i < n then v else σ.1 k i) else σ.1 k) j = v
  rw [if_pos rfl]
  exact if_pos hj
theorem sF_neV {σ : St} {k n i : Nat} {v : Int32} (h : i ≠ k) : (sF σ k n v).1 i = σ.1 i := if_neg h
theorem s_lkFill {σ : St} {f1 : Nat} {K P : St → Prop} (hK : ∀ σ', frC S37 σ σ' → (∀ p q, p < 8 → q < 8 → σ'.1 (39 + p) q = 0) → K σ') : ∀ d i σ1, i + d = 8 → frC S37 σ σ1 → (∀ p q, p < i → q < 8 → σ1.1 (39 + p) q = 0) → wLX1_reckon_2 f1 K P (d + 1) σ1 (nI i) := by
  intro d
  induction d with
  | zero =>
    intro i σ1 hi hf hz
    rw [wLX1_reckon_2]
    exact ⟨fun _ => hK σ1 hf (fun p q hp hq => hz p q (by omega) hq), fun c => absurd ((leI (a := 8) rfl rfl (by omega) (by omega)).mpr (by omega)) c⟩
  | succ d ih =>
    intro i σ1 hi hf hz
    rw [wLX1_reckon_2, cl (n := i) (by omega)]
    refine ⟨fun c => absurd ((leI (a := 8) rfl rfl (by omega) (by omega)).mp c) (by omega), fun _ => ⟨vp_in_nI (by omega) (by omega), fun σ3 h3 z hzz => ?_⟩⟩
    rw [hzz, add1]
    refine ih (i + 1) σ3 (by omega) (by rw [h3]; exact sF_fr hf (S37_in (by omega) (by omega))) (fun p q hp hq => ?_)
    rw [h3]
    by_cases e : p = i
    · subst e; exact sF_atV hq
    · rw [sF_neV (by omega)]; exact hz p q (by omega) hq
/-- how much one likes another, the pairs up to i being written -/
def lkI (O : Orc) (i p q : Nat) : Nat := if (p, q) ∈ (prs O).take i ∨ (q, p) ∈ (prs O).take i then lkV O p q else 0
theorem lkI_all {O : Orc} (hk : oOk O) (p q : Nat) : lkI O (prs O).length p q = lkT O p q := by
  unfold lkI lkT
  rw [List.take_length]
  have e : ((p, q) ∈ prs O ∨ (q, p) ∈ prs O) ↔ (p < oP O ∧ q < oP O ∧ oF O p q = true) := by
    constructor
    · rintro (h | h)
      · obtain ⟨h1, h2, -, h4⟩ := prs_mem.mp h; exact ⟨h1, h2, h4⟩
      · obtain ⟨h1, h2, -, h4⟩ := prs_mem.mp h; exact ⟨h2, h1, by rw [oF_comm hk h2 h1]; exact h4⟩
    · rintro ⟨h1, h2, h3⟩
      have s1 := (hk.2.2.1 p h1).1
      have s2 := (hk.2.2.1 q h2).1
      have sd := oF_side h3
      by_cases s : oS O p = 0
      · exact Or.inl (prs_mem.mpr ⟨h1, h2, s, h3⟩)
      · exact Or.inr (prs_mem.mpr ⟨h2, h1, by omega, by rw [oF_comm hk h2 h1]; exact h3⟩)
  simp only [e]
theorem s_lkPairs {σ : St} {o : Nat} {O : Orc} {K P : St → Prop} (ho : isO o) (hO : orC σ o O) (hk : oOk O) (hp : prC σ O (prs O)) (hK : ∀ σ', frC S37 σ σ' → lkC σ' O → K σ') : ∀ d i σ1, i + d = (prs O).length → frC S37 σ σ1 → (∀ p q, p < 8 → q < 8 → σ1.1 (39 + p) q = nI (lkI O i p q)) → wLX1_reckon_26 o K P (d + 1) σ1 (nI i) := by
  have h8 := hk.1
  have hl := prs_len hk
  have kp : ∀ {σ1 : St}, frC S37 σ σ1 → orC σ1 o O ∧ prC σ1 O (prs O) := fun {σ1} hf => ⟨orC_fr ho hO hf (fun k h => by have := S37_r k h; omega), prC_kept hp (fun k h1 h2 => hf.1 k (fun q => by have := S37_r k q; omega))⟩
  intro d
  induction d with
  | zero =>
    intro i σ1 hi hf hz
    rw [wLX1_reckon_26, (kp hf).2.1]
    refine ⟨fun _ => hK σ1 hf (fun p q h1 h2 => ?_), fun c => absurd (nI_le (by omega) (by omega)) c⟩
    have e : i = (prs O).length := by omega
    rw [hz p q h1 h2, e, lkI_all hk]
  | succ d ih =>
    intro i σ1 hi hf hz
    have hil : i < (prs O).length := by omega
    obtain ⟨O1, p1⟩ := kp hf
    obtain ⟨q, hq⟩ : ∃ q, (prs O)[i]? = some q := ⟨_, List.getElem?_eq_getElem hil⟩
    obtain ⟨a, b⟩ := q
    obtain ⟨ha, hb, hs, hfit⟩ := prs_at hq
    obtain ⟨q0, q1, -, -, q4, -⟩ := p1.2 i a b hq
    have nab : a ≠ b := fun e => oF_side hfit (by rw [e])
    have vi : vp_in (nI i) 16 := vp_in_nI (by omega) (by omega)
    have va : vp_in (nI a) 8 := vp_in_nI (by omega) (by omega)
    have vb : vp_in (nI b) 8 := vp_in_nI (by omega) (by omega)
    have A := hk.2.2.1 a ha
    have B := hk.2.2.1 b hb
    have L := hk.2.2.1 a ha
    rw [wLX1_reckon_26, p1.1, cl (n := i) (by omega), q0, q1]
    refine ⟨fun c => absurd c (nI_ge hil (by omega)), fun _ => ⟨vi, fun z8 h8' => ⟨vi, fun z10 h10 => ?_⟩⟩⟩
    subst h8'; subst h10
    have val : ∀ x y, y < 8 → ((((100 : Int32) * nI (min (oL O a) (oL O b))) + ((10 : Int32) * nI x)) + (8 : Int32)) - nI y = nI (100 * min (oL O a) (oL O b) + 10 * x + (8 - y)) := fun x y hy => by
      rw [show (100 : Int32) = nI 100 from rfl, show (10 : Int32) = nI 10 from rfl, show (8 : Int32) = nI 8 from rfl, pk_mul, pk_mul, nI_add, nI_add, pk_sub (by omega)]
      congr 1
      omega
    rw [cl (n := a) (by omega), cl (n := b) (by omega), q4, (O1.2.2.1 b hb).2.2.2.1, val _ _ (show b < 8 by omega)]
    refine ⟨va, vi, vb, vb, fun σ15 h15 => ⟨vb, vi, va, va, ?_⟩⟩
    have F15 : frC S37 σ σ15 := by rw [h15]; exact hf.wr (S37_in (by omega) (by omega))
    obtain ⟨O15, p15⟩ := kp F15
    obtain ⟨-, -, -, -, q4', -⟩ := p15.2 i a b hq
    rw [q4', (O15.2.2.1 a ha).2.2.2.1, val _ _ (show a < 8 by omega)]
    intro σ20 h20 z21 h21
    rw [h21, add1]
    refine ih (i + 1) σ20 (by omega) (by rw [h20]; exact F15.wr (S37_in (by omega) (by omega))) (fun p q hp8 hq8 => ?_)
    have mem : ∀ x, x ∈ (prs O).take (i + 1) ↔ (x ∈ (prs O).take i ∨ x = (a, b)) := fun x => by
      rw [List.take_add_one, hq, List.mem_append]
      simp
    rw [h20, sI_get]
    by_cases c1 : p = b ∧ q = a
    · obtain ⟨rfl, rfl⟩ := c1
      rw [if_pos ⟨rfl, rfl⟩]
      unfold lkI
      rw [if_pos (Or.inr ((mem _).mpr (Or.inr rfl)))]
      unfold lkV
      rw [Nat.min_comm]
    · rw [if_neg (fun y => c1 ⟨by omega, y.2⟩), h15, sI_get]
      by_cases c2 : p = a ∧ q = b
      · obtain ⟨rfl, rfl⟩ := c2
        rw [if_pos ⟨rfl, rfl⟩]
        unfold lkI
        rw [if_pos (Or.inl ((mem _).mpr (Or.inr rfl)))]
        rfl
      · rw [if_neg (fun y => c2 ⟨by omega, y.2⟩), hz p q hp8 hq8]
        unfold lkI
        have e : ((p, q) ∈ (prs O).take (i + 1) ∨ (q, p) ∈ (prs O).take (i + 1)) ↔ ((p, q) ∈ (prs O).take i ∨ (q, p) ∈ (prs O).take i) := by
          rw [mem, mem]
          constructor
          · rintro ((h | h) | (h | h))
            · exact Or.inl h
            · cases h; exact absurd ⟨rfl, rfl⟩ c2
            · exact Or.inr h
            · cases h; exact absurd ⟨rfl, rfl⟩ c1
          · rintro (h | h)
            · exact Or.inl (Or.inl h)
            · exact Or.inr (Or.inl h)
        simp only [e]
theorem s_liking {σ : St} {o : Nat} {O : Orc} {P : St → Prop} (ho : isO o) (hO : orC σ o O) (hk : oOk O) (hp : prC σ O (prs O)) (ha : σ.1 25 1 = nI (allL O (oP O))) (hP : ∀ σ', frC S37 σ σ' → (∀ p, p < 8 → σ'.1 47 p = oV ((AskF O).1 p)) → σ'.1 37 4 = nI (ansRests O) → P σ') : wX1_reckon σ o P := by
  have h8 := hk.1
  have hl := prs_len hk
  unfold wX1_reckon
  refine ⟨ho, 9, s_lkFill (fun σ5 hf5 hz5 => ⟨(prs O).length + 1, ?_⟩) 8 0 σ (by omega) frC.rf (fun p q hp => absurd hp (Nat.not_lt_zero p))⟩
  have k5 : ∀ {σ1 : St}, frC S37 σ σ1 → orC σ1 o O ∧ prC σ1 O (prs O) ∧ σ1.1 25 1 = nI (allL O (oP O)) := fun {σ1} hf => ⟨orC_fr ho hO hf (fun k h => by have := S37_r k h; omega), prC_kept hp (fun k h1 h2 => hf.1 k (fun q => by have := S37_r k q; omega)), by rw [hf.1 25 (by decide)]; exact ha⟩
  obtain ⟨O5, p5, -⟩ := k5 hf5
  refine s_lkPairs ho O5 hk p5 (fun σ22 hf22 L22 σ23 h23 => ?_) (prs O).length 0 σ5 (by omega) frC.rf (fun p q h1 h2 => by
    rw [hz5 p q h1 h2]; unfold lkI; rw [if_neg (by simp)]; rfl)
  have F22 := hf5.tr hf22
  have F23 : frC S37 σ σ23 := by rw [h23]; exact sF_fr F22 (by decide)
  have L23 : lkC σ23 O := fun p q h1 h2 => by rw [h23, sF_neV (by omega)]; exact L22 p q h1 h2
  obtain ⟨O23, p23, a23⟩ := k5 F23
  refine s_askAll hk L23 p23.1 a23 (fun p hp8 => by rw [h23]; exact sF_atV hp8) (fun σ24 hf24 A24 => ⟨9, ?_⟩)
  have F24 : frC S37 σ σ24 := F23.tr (hf24.up (by decide))
  have L24 := lkC_fr L23 hf24 (by decide)
  have okF : akOk O (AskF O) := itA_ok hk _ S00 (S00_ok O)
  have step : ∀ (K : St → Prop), (∀ σ', frC [47] σ24 σ' → (∀ p, p < 8 → σ'.1 47 p = oV ((AskF O).1 p)) → K σ') → ∀ d i σ1, i + d = 8 → frC [47] σ24 σ1 → (∀ p, p < i → σ1.1 47 p = oV ((AskF O).1 p)) → wLX1_reckon_143 K P (d + 1) σ1 (nI i) := by
    intro K hK d
    induction d with
    | zero =>
      intro i σ1 hi hf hz
      rw [wLX1_reckon_143]
      exact ⟨fun _ => hK σ1 hf (fun p hp8 => hz p (by omega)), fun c => absurd ((leI (a := 8) rfl rfl (by omega) (by omega)).mpr (by omega)) c⟩
    | succ d ih =>
      intro i σ1 hi hf hz
      have vi : vp_in (nI i) 8 := vp_in_nI (by omega) (by omega)
      rw [wLX1_reckon_143, cl (n := i) (by omega), hf.1 48 (by decide), A24.1 i (by omega)]
      have go : ∀ v : Int32, v = oV ((AskF O).1 i) → vp_in (nI i) 8 ∧ ∀ σ30 : St, σ30 = sI σ1 47 i v → ∀ z31 : Int32, z31 = nI i + (1 : Int32) → wLX1_reckon_143 K P (d + 1) σ30 z31 := fun v hv => ⟨vi, fun σ30 h30 z hzz => by
        rw [hzz, add1]
        refine ih (i + 1) σ30 (by omega) (by rw [h30]; exact hf.wr (by decide)) (fun p hp' => ?_)
        by_cases e : p = i
        · subst e; rw [h30, sI_at, hv]
        · rw [h30, sI_off e]; exact hz p (by omega)⟩
      refine ⟨fun c => absurd ((leI (a := 8) rfl rfl (by omega) (by omega)).mp c) (by omega), fun _ => ⟨vi, jn_in ?_⟩⟩
      cases e : (AskF O).1 i with
      | none => exact ⟨fun c => absurd rfl c, fun _ => go _ (by rw [e]; rfl)⟩
      | some h =>
        have := (okF.1 i h e).2.1
        exact ⟨fun _ => ⟨vi, go _ (by rw [e]; rfl)⟩, fun c => absurd c (oW_ne (by omega))⟩
  refine step _ (fun σ34 hf34 hz34 σ35 h35 => ⟨20, Nat.le_refl _, ?_⟩) 8 0 σ24 (by omega) frC.rf (fun p hp => absurd hp (Nat.not_lt_zero p))
  have F34 : frC S37 σ σ34 := F24.tr (hf34.up (by decide))
  have F35 : frC S37 σ σ35 := by rw [h35]; exact sF_fr F34 (by decide)
  have L34 := lkC_fr L24 hf34 (by decide)
  have L35 : lkC σ35 O := fun p q h1 h2 => by rw [h35, sF_neV (by omega)]; exact L34 p q h1 h2
  obtain ⟨-, p35, -⟩ := k5 F35
  refine s_restsFrom hk (prs O) 0 (fun _ => none) σ35 _ 20 rfl (Nat.zero_le _) (by omega) p35 L35 (fun p hp8 => by rw [h35]; exact sF_atV hp8) (fun p q h => by cases h) (fun σ37 hf37 _ σ38 h38 => ?_)
  refine hP σ38 (by rw [h38]; exact (F35.tr (hf37.up (by decide))).wr (by decide)) (fun p hp8 => ?_) (by rw [h38, sI_at]; rfl)
  rw [h38, sI_ne (by decide), hf37.1 47 (by decide), h35, sF_neV (by decide)]
  exact hz34 p hp8
