/-! the reference's asking -/
theorem m_likes {μ : St} {O : Orc} {p q : Nat} {d : Option Nat} {P : Int32 → Prop} (hM : orM μ O) (hk : oOk O) (hp : p < oP O) (hq : q < oP O) (hd : ∀ h, d = some h → h < oP O) (hP : P (bI (btr O p q d))) : wX10_likes μ (nI p) (nI q) (oV d) P := by
  have h8 := hk.1
  have nq : ¬ nI q = (-9 : Int32) := oV_ne (by omega)
  unfold wX10_likes
  cases d with
  | none => exact jn_in ⟨fun c => absurd c nq, fun _ => ⟨fun c => absurd rfl c, fun _ => ⟨fun c => absurd c nq, fun _ => hP⟩⟩⟩
  | some h =>
    have hh := hd h rfl
    have eo : oV (some h) = nI h := rfl
    have hP : P (bI (decide (lkV O p h < lkV O p q))) := hP
    have lx := lkV_lt hk hp hq hh
    have Q := (hk.2.2.1 q hq).2.2.2.1
    have H := (hk.2.2.1 h hh).2.2.2.1
    have L1 : min (oL O p) (oL O q) ≤ 9 := Nat.le_trans (Nat.min_le_right _ _) (hk.2.2.1 q hq).2.2.1.2
    have L2 : min (oL O p) (oL O h) ≤ 9 := Nat.le_trans (Nat.min_le_right _ _) (hk.2.2.1 h hh).2.2.1.2
    have yes : lkV O p h < lkV O p q → P 1 := fun g => by rw [decide_eq_true g] at hP; exact hP
    have no : ¬ lkV O p h < lkV O p q → P 0 := fun g => by rw [decide_eq_false g] at hP; exact hP
    rw [eo]
    refine jn_in ⟨fun c => absurd c nq, fun _ => ⟨fun _ => m_ladder hM hk hp hq (m_ladder hM hk hp hh ?_), fun c => absurd c (oV_ne (by omega))⟩⟩
    rw [cl (n := q) (by omega), cl (n := h) (by omega), (hM.2.2.1 q hq).2.2.2, (hM.2.2.1 h hh).2.2.2]
    generalize min (oL O p) (oL O q) = x at *
    generalize min (oL O p) (oL O h) = y at *
    have vq : vp_in (nI q) 16 := vp_in_nI (by omega) (by omega)
    have vh : vp_in (nI h) 16 := vp_in_nI (by omega) (by omega)
    refine ⟨fun c => ⟨vq, vh, fun c2 => ⟨fun c3 => ?_, fun c3 => ?_⟩, fun c2 => ⟨vq, vh, fun c3 => ?_, fun c3 => ?_⟩⟩, fun c => ⟨fun c2 => ?_, fun c2 => ?_⟩⟩
    · have c := (nI_eq (by omega) (by omega)).mp c
      have c2 := (nI_eq (by omega) (by omega)).mp c2
      have c3 := (nI_leI (by omega) (by omega)).mp c3
      exact no (by rw [lx]; omega)
    · have c := (nI_eq (by omega) (by omega)).mp c
      have c2 := (nI_eq (by omega) (by omega)).mp c2
      have c3 : ¬ h ≤ q := fun g => c3 (nI_le g (by omega))
      exact yes (by rw [lx]; omega)
    · have c := (nI_eq (by omega) (by omega)).mp c
      have c2 : ¬ oC O q = oC O h := fun g => c2 (by rw [g])
      have c3 := (nI_leI (by omega) (by omega)).mp c3
      exact no (by rw [lx]; omega)
    · have c := (nI_eq (by omega) (by omega)).mp c
      have c3 : ¬ oC O q ≤ oC O h := fun g => c3 (nI_le g (by omega))
      exact yes (by rw [lx]; omega)
    · have c : ¬ x = y := fun g => c (by rw [g])
      have c2 := (nI_leI (by omega) (by omega)).mp c2
      exact no (by rw [lx]; omega)
    · have c2 : ¬ x ≤ y := fun g => c2 (nI_le g (by omega))
      exact yes (by rw [lx]; omega)
theorem m_asksNext {μ : St} {O : Orc} {a t : Nat} {P : Int32 → Prop} (hM : orM μ O) (hk : oOk O) (ha : a < oP O) (ht : t < 256) (h18 : μ.1 18 a = nI t) (hP : P (oV (nqF O t a (oP O)))) : wX10_asksNext μ (nI a) P := by
  have h8 := hk.1
  unfold wX10_asksNext
  refine ⟨oP O + 1, ?_⟩
  have step : ∀ d b, b + d = oP O → wLX10_asksNext_5 (nI a) μ (fun (y16 : Int32) => P y16) P (d + 1) (oV (nqF O t a b)) (nI b) := by
    intro d
    induction d with
    | zero =>
      intro b hb
      rw [wLX10_asksNext_5, toN0, hM.1]
      exact ⟨in0 (by omega) (by omega), fun _ => by rw [show b = oP O by omega]; exact hP, fun c => absurd (nI_le (by omega) (by omega)) c⟩
    | succ d ih =>
      intro b hb
      have bP : b < oP O := by omega
      have nx := ih (b + 1) (by omega)
      have stay : (nqC O t a b && btr O a b (nqF O t a b)) = false → wLX10_asksNext_5 (nI a) μ (fun (y16 : Int32) => P y16) P (d + 1) (oV (nqF O t a b)) (nI (b + 1)) := fun q => by
        rw [nqF, if_neg (by rw [q]; decide)] at nx; exact nx
      rw [wLX10_asksNext_5, toN0, hM.1]
      refine ⟨in0 (by omega) (by omega), fun c => absurd c (nI_ge bP (by omega)), fun _ => jn_in ⟨fun c => ⟨fun _ z hz => ?_, fun c => absurd rfl c⟩, fun _ => m_fits hM hk ha bP (br_b (fun f => ⟨fun _ z hz => ?_, fun c => absurd rfl c⟩) (fun f => ⟨vp_in_nI (by omega) (by omega), ?_⟩))⟩⟩
      · have c := (nI_eq (by omega) (by omega)).mp c
        subst c
        rw [hz, add1]
        refine stay ?_
        have f : oF O b b = false := by
          cases f : oF O b b with
          | false => rfl
          | true => exact absurd rfl (oF_side f)
        unfold nqC
        rw [f]; simp
      · rw [hz, add1]
        refine stay ?_
        unfold nqC
        rw [f]; simp
      · rw [cl (n := a) (by omega), h18, bitN (by omega) (by omega)]
        refine ⟨fun c => ⟨fun _ z hz => ?_, fun c => absurd rfl c⟩, fun c => ⟨fun c => absurd c nb0, fun _ => m_likes hM hk ha bP (fun h e => (nqC_t (nqF_some _ _ e).2).2.1) (br_b (fun g z hz => ?_) (fun g z hz => ?_))⟩⟩
        · rw [hz, add1]
          refine stay ?_
          unfold nqC
          rw [bI_ne.mp c]; rfl
        · rw [hz, add1]
          exact stay (by rw [g, Bool.and_false])
        · rw [hz, add1]
          have q : (nqC O t a b && btr O a b (nqF O t a b)) = true := by
            rw [g, Bool.and_true]
            unfold nqC
            rw [bI_eq0.mp c, decide_eq_true bP, f]; rfl
          rw [nqF, if_pos q] at nx
          exact nx
  exact step (oP O) 0 (by omega)
def rk (μ : St) (O : Orc) (S : Ak) : Prop := ∃ D : Nat → Nat, (∀ p, p < 8 → μ.1 17 p = oV (S.1 p)) ∧ (∀ a, a < 8 → μ.1 18 a = nI (D a)) ∧ (∀ a, D a < 256) ∧ (∀ a, a < oP O → oS O a = 0 → (S.1 a = none → D a = S.2 a) ∧ ∀ q, S.1 a = some q → D a ||| 2 ^ q = S.2 a)
def flagA (O : Orc) (S S' : Ak) (y : Int32) : Prop := (y = 0 ∧ S' = S) ∨ (y = 1 ∧ remA O S' < remA O S)
theorem flag_no {O : Orc} {S S' : Ak} {y : Int32} {i : Nat} (h : flagA O S S' y) (e : askS O S' i = S') : flagA O S (askS O S' i) y := by rw [e]; exact h
theorem flag_yes {O : Orc} {S S' : Ak} {y : Int32} (h : flagA O S S' y) {S2 : Ak} (e : remA O S2 < remA O S') : flagA O S S2 1 := by
  rcases h with ⟨-, h⟩ | ⟨-, h⟩
  · rw [h] at e; exact Or.inr ⟨rfl, e⟩
  · exact Or.inr ⟨rfl, Nat.lt_trans e h⟩
theorem m_askRound {μ : St} {O : Orc} {S : Ak} {K : St → Int32 → Prop} {P : St → Prop} (hM : orM μ O) (hk : oOk O) (ok : akOk O S) (hK : ∀ μ' y, frC [17, 18] μ μ' → rk μ' O (Rnd O S) → flagA O S (Rnd O S) y → K μ' y) : ∀ d i μ1 y, i + d = oP O → frC [17, 18] μ μ1 → rk μ1 O (rndS O i S) → flagA O S (rndS O i S) y → wLX10_ask_39 K P (d + 1) μ1 y (nI i) := by
  have h8 := hk.1
  intro d
  induction d with
  | zero =>
    intro i μ1 y hi hf hr hy
    rw [wLX10_ask_39, toN0, (orM_fr hM hf (by decide)).1]
    have e : i = oP O := by omega
    subst e
    exact ⟨in0 (by omega) (by omega), fun _ => hK μ1 y hf hr hy, fun c => absurd (nI_le (Nat.le_refl _) (by omega)) c⟩
  | succ d ih =>
    intro i μ1 y hi hf hr hy
    have iP : i < oP O := by omega
    have M1 := orM_fr hM hf (by decide)
    have okS := rndS_ok hk ok i
    have vi : vp_in (nI i) 8 := vp_in_nI (by omega) (by omega)
    have nx := fun μ2 y2 => ih (i + 1) μ2 y2 (by omega)
    have stay : askS O (rndS O i S) i = rndS O i S → wLX10_ask_39 K P (d + 1) μ1 y (nI (i + 1)) := fun e => by
      refine nx μ1 y hf ?_ ?_
      · rw [rndS, e]; exact hr
      · rw [rndS]; exact flag_no hy e
    obtain ⟨D, r1, r2, r3, r4⟩ := hr
    have A := (hk.2.2.1 i iP).1
    rw [wLX10_ask_39, toN0, M1.1, cl (n := i) (by omega), (M1.2.2.1 i iP).1, r1 i (by omega)]
    refine ⟨in0 (by omega) (by omega), fun c => absurd c (nI_ge iP (by omega)), fun _ => ⟨vp_in_nI (by omega) (by omega), jn_in ⟨fun c => ⟨fun _ z hz => ?_, fun c => absurd rfl c⟩, fun c => ⟨vi, fun c2 => ⟨fun _ z hz => ?_, fun c => absurd rfl c⟩, fun c2 => ?_⟩⟩⟩⟩
    · rw [hz, add1]
      exact stay (askS_no (fun g => c (by rw [g.2.1]; rfl)))
    · rw [hz, add1]
      exact stay (askS_no (fun g => c2 (by rw [g.2.2]; rfl)))
    · have s0 : oS O i = 0 := (eqI rfl (b := 0) rfl (by omega) (by omega)).mp c
      have w0 : (rndS O i S).1 i = none := by
        cases e : (rndS O i S).1 i with
        | none => rfl
        | some h =>
          rw [e] at c2
          have := (okS.1 i h e).2.1
          exact absurd c2 (oV_ne (by omega))
      have hg : i < oP O ∧ oS O i = 0 ∧ (rndS O i S).1 i = none := ⟨iP, s0, w0⟩
      have Di : D i = (rndS O i S).2 i := (r4 i iP s0).1 w0
      refine m_asksNext M1 hk iP (r3 i) (r2 i (by omega)) ?_
      rw [Di]
      cases e : nqF O ((rndS O i S).2 i) i (oP O) with
      | none =>
        refine ⟨fun _ z hz => ?_, fun c => absurd rfl c⟩
        rw [hz, add1]
        exact stay (askS_none e)
      | some q =>
        obtain ⟨-, q2⟩ := nqF_some _ _ e
        obtain ⟨c1, c2', c3⟩ := nqC_t q2
        have niq : i ≠ q := fun x => oF_side c3 (by rw [x])
        have vq : vp_in (nI q) 8 := vp_in_nI (by omega) (by omega)
        have eo : oV (some q) = nI q := rfl
        have rl := fun W => remA_lt (W := W) hg e
        rw [eo, cl (n := q) (by omega), r1 q (by omega)]
        refine ⟨fun c => absurd c (oV_ne (by omega)), fun _ => ⟨vq, fun z17 h17 => ?_⟩⟩
        rw [h17]
        refine m_likes M1 hk c2' iP (fun h w => (okS.1 q h w).2.1) ?_
        cases p : prf O (rndS O i S).1 q i with
        | false =>
          have p' : btr O q i ((rndS O i S).1 q) = false := p
          rw [p']
          refine jn_in ⟨fun _ => jn_in ⟨fun _ => ⟨fun c => absurd c (oV_ne (by omega)), fun _ => ⟨vi, vi, fun σ27 h27 => ⟨vi, fun σ29 h29 z hz => ?_⟩⟩⟩, fun c => absurd rfl c⟩, fun c => absurd rfl c⟩
          rw [hz, add1]
          rw [cl (n := i) (by omega), r2 i (by omega), shl1 (by omega), orN, Di] at h27
          rw [cl (n := i) (by omega)] at h29
          refine nx σ29 1 (by rw [h29, h27]; exact (hf.wr (by decide)).wr (by decide)) ?_ ?_
          · rw [rndS, askS_ref hg e p]
            refine ⟨fun x => if x = i then (rndS O i S).2 i ||| 2 ^ q else D x, fun x hx => ?_, fun x hx => ?_, fun x => ?_, fun x hx hs => ⟨fun hw => ?_, fun q' hw => ?_⟩⟩
            · rw [h29, sI_get]
              by_cases e1 : x = i
              · subst e1; rw [if_pos ⟨rfl, rfl⟩, w0]; rfl
              · rw [if_neg (fun y => e1 y.2), h27, sI_ne (by decide)]; exact r1 x hx
            · show σ29.1 18 x = nI (if x = i then (rndS O i S).2 i ||| 2 ^ q else D x)
              rw [h29, sI_ne (by decide), h27, sI_get]
              by_cases e1 : x = i
              · rw [if_pos ⟨rfl, e1⟩, if_pos e1]
              · rw [if_neg (fun y => e1 y.2), if_neg e1]; exact r2 x hx
            · show (if x = i then (rndS O i S).2 i ||| 2 ^ q else D x) < 256
              split
              · exact Nat.or_lt_two_pow (n := 8) (okS.2 i) (pow2_lt8 (by omega))
              · exact r3 x
            · show (if x = i then (rndS O i S).2 i ||| 2 ^ q else D x) = (if x = i then (rndS O i S).2 i ||| 2 ^ q else (rndS O i S).2 x)
              by_cases e1 : x = i
              · rw [if_pos e1, if_pos e1]
              · rw [if_neg e1, if_neg e1]; exact (r4 x hx hs).1 hw
            · show (if x = i then (rndS O i S).2 i ||| 2 ^ q else D x) ||| 2 ^ q' = (if x = i then (rndS O i S).2 i ||| 2 ^ q else (rndS O i S).2 x)
              by_cases e1 : x = i
              · subst e1
                have hw : (rndS O x S).1 x = some q' := hw
                rw [w0] at hw; cases hw
              · rw [if_neg e1, if_neg e1]; exact (r4 x hx hs).2 q' hw
          · rw [rndS, askS_ref hg e p]
            exact flag_yes hy (rl _)
        | true =>
          have p' : btr O q i ((rndS O i S).1 q) = true := p
          rw [p']
          refine jn_in ⟨fun c => absurd c (by decide), fun _ => ?_⟩
          cases w : (rndS O i S).1 q with
          | none =>
            refine jn_in ⟨fun c => absurd c.symm (oV_ne (by omega)), fun _ => ⟨vq, fun σ33 h33 => ⟨vi, fun σ35 h35 => ⟨fun _ z hz => ?_, fun c => absurd rfl c⟩⟩⟩⟩
            rw [hz, add1]
            refine nx σ35 1 (by rw [h35, h33]; exact (hf.wr (by decide)).wr (by decide)) ?_ ?_
            · rw [rndS, askS_yes hg e p]
              refine ⟨D, fun x hx => ?_, fun x hx => by rw [h35, sI_ne (by decide), h33, sI_ne (by decide)]; exact r2 x hx, r3, fun x hx hs => ⟨fun hw => ?_, fun q' hw => ?_⟩⟩
              · show σ35.1 17 x = oV (if x = i then some q else if x = q then some i else if (rndS O i S).1 q = some x then none else (rndS O i S).1 x)
                rw [h35, sI_get]
                by_cases e1 : x = i
                · rw [if_pos ⟨rfl, e1⟩, if_pos e1]; rfl
                · rw [if_neg (fun y => e1 y.2), if_neg e1, h33, sI_get]
                  by_cases e2 : x = q
                  · rw [if_pos ⟨rfl, e2⟩, if_pos e2]; rfl
                  · rw [if_neg (fun y => e2 y.2), if_neg e2, w, if_neg (by intro h; cases h)]; exact r1 x hx
              · have hw : (if x = i then some q else if x = q then some i else if (rndS O i S).1 q = some x then none else (rndS O i S).1 x) = none := hw
                show D x = (if x = i then (rndS O i S).2 i ||| 2 ^ q else (rndS O i S).2 x)
                by_cases e1 : x = i
                · rw [if_pos e1] at hw; cases hw
                · rw [if_neg e1] at hw ⊢
                  by_cases e2 : x = q
                  · rw [if_pos e2] at hw; cases hw
                  · rw [if_neg e2, w, if_neg (by intro h; cases h)] at hw
                    exact (r4 x hx hs).1 hw
              · have hw : (if x = i then some q else if x = q then some i else if (rndS O i S).1 q = some x then none else (rndS O i S).1 x) = some q' := hw
                show D x ||| 2 ^ q' = (if x = i then (rndS O i S).2 i ||| 2 ^ q else (rndS O i S).2 x)
                by_cases e1 : x = i
                · rw [if_pos e1] at hw ⊢
                  cases hw
                  subst e1
                  rw [Di]
                · rw [if_neg e1] at hw ⊢
                  by_cases e2 : x = q
                  · subst e2; exact absurd (hs.trans s0.symm) (fun h => oF_side c3 h.symm)
                  · rw [if_neg e2, w, if_neg (by intro h; cases h)] at hw
                    exact (r4 x hx hs).2 q' hw
            · rw [rndS, askS_yes hg e p]
              exact flag_yes hy (rl _)
          | some h =>
            obtain ⟨o1, o2, o3, o4⟩ := okS.1 q h w
            have nhi : h ≠ i := fun x => by rw [x, w0] at o4; cases o4
            have nhq : h ≠ q := fun x => oF_side o3 (by rw [x])
            have sh : oS O h = 0 := by
              have := oF_side o3
              have := oF_side c3
              have := (hk.2.2.1 h o2).1
              have := (hk.2.2.1 q o1).1
              omega
            have vh : vp_in (nI h) 8 := vp_in_nI (by omega) (by omega)
            have eh : oV (some h) = nI h := rfl
            rw [eh]
            refine jn_in ⟨fun c => absurd ((nI_eq (by omega) (by omega)).mp c) nhi, fun _ => ⟨vq, fun σ33 h33 => ⟨vi, fun σ35 h35 => ⟨fun c => absurd c (oV_ne (by omega)), fun _ => ⟨vh, vh, fun σ27 h27 => ⟨vh, fun σ29 h29 z hz => ?_⟩⟩⟩⟩⟩⟩
            rw [hz, add1]
            have e18 : σ35.1 18 h = nI (D h) := by rw [h35, sI_ne (by decide), h33, sI_ne (by decide)]; exact r2 h (by omega)
            have Dh : D h ||| 2 ^ q = (rndS O i S).2 h := (r4 h o2 sh).2 q o4
            rw [cl (n := h) (by omega), e18, shl1 (by omega), orN, Dh] at h27
            rw [cl (n := h) (by omega)] at h29
            refine nx σ29 1 (by rw [h29, h27, h35, h33]; exact (((hf.wr (by decide)).wr (by decide)).wr (by decide)).wr (by decide)) ?_ ?_
            · rw [rndS, askS_yes hg e p]
              refine ⟨fun x => if x = h then (rndS O i S).2 h else D x, fun x hx => ?_, fun x hx => ?_, fun x => ?_, fun x hx hs => ⟨fun hw => ?_, fun q' hw => ?_⟩⟩
              · show σ29.1 17 x = oV (if x = i then some q else if x = q then some i else if (rndS O i S).1 q = some x then none else (rndS O i S).1 x)
                rw [h29, sI_get]
                by_cases e0 : x = h
                · subst e0
                  rw [if_pos ⟨rfl, rfl⟩, if_neg nhi, if_neg nhq, w, if_pos rfl]; rfl
                · rw [if_neg (fun y => e0 y.2), h27, sI_ne (by decide), h35, sI_get]
                  by_cases e1 : x = i
                  · rw [if_pos ⟨rfl, e1⟩, if_pos e1]; rfl
                  · rw [if_neg (fun y => e1 y.2), if_neg e1, h33, sI_get]
                    by_cases e2 : x = q
                    · rw [if_pos ⟨rfl, e2⟩, if_pos e2]; rfl
                    · rw [if_neg (fun y => e2 y.2), if_neg e2, w, if_neg (by intro y; cases y; exact e0 rfl)]; exact r1 x hx
              · show σ29.1 18 x = nI (if x = h then (rndS O i S).2 h else D x)
                rw [h29, sI_ne (by decide), h27, sI_get]
                by_cases e0 : x = h
                · rw [if_pos ⟨rfl, e0⟩, if_pos e0]
                · rw [if_neg (fun y => e0 y.2), if_neg e0, h35, sI_ne (by decide), h33, sI_ne (by decide)]; exact r2 x hx
              · show (if x = h then (rndS O i S).2 h else D x) < 256
                split
                · exact okS.2 h
                · exact r3 x
              · have hw : (if x = i then some q else if x = q then some i else if (rndS O i S).1 q = some x then none else (rndS O i S).1 x) = none := hw
                show (if x = h then (rndS O i S).2 h else D x) = (if x = i then (rndS O i S).2 i ||| 2 ^ q else (rndS O i S).2 x)
                by_cases e1 : x = i
                · rw [if_pos e1] at hw; cases hw
                · rw [if_neg e1] at hw ⊢
                  by_cases e2 : x = q
                  · rw [if_pos e2] at hw; cases hw
                  · by_cases e0 : x = h
                    · rw [if_pos e0, e0]
                    · rw [if_neg e2, w, if_neg (by intro y; cases y; exact e0 rfl)] at hw
                      rw [if_neg e0]
                      exact (r4 x hx hs).1 hw
              · have hw : (if x = i then some q else if x = q then some i else if (rndS O i S).1 q = some x then none else (rndS O i S).1 x) = some q' := hw
                show (if x = h then (rndS O i S).2 h else D x) ||| 2 ^ q' = (if x = i then (rndS O i S).2 i ||| 2 ^ q else (rndS O i S).2 x)
                by_cases e1 : x = i
                · rw [if_pos e1] at hw ⊢
                  cases hw
                  subst e1
                  rw [if_neg (fun y => nhi y.symm), Di]
                · rw [if_neg e1] at hw ⊢
                  by_cases e2 : x = q
                  · subst e2; exact absurd (hs.trans s0.symm) (fun h => oF_side c3 h.symm)
                  · by_cases e0 : x = h
                    · rw [if_neg e2, w, if_pos (by rw [e0])] at hw; cases hw
                    · rw [if_neg e2, w, if_neg (by intro y; cases y; exact e0 rfl)] at hw
                      rw [if_neg e0]
                      exact (r4 x hx hs).2 q' hw
            · rw [rndS, askS_yes hg e p]
              exact flag_yes hy (rl _)
theorem m_askL {μ : St} {O : Orc} {K P : St → Prop} (hM : orM μ O) (hk : oOk O) (hK : ∀ μ', frC [17, 18] μ μ' → rk μ' O (AskF O) → K μ') : ∀ r j μ1, remA O (itA O j S00) ≤ r → frC [17, 18] μ μ1 → rk μ1 O (itA O j S00) → wLX10_ask_31 K P (r + 2) μ1 (1 : Int32) := by
  intro r
  induction r with
  | zero =>
    intro j μ1 hr hf hk1
    show wLX10_ask_31 K P (0 + 1 + 1) μ1 (1 : Int32)
    rw [wLX10_ask_31]
    refine ⟨fun c => absurd c nb0, fun _ => ⟨oP O + 1, m_askRound (orM_fr hM hf (by decide)) hk (itA_ok hk j S00 (S00_ok O)) (fun μ' y hf' hr' hy => ?_) (oP O) 0 μ1 0 (by omega) frC.rf hk1 (Or.inl ⟨rfl, rfl⟩)⟩⟩
    rcases hy with ⟨hy, hs⟩ | ⟨-, hy⟩
    · rw [hy, wLX10_ask_31]
      refine ⟨fun _ => hK μ' (hf.tr hf') ?_, fun c => absurd rfl c⟩
      unfold AskF
      rw [AskF_eq (prs O).length S00 (remA_le O S00) j hs, ← hs]; exact hr'
    · omega
  | succ r ih =>
    intro j μ1 hr hf hk1
    show wLX10_ask_31 K P (r + 2 + 1) μ1 (1 : Int32)
    rw [wLX10_ask_31]
    refine ⟨fun c => absurd c nb0, fun _ => ⟨oP O + 1, m_askRound (orM_fr hM hf (by decide)) hk (itA_ok hk j S00 (S00_ok O)) (fun μ' y hf' hr' hy => ?_) (oP O) 0 μ1 0 (by omega) frC.rf hk1 (Or.inl ⟨rfl, rfl⟩)⟩⟩
    rcases hy with ⟨hy, hs⟩ | ⟨hy, hl⟩
    · rw [hy]
      show wLX10_ask_31 K P (r + 1 + 1) μ' 0
      rw [wLX10_ask_31]
      refine ⟨fun _ => hK μ' (hf.tr hf') ?_, fun c => absurd rfl c⟩
      unfold AskF
      rw [AskF_eq (prs O).length S00 (remA_le O S00) j hs, ← hs]; exact hr'
    · rw [hy]
      refine ih (j + 1) μ' ?_ (hf.tr hf') ?_
      · rw [itA_s]; omega
      · rw [itA_s]; exact hr'
theorem m_ask {μ : St} {O : Orc} {P : St → Prop} (hM : orM μ O) (hk : oOk O) (hP : ∀ μ', frC [17, 18] μ μ' → rk μ' O (AskF O) → P μ') : wX10_ask μ P := by
  unfold wX10_ask
  refine ⟨9, ?_⟩
  have step : ∀ d i μ1, i + d = 8 → frC [17, 18] μ μ1 → (∀ j, j < i → μ1.1 17 j = -9 ∧ μ1.1 18 j = 0) → wLX10_ask_2 (fun (σ7 : St) => ∃ n45 : Nat, wLX10_ask_31 (fun (σ44 : St) => P σ44) P n45 σ7 (1 : Int32)) P (d + 1) μ1 (nI i) := by
    intro d
    induction d with
    | zero =>
      intro i μ1 hi hf hb
      rw [wLX10_ask_2]
      refine ⟨fun _ => ⟨(prs O).length + 2, m_askL hM hk hP (prs O).length 0 μ1 (remA_le O _) hf ?_⟩, fun c => absurd ((leI (a := 8) rfl rfl (by omega) (by omega)).mpr (by omega)) c⟩
      exact ⟨fun _ => 0, fun p hp => (hb p (by omega)).1, fun a ha => (hb a (by omega)).2, fun _ => (by show 0 < 256; omega), fun a ha hs => ⟨fun _ => rfl, fun q hq => by cases hq⟩⟩
    | succ d ih =>
      intro i μ1 hi hf hb
      rw [wLX10_ask_2, cl (n := i) (by omega)]
      have vi : vp_in (nI i) 8 := vp_in_nI (by omega) (by omega)
      refine ⟨fun c => absurd ((leI (a := 8) rfl rfl (by omega) (by omega)).mp c) (by omega), fun _ => ⟨vi, fun σ3 h3 => ⟨vi, fun σ5 h5 z hz => ?_⟩⟩⟩
      rw [hz, add1]
      refine ih (i + 1) σ5 (by omega) (by rw [h5, h3]; exact (hf.wr (by decide)).wr (by decide)) (fun j hj => ?_)
      rw [h5, sI_ne (by decide), sI_get, h3, sI_get, sI_ne (by decide)]
      by_cases e : j = i
      · rw [if_pos ⟨rfl, e⟩, if_pos ⟨rfl, e⟩]; exact ⟨rfl, rfl⟩
      · rw [if_neg (fun y => e y.2), if_neg (fun y => e y.2)]; exact hb j (by omega)
  exact step 8 0 μ (by omega) frC.rf (fun j hj => absurd hj (Nat.not_lt_zero j))
theorem m_asked10 {μ : St} {O : Orc} {p : Int32} {P : Int32 → St → Prop} (hM : orM μ O) (hk : oOk O) (hP : ∀ μ', frC [17, 18] μ μ' → P (ansAsked O p) μ') : wX10_asked μ p P := by
  have h8 := hk.1
  unfold ansAsked at hP
  unfold wX10_asked
  refine m_isOne hM hk ((br_b (fun q => ?_) (fun q => ?_)) |> fun h => ⟨fun c => h.2 c, fun c => h.1 c⟩)
  · have := hP μ frC.rf
    rw [if_neg (by rw [q]; decide)] at this; exact this
  · refine m_ask hM hk (fun μ' hf hr => ?_)
    have := hP μ' hf
    rw [if_pos q] at this
    obtain ⟨p, hp, rfl⟩ := inR_t q (by omega)
    obtain ⟨D, r1, -⟩ := hr
    rw [cl (by omega)] at this ⊢
    refine ⟨vp_in_nI (by omega) (by omega), ?_⟩
    rw [r1 p (by omega)]; exact this
