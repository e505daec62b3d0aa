/-! the class's cuts -/
def oV (o : Option Nat) : Int32 := match o with
  | none => -9
  | some c => nI c
theorem oV_ne {c : Nat} (h : c < 1000) : ¬ nI c = (-9 : Int32) := fun e => by
  have : (nI c).toInt = (-9 : Int32).toInt := by rw [e]
  rw [toI (by omega), show (-9 : Int32).toInt = -9 from rfl] at this
  omega
theorem s_fewer {σ : St} {x y : Option Nat} {P : Int32 → Prop} (hx : ∀ c, x = some c → c < 1000) (hy : ∀ c, y = some c → c < 1000) (hP : P (oV (fewO x y))) : wX0_fewer σ (oV x) (oV y) P := by
  unfold wX0_fewer
  cases x with
  | none => exact ⟨fun c => absurd rfl c, fun _ => hP⟩
  | some a =>
    have a1 := hx a rfl
    refine ⟨fun _ => ⟨fun c => ?_, fun c => ?_⟩, fun c => absurd c (oV_ne a1)⟩
    · cases y with
      | none => exact absurd rfl c
      | some b =>
        have b1 := hy b rfl
        have e : (if oV (some b) < oV (some a) then oV (some b) else oV (some a)) = nI (min a b) := minI (a := a) (b := b) (by omega) (by omega)
        rw [e]; exact hP
    · cases y with
      | none => exact hP
      | some b => exact absurd c (oV_ne (hy b rfl))
theorem absI {a b : Nat} (ha : a < 1000) (hb : b < 1000) : (if 0 ≤ (nI a - nI b) then nI a - nI b else 0 - (nI a - nI b)) = nI (if b ≤ a then a - b else b - a) := by
  have t : (nI a - nI b).toInt = (a : Int) - (b : Int) := pk_sub_toInt (by omega) (by omega)
  by_cases q : b ≤ a
  · rw [if_pos q, if_pos (by rw [Int32.le_iff_toInt_le, t, show (0 : Int32).toInt = 0 from rfl]; omega), pk_sub q]
  · rw [if_neg q, if_neg (by rw [Int32.le_iff_toInt_le, t, show (0 : Int32).toInt = 0 from rfl]; omega), Int32.zero_sub, Int32.neg_sub, pk_sub (by omega)]
theorem sd2_lt {s a b : Nat} (hs : s < 256) (ha : a < 8) (hb : b < 8) (h : s.testBit a = true) : sd s (2 ^ a ||| 2 ^ b) < s := by
  rw [sd_or]
  have h1 := sd_lt hs ha h
  have h2 := sd_le (s := sd s (2 ^ a)) (by omega) hb
  omega
theorem s_fewestOf {σ : St} {o s : Nat} {O : Orc} {P : Int32 → Prop} (ho : isO o) (hO : orC σ o O) (hk : oOk O) (hs : s < 2 ^ oP O) (h0 : s ≠ 0) (hT : ∀ r, r < s → σ.1 36 r = oV (FS O r)) (hP : P (oV (FS O s))) : wX0_fewestOf σ o (nI s) P := by
  have h8 := hk.1
  have p8 := pow8 h8
  have lb := lowb_bit (s := s) (by omega) h0
  have lP := bit_lt hs lb
  have frec := FS_rec hk hs h0
  have fl : ∀ r c, FS O r = some c → c ≤ 32 := fun r c h => (FS_le hk h).1
  unfold wX0_fewestOf
  refine ⟨ho, s_ntz (by omega) h0 (fun z2 h2 => ⟨oP O - (lowb s + 1) + 1, ?_⟩)⟩
  rw [add1] at h2
  subst h2
  have step : ∀ d b acc, b + d = oP O → lowb s + 1 ≤ b → (∀ c, acc = some c → c < 1000) → isMinO (fun x => ∃ b', lowb s + 1 ≤ b' ∧ b' < b ∧ s.testBit b' = true ∧ oU O (lowb s) b' = true ∧ ∃ c, FS O (sd s (2 ^ lowb s ||| 2 ^ b')) = some c ∧ x = c + dG O (lowb s) b') acc →
      wLX0_fewestOf_15 o (nI s) (nI (lowb s)) σ (fun (y18 : Int32) => P y18) P (d + 1) (oV acc) (nI b) := by
    intro d
    induction d with
    | zero =>
      intro b acc hb hlb ha hm
      rw [wLX0_fewestOf_15, hO.1]
      have e : b = oP O := by omega
      subst e
      refine ⟨fun _ => ?_, fun c => absurd (nI_le (Nat.le_refl _) (by omega)) c⟩
      rw [isMinO_u hm frec (fun x => Iff.rfl)]; exact hP
    | succ d ih =>
      intro b acc hb hlb ha hm
      have bP : b < oP O := by omega
      have gl := (hk.2.2.1 (lowb s) lP).2.1
      have gb := (hk.2.2.1 b bP).2.1
      have stay : (¬ (s.testBit b = true ∧ oU O (lowb s) b = true ∧ ∃ c, FS O (sd s (2 ^ lowb s ||| 2 ^ b)) = some c)) → wLX0_fewestOf_15 o (nI s) (nI (lowb s)) σ (fun (y18 : Int32) => P y18) P (d + 1) (oV acc) (nI (b + 1)) := fun q => by
        refine ih (b + 1) acc (by omega) (by omega) ha (isMinO_iff hm (fun x => ⟨?_, ?_⟩))
        · rintro ⟨b', b1, b2, r⟩; exact ⟨b', b1, by omega, r⟩
        · rintro ⟨b', b1, b2, b3, b4, c, b5, b6⟩
          have : b' ≠ b := fun e => q (by rw [← e]; exact ⟨b3, b4, c, b5⟩)
          exact ⟨b', b1, by omega, b3, b4, c, b5, b6⟩
      have sl := sd2_lt (s := s) (by omega) (show lowb s < 8 by omega) (show b < 8 by omega) lb
      rw [wLX0_fewestOf_15, hO.1, shl1 (k := lowb s) (by omega), shl1 (k := b) (by omega), orN, sdI, bitN (by omega) (by omega), cl (n := lowb s) (by omega), cl (n := b) (by omega)]
      refine ⟨fun c => absurd c (nI_ge bP (by omega)), fun _ z4 h4 => ?_⟩
      subst h4
      rw [cl (n := sd s (2 ^ lowb s ||| 2 ^ b)) (by omega), hT _ sl, (hO.2.2.1 (lowb s) lP).2.1, (hO.2.2.1 b bP).2.1, absI (by omega) (by omega)]
      have dd : (if oG O b ≤ oG O (lowb s) then oG O (lowb s) - oG O b else oG O b - oG O (lowb s)) = dG O (lowb s) b := rfl
      rw [dd]
      refine br_b (fun q z hz => ?_) (fun q1 => s_couldFit ho hO hk lP bP (br_b (fun q z hz => ?_) (fun q2 => ⟨vp_in_nI (by omega) (by omega), fun q z hz => ?_, fun q3 => ⟨vp_in_nI (by omega) (by omega), vp_in_nI (by omega) (by omega), vp_in_nI (by omega) (by omega), ?_⟩⟩)))
      · rw [hz, add1]; exact stay (fun h => by rw [q] at h; exact absurd h.1 (by decide))
      · rw [hz, add1]; exact stay (fun h => by rw [q] at h; exact absurd h.2.1 (by decide))
      · rw [hz, add1]
        refine stay (fun h => ?_)
        obtain ⟨-, -, c, h⟩ := h
        rw [h] at q
        have := fl _ c h
        exact oV_ne (by omega) q
      · cases f : FS O (sd s (2 ^ lowb s ||| 2 ^ b)) with
        | none => rw [f] at q3; exact absurd rfl q3
        | some c =>
          have cl' := fl _ c f
          have dl := dG_le hk lP bP
          have e : oV (some c) + nI (dG O (lowb s) b) = oV (some (c + dG O (lowb s) b)) := nI_add _ _
          rw [e]
          refine s_fewer ha (fun c' h => by cases h; omega) (fun z hz => ?_)
          rw [hz, add1]
          refine ih (b + 1) _ (by omega) (by omega) (fun c' h => ?_) (isMinO_iff (isMinO_one hm (c + dG O (lowb s) b)) (fun x => ⟨?_, ?_⟩))
          · cases acc with
            | none => cases h; omega
            | some a => cases h; have := ha a rfl; omega
          · rintro (⟨b', b1, b2, r⟩ | rfl)
            · exact ⟨b', b1, by omega, r⟩
            · exact ⟨b, hlb, by omega, q1, q2, c, f, rfl⟩
          · rintro ⟨b', b1, b2, b3, b4, c', b5, b6⟩
            by_cases e : b' = b
            · subst e; rw [f] at b5; cases b5; exact Or.inr b6
            · exact Or.inl ⟨b', b1, by omega, b3, b4, c', b5, b6⟩
  exact step (oP O - (lowb s + 1)) (lowb s + 1) none (by omega) (Nat.le_refl _) (fun c h => by cases h) (fun x hx => by obtain ⟨b', b1, b2, -⟩ := hx; omega)
theorem Mat_0 {O : Orc} (hk : oOk O) {k c : Nat} (h : Mat O 0 k c) : k = 0 := by
  have := (Mat_pop hk h).1
  rw [show popN 0 = 0 by decide] at this
  omega
theorem s_cutting {σ : St} {o : Nat} {O : Orc} {P : St → Prop} (ho : isO o) (hO : orC σ o O) (hk : oOk O) (hP : ∀ σ', frC [35, 36] σ σ' → (∀ k, 1 ≤ k → k ≤ 4 → σ'.1 35 k = oV (FK O k)) → P σ') : wX0_reckon σ o P := by
  have h8 := hk.1
  have p8 := pow8 h8
  have p1 : 1 ≤ 2 ^ oP O := Nat.two_pow_pos _
  unfold wX0_reckon
  refine ⟨ho, fun σ1 h1 => ⟨in0 (by omega) (by omega), fun σ3 h3 => ⟨2 ^ oP O, ?_⟩⟩⟩
  have F3 : frC [35, 36] σ σ3 := by
    refine ⟨fun k hk => ?_, by rw [h3, h1]; rfl⟩
    have k1 : k ≠ 35 := fun e => hk (by rw [e]; decide)
    have k2 : k ≠ 36 := fun e => hk (by rw [e]; decide)
    rw [h3, sI_ne k2, h1]
    show (if k = 35 then _ else σ.1 k) = _
    rw [if_neg k1]
  have e35 : ∀ j, j < 5 → σ3.1 35 j = -9 := fun j hj => by
    rw [h3, sI_ne (by decide), h1]
    show (if (35 : Nat) = 35 then (fun i => if i < 5 then (-9 : Int32) else σ.1 35 i) else σ.1 35) j = -9
    rw [if_pos rfl]
    show (if j < 5 then (-9 : Int32) else _) = -9
    rw [if_pos hj]
  have step : ∀ d s σ4, s + d = 2 ^ oP O → 1 ≤ s → frC [35, 36] σ σ4 → (∀ r, r < s → σ4.1 36 r = oV (FS O r)) → (∀ j, j ≤ 4 → ∃ q, isMinO (fun c => ∃ r, 1 ≤ r ∧ r < s ∧ Mat O r j c) q ∧ σ4.1 35 j = oV q) → wLX0_reckon_18 o (fun (σ20 : St) => P σ20) P (d + 1) σ4 (nI s) := by
    intro d
    induction d with
    | zero =>
      intro s σ4 hs hs1 hf hT hK
      rw [wLX0_reckon_18]
      have hO4 := orC_fr ho hO hf (by decide)
      refine s_everybody ho hO4.1 h8 ⟨fun _ => hP σ4 hf (fun k k1 k4 => ?_), fun c => absurd ((nI_ltI (by omega) (by omega)).mpr (by omega)) c⟩
      obtain ⟨q, q1, q2⟩ := hK k k4
      rw [q2]
      rw [isMinO_u q1 (minO_is (fun c => ∃ s, Mat O s k c)) (fun x => ⟨fun ⟨r, _, _, h⟩ => ⟨r, h⟩, fun ⟨r, h⟩ => ⟨r, ?_, ?_, h⟩⟩)]
      · rfl
      · exact Nat.one_le_iff_ne_zero.mpr (fun e => by subst e; have := Mat_0 hk h; omega)
      · have := Mat_lt h; omega
    | succ d ih =>
      intro s σ4 hs hs1 hf hT hK
      rw [wLX0_reckon_18]
      have hO4 := orC_fr ho hO hf (by decide)
      refine s_everybody ho hO4.1 h8 ⟨fun c => absurd ((nI_ltI (by omega) (by omega)).mp c) (by omega), fun _ => s_fewestOf ho hO4 hk (by omega) (by omega) hT ⟨vp_in_nI (by omega) (by omega), fun σ8 h8' => s_bitCount (by omega) ?_⟩⟩
      rw [cl (n := s) (by omega)] at h8' ⊢
      have F8 : frC [35, 36] σ σ8 := by rw [h8']; exact hf.wr (by decide)
      have T8 : ∀ r, r < s + 1 → σ8.1 36 r = oV (FS O r) := fun r hr => by
        by_cases e : r = s
        · subst e; rw [h8', sI_at]
        · rw [h8', sI_off e]; exact hT r (by omega)
      have pl := pop_P (P := 8) (s := s) (by omega) (by omega)
      have e2 : nI (popN s) / (2 : Int32) = nI (popN s / 2) := divI (d := 2) (by omega) (by omega) (by omega)
      have er : nI (popN s) - nI (popN s / 2) * (2 : Int32) = nI (popN s % 2) := by rw [← e2]; exact pk_rem (d := 2) (by omega) (by omega) (by omega)
      rw [e2, er]
      have other : ∀ j, j ≤ 4 → popN s ≠ 2 * j → ∃ q, isMinO (fun c => ∃ r, 1 ≤ r ∧ r < s + 1 ∧ Mat O r j c) q ∧ σ8.1 35 j = oV q := fun j hj hne => by
        obtain ⟨q, q1, q2⟩ := hK j hj
        refine ⟨q, isMinO_iff q1 (fun x => ⟨fun ⟨r, a1, a2, a3⟩ => ⟨r, a1, by omega, a3⟩, fun ⟨r, a1, a2, a3⟩ => ⟨r, a1, ?_, a3⟩⟩), by rw [h8', sI_ne (by decide)]; exact q2⟩
        have : r ≠ s := fun e => hne (by rw [← e]; exact (Mat_pop hk a3).1)
        omega
      refine ⟨fun c z hz => ?_, fun c => ⟨fun c2 => absurd ((ltI (a := 4) rfl rfl (by omega) (by omega)).mp c2) (by omega), fun _ => ⟨vp_in_nI (by omega) (by omega), vp_in_nI (by omega) (by omega), ?_⟩⟩⟩
      · have c : ¬ popN s % 2 = 0 := fun q => c (by rw [q]; rfl)
        rw [hz, add1]
        exact ih (s + 1) σ8 (by omega) (by omega) F8 T8 (fun j hj => other j hj (by omega))
      · have c : popN s % 2 = 0 := (eqI rfl (b := 0) rfl (by omega) (by omega)).mp c
        have jj : popN s / 2 ≤ 4 := by omega
        rw [cl (n := popN s / 2) (by omega), T8 s (by omega)]
        obtain ⟨q, q1, q2⟩ := hK (popN s / 2) jj
        rw [h8', sI_ne (by decide), q2]
        refine s_fewer (fun c' h => ?_) (fun c' h => by have := (FS_le hk h).1; omega) ⟨vp_in_nI (by omega) (by omega), fun σ18 h18 z hz => ?_⟩
        · rw [h] at q1
          obtain ⟨⟨r, -, -, m⟩, -⟩ := q1
          have := (Mat_pop hk m).2
          omega
        · rw [hz, add1]
          rw [← h8'] at h18
          refine ih (s + 1) σ18 (by omega) (by omega) (by rw [h18]; exact F8.wr (by decide)) (fun r hr => by rw [h18, sI_ne (by decide)]; exact T8 r hr) (fun j hj => ?_)
          by_cases e : j = popN s / 2
          · subst e
            refine ⟨_, isMinO_iff (isMinO_or q1 (minO_is (fun c => ∃ k, Mat O s k c))) (fun x => ⟨?_, ?_⟩), by rw [h18, sI_at]; rfl⟩
            · rintro (⟨r, a1, a2, a3⟩ | ⟨k, m⟩)
              · exact ⟨r, a1, by omega, a3⟩
              · have := (Mat_pop hk m).1
                exact ⟨s, hs1, by omega, by rw [show popN s / 2 = k by omega]; exact m⟩
            · rintro ⟨r, a1, a2, a3⟩
              by_cases e : r = s
              · subst e; exact Or.inr ⟨_, a3⟩
              · exact Or.inl ⟨r, a1, by omega, a3⟩
          · obtain ⟨q', q1', q2'⟩ := other j hj (by omega)
            exact ⟨q', q1', by rw [h18, sI_off e]; exact q2'⟩
  refine step (2 ^ oP O - 1) 1 σ3 (by omega) (Nat.le_refl _) F3 (fun r hr => ?_) (fun j hj => ⟨none, fun x hx => by obtain ⟨r, a1, a2, -⟩ := hx; omega, e35 j (by omega)⟩) |> fun h => by rw [show 2 ^ oP O - 1 + 1 = 2 ^ oP O by omega] at h; exact h
  have : r = 0 := by omega
  subst this
  rw [h3, toN0, sI_at, FS_0]; rfl
noncomputable def ansCuts (O : Orc) (k : Int32) : Int32 := if (decide (1 ≤ k.toInt) && decide (k.toInt ≤ 4)) = true then oV (FK O k.toNatClampNeg) else -1
theorem s_cuts9 {σ : St} {O : Orc} {k : Int32} {P : Int32 → Prop} (hC : ∀ k, 1 ≤ k → k ≤ 4 → σ.1 35 k = oV (FK O k)) (hP : P (ansCuts O k)) : wX9_cuts σ k P := by
  unfold ansCuts at hP
  unfold wX9_cuts
  refine ⟨fun c => ?_, fun c => ⟨fun c2 => ?_, fun c2 => ?_⟩⟩
  · have c := Int32.lt_iff_toInt_lt.mp c
    rw [show (1 : Int32).toInt = 1 from rfl] at c
    rw [if_neg (by simp; omega)] at hP; exact hP
  · have c1 : ¬ k.toInt < 1 := fun q => c (Int32.lt_iff_toInt_lt.mpr q)
    have c2 := Int32.le_iff_toInt_le.mp c2
    rw [show (4 : Int32).toInt = 4 from rfl] at c2
    rw [if_pos (by simp; omega)] at hP
    obtain ⟨j, hj, rfl⟩ := inR_t (x := k) (n := 5) (by simp [inR]; omega) (by omega)
    rw [toI (by omega)] at c1 c2
    rw [cl (by omega)] at hP ⊢
    refine ⟨vp_in_nI (by omega) (by omega), ?_⟩
    rw [hC j (by omega) (by omega)]; exact hP
  · have c2 : ¬ k.toInt ≤ 4 := fun q => c2 (Int32.le_iff_toInt_le.mpr q)
    rw [if_neg (by simp; omega)] at hP; exact hP
