/-! a year's blossoms -/
theorem nI_of_bv {y : Int32} {m : Nat} (h : y.toBitVec.toNat = m) : y = nI m := by
  apply Int32.toBitVec_inj.mp
  show y.toBitVec = BitVec.ofNat 32 m
  apply BitVec.eq_of_toNat_eq
  rw [BitVec.toNat_ofNat, ← h, Nat.mod_eq_of_lt y.toBitVec.isLt]
theorem lot_ex : ∃ f : Int32 → Int32, ∀ x : Int32, (x * (1103515245 : Int32)) + (12345 : Int32) = f x := ⟨fun x => (x * (1103515245 : Int32)) + (12345 : Int32), fun _ => rfl⟩
/-- the next lot (by choice, so that nothing counts with it) -/
noncomputable def lotS : Int32 → Int32 := Classical.choose lot_ex
theorem lotS_eq (x : Int32) : (x * (1103515245 : Int32)) + (12345 : Int32) = lotS x := Classical.choose_spec lot_ex x
noncomputable def lotK (l : Int32) : Nat → Int32
  | 0 => l
  | i + 1 => lotS (lotK l i)
theorem lotK_s (l : Int32) (i : Nat) : (lotK l i * (1103515245 : Int32)) + (12345 : Int32) = lotK l (i + 1) := by rw [lotK, lotS_eq]
theorem draw_ex : ∃ f : Int32 → Nat, ∀ x : Int32, ((x.toUInt32 >>> ((16 : Int32).toUInt32 &&& Int32.toUInt32 31)).toInt32) - ((x.toUInt32 >>> ((16 : Int32).toUInt32 &&& Int32.toUInt32 31)).toInt32) / (21 : Int32) * (21 : Int32) = nI (f x) ∧ f x ≤ 20 := by
  refine ⟨fun x => x.toBitVec.toNat / 65536 % 21, fun x => ⟨?_, ?_⟩⟩
  · have h := nI_of_bv (pk_ushr x (16 : Int32) 16 (by decide))
    rw [h]
    have hx := x.toBitVec.isLt
    exact pk_rem (a := x.toBitVec.toNat / 2 ^ 16) (d := 21) (by omega) (by omega) (by omega)
  · show x.toBitVec.toNat / 65536 % 21 ≤ 20
    omega
noncomputable def drawN : Int32 → Nat := Classical.choose draw_ex
theorem drawI (x : Int32) : ((x.toUInt32 >>> ((16 : Int32).toUInt32 &&& Int32.toUInt32 31)).toInt32) - ((x.toUInt32 >>> ((16 : Int32).toUInt32 &&& Int32.toUInt32 31)).toInt32) / (21 : Int32) * (21 : Int32) = nI (drawN x) := (Classical.choose_spec draw_ex x).1
theorem draw_le (x : Int32) : drawN x ≤ 20 := (Classical.choose_spec draw_ex x).2
noncomputable def nBlo (O : Orc) (N : Nw) : Nw := (nD N, nC N, nK N, nP N, nF N, lotK (nL N) (oT O), fun t => oB O t * drawN (lotK (nL N) (t + 1)) / 10)
theorem nBlo_b (O : Orc) (N : Nw) (t : Nat) : nB (nBlo O N) t = oB O t * drawN (lotK (nL N) (t + 1)) / 10 := rfl
theorem nBlo_l (O : Orc) (N : Nw) : nL (nBlo O N) = lotK (nL N) (oT O) := rfl
theorem blo_le {O : Orc} (hk : oOk O) {l : Int32} {t : Nat} (ht : t < oT O) : oB O t * drawN l / 10 ≤ 198 := by
  have h1 := (hk.2.2.2.2 t ht).2.2
  have h2 := draw_le l
  have := Nat.mul_le_mul h1 h2
  omega
theorem s_blossom {σ : St} {n o T0 : Nat} {N : Nw} {O : Orc} {P : St → Prop} (hn : isN n) (ho : isO o) (hO : orC σ o O) (hk : oOk O) (hN : nwC σ n T0 N) (hP : ∀ σ', frC [n, n + 1] σ σ' → nwC σ' n (oT O) (nBlo O N) → P σ') : wX2_blossom σ n o P := by
  have h5 := hk.2.1
  have hno := isO_N ho hn
  unfold wX2_blossom
  refine ⟨hn, ho, oT O + 1, ?_⟩
  obtain ⟨a0, a1, a2, a3, a4, a5, a6⟩ := hN
  have step : ∀ d i σ1, i + d = oT O → frC [n, n + 1] σ σ1 → (∀ j, σ1.1 n j = if j = 5 then lotK (nL N) i else σ.1 n j) → (∀ t, t < i → σ1.1 (n + 1) t = nI (nB (nBlo O N) t)) → wLX2_blossom_2 n o (fun σ8 => P σ8) P (d + 1) σ1 (nI i) := by
    intro d
    induction d with
    | zero =>
      intro i σ1 hi hf hs hb
      have e : i = oT O := by omega
      subst e
      rw [wLX2_blossom_2]
      have hO1 : orC σ1 o O := orC_kept hO (fun k h1 h2 => hf.1 k (by simp; omega))
      rw [hO1.2.1]
      refine ⟨fun _ => hP σ1 hf ⟨by rw [hs]; exact a0, by rw [hs]; exact a1, by rw [hs]; exact a2, by rw [hs]; exact a3, by rw [hs]; exact a4, by rw [hs, if_pos rfl, nBlo_l], fun t ht => hb t ht⟩, fun c => absurd (nI_le (Nat.le_refl _) (by omega)) c⟩
    | succ d ih =>
      intro i σ1 hi hf hs hb
      rw [wLX2_blossom_2]
      have hO1 : orC σ1 o O := orC_kept hO (fun k h1 h2 => hf.1 k (by simp; omega))
      have hiT : i < oT O := by omega
      have ob := (hk.2.2.2.2 i hiT).2.2
      rw [hO1.2.1]
      refine ⟨fun c => absurd c (nI_ge (by omega) (by omega)), fun _ σ2 h2 z3 hz3 => ⟨vp_in_nI (by omega) (by omega), vp_in_nI (by omega) (by omega), fun σ6 h6 z7 hz7 => ?_⟩⟩
      have hs5 : σ1.1 n 5 = lotK (nL N) i := by rw [hs 5, if_pos rfl]
      rw [hs5, lotK_s] at h2
      have l2 : σ2.1 n 5 = lotK (nL N) (i + 1) := by rw [h2, sI_at]
      rw [l2, drawI] at hz3
      have o8 : σ2.1 (o + 8) i = nI (oB O i) := by rw [h2, sI_ne (by omega)]; exact (hO1.2.2.2 i hiT).2.2
      rw [cl (by omega), o8, hz3, pk_mul, show (10 : Int32) = nI 10 from rfl, pk_div (by have := Nat.mul_le_mul ob (draw_le (lotK (nL N) (i + 1))); omega) (by omega) (by omega)] at h6
      rw [hz7, add1]
      refine ih (i + 1) σ6 (by omega) (by rw [h6, h2]; exact (hf.wr (by simp)).wr (by simp)) (fun j => ?_) (fun t ht => ?_)
      · rw [h6, sI_ne (by omega), h2, sI_get]
        by_cases e : j = 5
        · subst e; rw [if_pos ⟨rfl, rfl⟩, if_pos rfl]
        · rw [if_neg (fun q => e q.2), if_neg e, hs, if_neg e]
      · rw [h6, sI_get]
        by_cases e : t = i
        · subst e; rw [if_pos ⟨rfl, rfl⟩, nBlo_b]
        · rw [if_neg (by simp [e]), h2, sI_ne (by omega)]; exact hb t (by omega)
  exact step (oT O) 0 σ (by omega) frC.rf (fun j => by
    by_cases e : j = 5
    · subst e; rw [if_pos rfl, a5, lotK]
    · rw [if_neg e]) (fun t ht => absurd ht (Nat.not_lt_zero t))
/-! who can climb what -/
def two (q : Nat × Nat) : Nat := 2 ^ q.1 ||| 2 ^ q.2
/-- what a pair that fits would pick from a tree; 0, if it can't climb that -/
def pkN (O : Orc) (N : Nw) (q : Nat × Nat) (t : Nat) : Nat :=
  if ((decide (oR O t ≤ nD N) && decide (nD N ≤ oR O t + 3)) && !(nK N).testBit t && decide (nC N &&& two q = 0) && decide (oH O t ≤ min (oL O q.1) (oL O q.2))) = true then min (oC O q.1 + oC O q.2) (nB N t) else 0
theorem pow2_lt8 {a : Nat} (h : a < 8) : 2 ^ a < 256 := Nat.pow_lt_pow_right (by omega) h
theorem two_lt {a b : Nat} (ha : a < 8) (hb : b < 8) : 2 ^ a ||| 2 ^ b < 256 := Nat.or_lt_two_pow (n := 8) (pow2_lt8 ha) (pow2_lt8 hb)
theorem and0 {a b : Nat} (ha : a < 2 ^ 31) : nI a &&& nI b = 0 ↔ a &&& b = 0 := by
  rw [andN]
  have : a &&& b ≤ a := Nat.and_le_left
  exact eqI rfl (b := 0) rfl (by omega) (by omega)
theorem plA_mem {O : Orc} {i a b : Nat} (h : (a, b) ∈ plA O i) : a < i ∧ b < oP O ∧ oS O a = 0 ∧ oF O a b = true := by
  unfold plA at h
  obtain ⟨x, hx, h⟩ := List.mem_flatMap.mp h
  have hx := List.mem_range.mp hx
  by_cases hs : oS O x = 0
  · rw [if_pos hs] at h
    unfold plR at h
    obtain ⟨y, hy, e⟩ := List.mem_map.mp h
    obtain ⟨hy1, hy2⟩ := List.mem_filter.mp hy
    cases e
    exact ⟨hx, List.mem_range.mp hy1, hs, hy2⟩
  · rw [if_neg hs] at h; cases h
theorem prs_mem {O : Orc} {a b : Nat} : (a, b) ∈ prs O ↔ a < oP O ∧ b < oP O ∧ oS O a = 0 ∧ oF O a b = true := by
  refine ⟨plA_mem, fun ⟨ha, hb, hs, hf⟩ => ?_⟩
  unfold prs plA
  refine List.mem_flatMap.mpr ⟨a, List.mem_range.mpr ha, ?_⟩
  rw [if_pos hs]
  exact List.mem_map.mpr ⟨b, List.mem_filter.mpr ⟨List.mem_range.mpr hb, hf⟩, rfl⟩
theorem prs_at {O : Orc} {i a b : Nat} (h : (prs O)[i]? = some (a, b)) : a < oP O ∧ b < oP O ∧ oS O a = 0 ∧ oF O a b = true := prs_mem.mp (List.mem_of_getElem? h)
theorem prs_len {O : Orc} (hk : oOk O) : (prs O).length ≤ 16 := plA_le16 hk (Nat.le_refl _)
theorem minI {a b : Nat} (ha : a < 2 ^ 31) (hb : b < 2 ^ 31) : (if nI b < nI a then nI b else nI a) = nI (min a b) := by
  by_cases q : b < a
  · rw [if_pos (nI_lt q ha), Nat.min_eq_right (by omega)]
  · rw [if_neg (nI_nlt (by omega) hb), Nat.min_eq_left (by omega)]
theorem maxI {a b : Nat} (ha : a < 2 ^ 31) (hb : b < 2 ^ 31) : (if nI a < nI b then nI b else nI a) = nI (max a b) := by
  by_cases q : a < b
  · rw [if_pos (nI_lt q hb), Nat.max_eq_right (by omega)]
  · rw [if_neg (nI_nlt (by omega) ha), Nat.max_eq_left (by omega)]
theorem s_pickable {σ : St} {n o i a b t : Nat} {N : Nw} {O : Orc} {P : Int32 → Prop} (hn : isN n) (ho : isO o) (hO : orC σ o O) (hk : oOk O) (hp : prC σ O (prs O)) (hN : nwC σ n (oT O) N) (hNk : nOk (oT O) N) (hi : (prs O)[i]? = some (a, b)) (ht : t < oT O) (hP : P (nI (pkN O N (a, b) t))) : wX2_pickable σ n o (nI i) (nI t) P := by
  have h5 := hk.2.1
  have h8 := hk.1
  have hl := prs_len hk
  have hil : i < (prs O).length := (List.getElem?_eq_some_iff.mp hi).1
  obtain ⟨q0, q1, q2, q3, q4, q5⟩ := hp.2 i a b hi
  obtain ⟨ha, hb, -, -⟩ := prs_at hi
  obtain ⟨a0, a1, a2, a3, a4, a5, a6⟩ := hN
  have A := hk.2.2.1 a ha
  have B := hk.2.2.1 b hb
  have tT := hk.2.2.2.2 t ht
  have hm : min (oL O a) (oL O b) ≤ 9 := by omega
  unfold wX2_pickable
  rw [a0]
  refine ⟨hn, ho, s_isRipe ho hO hk ht (by have := hNk.1; omega) ?_⟩
  rw [a1, a2, cl (by omega), cl (by omega), q2, q4, q5, a6 t ht, (hO.2.2.2 t ht).1, bitN (by have := hNk.2.2.1; omega) (by omega)]
  have vi : vp_in (nI i) 16 := vp_in_nI (by omega) (by omega)
  have vt : vp_in (nI t) 5 := vp_in_nI (by omega) (by omega)
  refine br_b (fun e => ?_) (fun e => br_b (fun e2 => ⟨vi, fun c => ?_, fun c => ⟨vi, vt, fun c2 => ⟨vi, vt, ?_⟩, fun c2 => ?_⟩⟩) (fun e2 => ?_))
  · rw [show pkN O N (a, b) t = 0 by unfold pkN; rw [e]; rfl] at hP; exact hP
  · have c : ¬ nC N &&& two (a, b) = 0 := fun q => c ((and0 (by have := hNk.2.1; omega)).mpr q)
    rw [show pkN O N (a, b) t = 0 by simp [pkN, c]] at hP; exact hP
  · have c := (and0 (by have := hNk.2.1; omega)).mp c
    have c2 := (nI_leI (by omega) (by omega)).mp c2
    have c : nC N &&& two (a, b) = 0 := c
    rw [minI (by omega) (by have := hNk.2.2.2 t ht; omega)]
    rw [show pkN O N (a, b) t = min (oC O a + oC O b) (nB N t) by
      unfold pkN
      rw [if_pos (by rw [e, e2]; simp only [Bool.not_false, Bool.and_true, Bool.true_and, Bool.and_eq_true, decide_eq_true_eq]; exact ⟨c, c2⟩)]] at hP
    exact hP
  · have c2 : ¬ oH O t ≤ min (oL O a) (oL O b) := fun q => c2 (nI_le q (by omega))
    rw [show pkN O N (a, b) t = 0 by unfold pkN; rw [if_neg (by simp only [Bool.and_eq_true, decide_eq_true_eq]; exact fun q => c2 q.2)]] at hP; exact hP
  · rw [show pkN O N (a, b) t = 0 by unfold pkN; rw [e2]; simp] at hP; exact hP
def nPick (N : Nw) (q : Nat × Nat) (t b : Nat) : Nw := (nD N, nC N ||| two q, nK N ||| 2 ^ t, nP N + nI b, nF N, nL N, fun u => if u = t then nB N t - b else nB N u)
theorem s_pick {σ : St} {n T t b : Nat} {q : Nat × Nat} {N : Nw} {P : St → Prop} (hn : isN n) (hT : T ≤ 5) (hN : nwC σ n T N) (ht : t < T) (hb : b ≤ nB N t) (hP : ∀ σ', frC [n, n + 1] σ σ' → nwC σ' n T (nPick N q t b) → P σ') : wX2_pick σ n (nI (two q)) (nI t) (nI b) P := by
  obtain ⟨a0, a1, a2, a3, a4, a5, a6⟩ := hN
  unfold wX2_pick
  refine ⟨hn, fun σ1 h1 σ2 h2 => ⟨vp_in_nI (by omega) (by omega), vp_in_nI (by omega) (by omega), fun σ5 h5 σ6 h6 => hP σ6 ?_ ?_⟩⟩
  · rw [h6, h5, h2, h1]; exact (((frC.rf.wr (by simp)).wr (by simp)).wr (by simp)).wr (by simp)
  · have s1 : ∀ j, σ1.1 n j = if j = 1 then nI (nC N ||| two q) else σ.1 n j := fun j => by rw [h1, sI_get, a1, orN]; simp
    have v2 : σ1.1 n 2 = nI (nK N) := by rw [s1, if_neg (by decide)]; exact a2
    rw [v2, shl1 (by omega), orN] at h2
    have s2 : ∀ j, σ2.1 n j = if j = 2 then nI (nK N ||| 2 ^ t) else σ1.1 n j := fun j => by rw [h2, sI_get]; simp
    have s5 : ∀ j, σ5.1 n j = σ2.1 n j := fun j => by rw [h5, sI_ne (by omega)]
    have v3 : σ5.1 n 3 = nP N := by rw [s5, s2, if_neg (by decide), s1, if_neg (by decide)]; exact a3
    rw [v3] at h6
    have s6 : ∀ j, σ6.1 n j = if j = 3 then nP N + nI b else σ2.1 n j := fun j => by rw [h6, sI_get, s5 j]; simp
    have b2 : σ2.1 (n + 1) = σ.1 (n + 1) := by rw [h2, sI_ne (by omega), h1, sI_ne (by omega)]
    rw [cl (by omega), b2, a6 t ht, pk_sub hb] at h5
    refine ⟨by rw [s6, s2, s1]; exact a0, by rw [s6, s2, s1]; rfl, by rw [s6, s2, s1]; rfl, by rw [s6]; rfl, by rw [s6, s2, s1]; exact a4, by rw [s6, s2, s1]; exact a5, fun u hu => ?_⟩
    rw [h6, sI_ne (by omega), h5, sI_get, b2]
    show _ = nI (if u = t then nB N t - b else nB N u)
    by_cases e : u = t
    · subst e; simp
    · simp [e]; exact a6 u hu
/-! looking pairs up -/
theorem s_numberOf {σ : St} {O : Orc} {i a b : Nat} {P : Int32 → Prop} (hk : oOk O) (hp : prC σ O (prs O)) (hi : (prs O)[i]? = some (a, b)) (hP : P (nI (10 * a + b))) : wX4_numberOf σ (nI i) P := by
  have hl := prs_len hk
  have hil : i < (prs O).length := (List.getElem?_eq_some_iff.mp hi).1
  obtain ⟨q0, q1, -⟩ := hp.2 i a b hi
  unfold wX4_numberOf
  rw [hp.1, cl (by omega), q0, q1, show (10 : Int32) = nI 10 from rfl, pk_mul, nI_add]
  refine ⟨fun c => absurd c (nI_pos (by omega)), fun _ => ⟨fun c => absurd c (nI_ge hil (by omega)), fun _ => ⟨vp_in_nI (by omega) (by omega), vp_in_nI (by omega) (by omega), hP⟩⟩⟩
/-- the first of a list for which something holds, by its place -/
def fstAt {α : Type} (p : α → Bool) : List α → Nat → Option Nat
  | [], _ => none
  | x :: l, k => if p x then some k else fstAt p l (k + 1)
theorem two_inj {a b c d : Nat} (ha : a < 8) (hb : b < 8) (hc : c < 8) (hd : d < 8) (hab : a ≠ b) (h : 2 ^ a ||| 2 ^ b = 2 ^ c ||| 2 ^ d) : (a = c ∧ b = d) ∨ (a = d ∧ b = c) := by
  have H : ∀ a b c d : Fin 8, a.val ≠ b.val → 2 ^ a.val ||| 2 ^ b.val = 2 ^ c.val ||| 2 ^ d.val → (a.val = c.val ∧ b.val = d.val) ∨ (a.val = d.val ∧ b.val = c.val) := by decide +kernel
  exact H ⟨a, ha⟩ ⟨b, hb⟩ ⟨c, hc⟩ ⟨d, hd⟩ hab h
