/-! WORTH -/
theorem lowb_eq {s k : Nat} (hs : s < 256) (hb : s.testBit k = true) (hm : ∀ j, j < k → s.testBit j = false) : lowb s = k := by
  have h0 : s ≠ 0 := fun e => by rw [e, Nat.zero_testBit] at hb; cases hb
  rcases Nat.lt_trichotomy (lowb s) k with q | q | q
  · have := lowb_bit hs h0; rw [hm _ q] at this; cases this
  · exact q
  · rw [lowb_min hs h0 q] at hb; cases hb
theorem W_ge1 {O : Orc} (hk : oOk O) {s : Nat} (hs : s < 256) (h0 : s ≠ 0) : W_ O (sd s (2 ^ lowb s)) ≤ W_ O s := by
  rw [W_rec hk hs h0]
  exact (mxL_max _ _ _ _ _).2 _ (Or.inl rfl)
theorem W_ge2 {O : Orc} (hk : oOk O) {s b : Nat} (hs : s < 2 ^ oP O) (h0 : s ≠ 0) (hb : (sd s (2 ^ lowb s)).testBit b = true) (hf : oF O (lowb s) b = true) : oC O (lowb s) + oC O b + W_ O (sd (sd s (2 ^ lowb s)) (2 ^ b)) ≤ W_ O s := by
  have h8 := hk.1
  have p8 := pow8 h8
  have hs8 : s < 256 := by omega
  rw [W_rec hk hs8 h0]
  have hb' := hb
  rw [sd_bit, tb_pow, Bool.and_eq_true] at hb'
  have hbP := bit_lt hs hb'.1
  have hne : lowb s ≠ b := by have := hb'.2; simpa using this
  have hlt : lowb s < b := by
    rcases Nat.lt_or_ge b (lowb s) with q | q
    · have := lowb_min hs8 h0 q; rw [hb'.1] at this; cases this
    · omega
  exact (mxL_max _ _ _ _ _).2 _ (Or.inr ⟨b, by omega, by omega, by rw [Bool.and_eq_true]; exact ⟨hb, hf⟩, rfl⟩)
theorem W_mono {O : Orc} (hk : oOk O) {p : Nat} (hp : p < oP O) : ∀ s, s < 2 ^ oP O → s.testBit p = false → W_ O s ≤ W_ O (s ||| 2 ^ p) := by
  have h8 := hk.1
  have p8 := pow8 h8
  intro s
  induction s using Nat.strongRecOn with
  | _ s ih =>
    intro hs hb
    by_cases h0 : s = 0
    · subst h0; exact Nat.zero_le _
    · have hs8 : s < 256 := by omega
      have la := lowb_bit hs8 h0
      have laP := bit_lt hs la
      have hs' : s ||| 2 ^ p < 2 ^ oP O := Nat.or_lt_two_pow hs (Nat.pow_lt_pow_right (by omega) hp)
      have b' : ∀ i, (s ||| 2 ^ p).testBit i = (s.testBit i || decide (p = i)) := fun i => by rw [Nat.testBit_or, tb_pow]
      have h0' : s ||| 2 ^ p ≠ 0 := fun e => by have := b' p; rw [e, Nat.zero_testBit] at this; simp at this
      by_cases hc : p < lowb s
      · have e : lowb (s ||| 2 ^ p) = p := lowb_eq (by omega) (by rw [b']; simp) (fun j hj => by rw [b', lowb_min hs8 h0 (by omega)]; simp; omega)
        have := W_ge1 hk (s := s ||| 2 ^ p) (by omega) h0'
        rw [e, show sd (s ||| 2 ^ p) (2 ^ p) = s from nat_ext fun i => by
          rw [sd_bit, b', tb_pow]
          by_cases q : p = i
          · subst q; simp [hb]
          · simp [q]] at this
        exact this
      · have hne : lowb s ≠ p := fun e => by rw [e, hb] at la; cases la
        have e : lowb (s ||| 2 ^ p) = lowb s := lowb_eq (by omega) (by rw [b', la]; rfl) (fun j hj => by rw [b', lowb_min hs8 h0 hj]; simp; omega)
        have l2 := sd_lt hs8 (lowb_lt hs8 h0) la
        have c1 : sd (s ||| 2 ^ p) (2 ^ lowb s) = sd s (2 ^ lowb s) ||| 2 ^ p := nat_ext fun i => by
          rw [sd_bit, b', Nat.testBit_or, sd_bit, tb_pow, tb_pow]
          by_cases q : p = i
          · subst q; simp [hne]
          · simp [q]
        have d0 := W_rec hk hs8 h0
        rcases (mxL_max (fun b => (sd s (2 ^ lowb s)).testBit b && oF O (lowb s) b) (fun b => oC O (lowb s) + oC O b + W_ O (sd (sd s (2 ^ lowb s)) (2 ^ b))) (oP O - (lowb s + 1)) (lowb s + 1) (W_ O (sd s (2 ^ lowb s)))).1 with e1 | ⟨j, h1, h2, h3, e1⟩
        · have d1 : W_ O s = W_ O (sd s (2 ^ lowb s)) := by rw [d0]; exact e1
          rw [d1]
          have i1 := ih _ l2 (by omega) (by rw [sd_bit, hb]; rfl)
          have i2 := W_ge1 hk (s := s ||| 2 ^ p) (by omega) h0'
          rw [e, c1] at i2
          omega
        · have d1 : W_ O s = oC O (lowb s) + oC O j + W_ O (sd (sd s (2 ^ lowb s)) (2 ^ j)) := by rw [d0]; exact e1
          rw [Bool.and_eq_true] at h3
          have hjs : s.testBit j = true := by
            have := h3.1; rw [sd_bit, Bool.and_eq_true] at this; exact this.1
          have hjp : j ≠ p := fun q => by rw [q, hb] at hjs; cases hjs
          have l3 := sd_le (s := sd s (2 ^ lowb s)) (a := j) (by omega) (by omega)
          have i1 := ih (sd (sd s (2 ^ lowb s)) (2 ^ j)) (by omega) (by omega) (by rw [sd_bit, sd_bit, hb]; rfl)
          have i2 := W_ge2 hk (s := s ||| 2 ^ p) (b := j) hs' h0' (by rw [e, c1, Nat.testBit_or, h3.1]; rfl) (by rw [e]; exact h3.2)
          rw [e, c1, show sd (sd s (2 ^ lowb s) ||| 2 ^ p) (2 ^ j) = sd (sd s (2 ^ lowb s)) (2 ^ j) ||| 2 ^ p from nat_ext fun i => by
            simp only [sd_bit, Nat.testBit_or, tb_pow]
            by_cases q : p = i
            · subst q; simp [hjp]
            · simp [q]] at i2
          omega
theorem pop_all : ∀ (s : Fin 256) (a : Fin 8), (s.val.testBit a.val = true → popN (sd s.val (2 ^ a.val)) + 1 = popN s.val) ∧ (s.val.testBit a.val = false → popN (s.val ||| 2 ^ a.val) = popN s.val + 1) := by decide +kernel
theorem pop_le : ∀ (P : Fin 9) (s : Fin 256), s.val < 2 ^ P.val → popN s.val ≤ P.val := by decide +kernel
theorem pop_sd {s a : Nat} (hs : s < 256) (ha : a < 8) (h : s.testBit a = true) : popN (sd s (2 ^ a)) + 1 = popN s := (pop_all ⟨s, hs⟩ ⟨a, ha⟩).1 h
theorem pop_or {s a : Nat} (hs : s < 256) (ha : a < 8) (h : s.testBit a = false) : popN (s ||| 2 ^ a) = popN s + 1 := (pop_all ⟨s, hs⟩ ⟨a, ha⟩).2 h
theorem pop_P {s P : Nat} (hP : P ≤ 8) (hs : s < 2 ^ P) : popN s ≤ P := pop_le ⟨P, by omega⟩ ⟨s, by have := pow8 hP; omega⟩ hs
theorem pop_free {s P p : Nat} (hP : P ≤ 8) (hs : s < 2 ^ P) (hp : p < P) (h : s.testBit p = false) : popN s + 1 ≤ P := by
  have := pow8 hP
  rw [← pop_or (a := p) (by omega) (by omega) h]
  exact pop_P hP (Nat.or_lt_two_pow hs (Nat.pow_lt_pow_right (by omega) hp))
theorem W_pop {O : Orc} (hk : oOk O) : ∀ s, s < 2 ^ oP O → W_ O s ≤ 9 * popN s := by
  have h8 := hk.1
  have p8 := pow8 h8
  intro s
  induction s using Nat.strongRecOn with
  | _ s ih =>
    intro hs
    by_cases h0 : s = 0
    · subst h0; exact Nat.zero_le _
    · have hs8 : s < 256 := by omega
      have l1 := lowb_lt hs8 h0
      have lb := lowb_bit hs8 h0
      have l2 := sd_lt hs8 l1 lb
      have pp := pop_sd hs8 l1 lb
      have d0 := W_rec hk hs8 h0
      rcases (mxL_max (fun b => (sd s (2 ^ lowb s)).testBit b && oF O (lowb s) b) (fun b => oC O (lowb s) + oC O b + W_ O (sd (sd s (2 ^ lowb s)) (2 ^ b))) (oP O - (lowb s + 1)) (lowb s + 1) (W_ O (sd s (2 ^ lowb s)))).1 with e1 | ⟨j, h1, h2, h3, e1⟩
      · have d1 : W_ O s = W_ O (sd s (2 ^ lowb s)) := by rw [d0]; exact e1
        have := ih _ l2 (by omega)
        omega
      · have d1 : W_ O s = oC O (lowb s) + oC O j + W_ O (sd (sd s (2 ^ lowb s)) (2 ^ j)) := by rw [d0]; exact e1
        rw [Bool.and_eq_true] at h3
        have l3 := sd_le (s := sd s (2 ^ lowb s)) (a := j) (by omega) (by omega)
        have pp2 := pop_sd (s := sd s (2 ^ lowb s)) (a := j) (by omega) (by omega) h3.1
        have := ih (sd (sd s (2 ^ lowb s)) (2 ^ j)) (by omega) (by omega)
        have c1 := (hk.2.2.1 j (by omega)).2.2.2.1
        have c2 := (hk.2.2.1 (lowb s) (by omega)).2.2.2.1
        omega
def facN : Nat → Nat
  | 0 => 1
  | n + 1 => facN n * (n + 1)
theorem fac_all : ∀ j : Fin 9, zT 2 j.val = nI (facN j.val) ∧ 0 < facN j.val ∧ facN j.val ≤ 40320 := by decide +kernel
theorem fac_zT {j : Nat} (h : j ≤ 8) : zT 2 j = nI (facN j) := (fac_all ⟨j, by omega⟩).1
theorem fac_pos {j : Nat} (h : j ≤ 8) : 0 < facN j ∧ facN j ≤ 40320 := (fac_all ⟨j, by omega⟩).2
theorem fac2 {m n : Nat} (hn : n ≤ 8) (h : m + 1 ≤ n) : facN m * facN (n - 1 - m) ≤ 5040 := by
  have H : ∀ n : Fin 9, ∀ m : Fin 9, m.val + 1 ≤ n.val → facN m.val * facN (n.val - 1 - m.val) ≤ 5040 := by decide +kernel
  exact H ⟨n, by omega⟩ ⟨m, by omega⟩ h
/-- by how much the whole grows as p comes, added over all orders: the sets ahead of k -/
def gN (O : Orc) (p : Nat) : Nat → Nat
  | 0 => 0
  | k + 1 => if k.testBit p = true then gN O p k else gN O p k + facN (popN k) * facN (oP O - 1 - popN k) * (W_ O (k ||| 2 ^ p) - W_ O k)
theorem gN_le {O : Orc} (hk : oOk O) {p : Nat} (hp : p < oP O) : ∀ k, k ≤ 2 ^ oP O → gN O p k ≤ k * (5040 * 72) := by
  have h8 := hk.1
  intro k
  induction k with
  | zero => intro _; exact Nat.zero_le _
  | succ k ih =>
    intro h
    have i := ih (by omega)
    rw [gN]
    by_cases q : k.testBit p = true
    · rw [if_pos q, Nat.add_mul]; exact Nat.le_trans i (Nat.le_add_right _ _)
    · rw [if_neg q, Nat.add_mul, Nat.one_mul]
      have q : k.testBit p = false := by simpa using q
      have f1 := pop_free h8 (show k < 2 ^ oP O by omega) hp q
      have f2 := fac2 h8 f1
      have f3 := W_pop hk (k ||| 2 ^ p) (Nat.or_lt_two_pow (by omega) (Nat.pow_lt_pow_right (by omega) hp))
      have f4 := pop_P h8 (show k ||| 2 ^ p < 2 ^ oP O from Nat.or_lt_two_pow (by omega) (Nat.pow_lt_pow_right (by omega) hp))
      have f5 : W_ O (k ||| 2 ^ p) - W_ O k ≤ 72 := by omega
      exact Nat.add_le_add i (Nat.mul_le_mul f2 f5)
def ansWorth (O : Orc) (p what : Int32) : Int32 :=
  if (inR p (oP O) && inR what 2) = true then nI ((if what = 0 then gN O p.toNatClampNeg (2 ^ oP O) else facN (oP O)) / Nat.gcd (gN O p.toNatClampNeg (2 ^ oP O)) (facN (oP O))) else -1
theorem gcd_st (a b : Nat) : Nat.gcd a b = Nat.gcd b (a % b) := by rw [Nat.gcd_comm a b, Nat.gcd_rec b a, Nat.gcd_comm]
/-! the class's -/
theorem s_gcd {σ : St} {K P : Int32 → Prop} : ∀ (k a b i : Nat), b < 2 ^ k → i + 2 * k + 1 ≤ 100 → a < 2 ^ 31 → b < 2 ^ 31 → K (nI (Nat.gcd a b)) → ∃ n, wLX9_greatestDivisor_7 σ K P n (nI a) (nI b) (nI i) := by
  intro k
  have fin : ∀ a i n, i < 100 → K (nI a) → wLX9_greatestDivisor_7 σ K P (n + 1) (nI a) (nI 0) (nI i) := fun a i n hi hK => by
    rw [wLX9_greatestDivisor_7]
    exact ⟨fun c => absurd ((leI (a := 100) rfl rfl (by omega) (by omega)).mp c) (by omega), fun _ => ⟨fun _ => hK, fun c => absurd rfl c⟩⟩
  have one : ∀ a b i n, i < 100 → b ≠ 0 → a < 2 ^ 31 → b < 2 ^ 31 → wLX9_greatestDivisor_7 σ K P n (nI b) (nI (a % b)) (nI (i + 1)) → wLX9_greatestDivisor_7 σ K P (n + 1) (nI a) (nI b) (nI i) := fun a b i n hi hb ha hb2 h => by
    rw [wLX9_greatestDivisor_7]
    refine ⟨fun c => absurd ((leI (a := 100) rfl rfl (by omega) (by omega)).mp c) (by omega), fun _ => ⟨fun c => absurd c (nI_ne0 (by omega) hb2), fun c => ⟨c, fun z hz z5 hz5 => ?_⟩⟩⟩
    rw [hz, hz5, add1, pk_rem ha (by omega) hb2]
    exact h
  induction k with
  | zero =>
    intro a b i hb hi ha hb2 hK
    have e : b = 0 := by simpa using hb
    subst e
    rw [Nat.gcd_zero_right] at hK
    exact ⟨1, fin a i 0 (by omega) hK⟩
  | succ k ih =>
    intro a b i hb hi ha hb2 hK
    by_cases e : b = 0
    · subst e
      rw [Nat.gcd_zero_right] at hK
      exact ⟨1, fin a i 0 (by omega) hK⟩
    · rw [gcd_st] at hK
      have hr : a % b < b := Nat.mod_lt _ (by omega)
      by_cases e2 : a % b = 0
      · rw [e2, Nat.gcd_zero_right] at hK
        exact ⟨2, one a b i 1 (by omega) e ha hb2 (by rw [e2]; exact fin b (i + 1) 0 (by omega) hK)⟩
      · rw [gcd_st] at hK
        generalize hrr : a % b = r at hr e2 hK
        have h1 := Nat.div_add_mod b r
        have h2 : b % r < r := Nat.mod_lt _ (by omega)
        have h3 : 1 ≤ b / r := Nat.div_pos (by omega) (by omega)
        have h4 : r * 1 ≤ r * (b / r) := Nat.mul_le_mul_left r h3
        have h5 : b % r < 2 ^ k := by rw [Nat.pow_succ] at hb; omega
        obtain ⟨n, hn⟩ := ih r (b % r) (i + 1 + 1) h5 (by omega) (by omega) (by omega) hK
        exact ⟨n + 1 + 1, one a b i (n + 1) (by omega) e ha hb2 (by rw [hrr]; exact one b r (i + 1) n (by omega) e2 hb2 (by omega) hn)⟩
theorem s_grown {σ : St} {O : Orc} {p : Nat} {P : Int32 → Prop} (hk : oOk O) (hp : p < oP O) (hW : ∀ s, s < 2 ^ oP O → σ.1 33 s = nI (W_ O s)) (hP : P (nI (gN O p (2 ^ oP O)))) : wX7_grownOverOrders σ (nI p) (nI (oP O)) P := by
  have h8 := hk.1
  have p8 := pow8 h8
  unfold wX7_grownOverOrders
  rw [shl1 (by omega)]
  intro z1 h1
  subst h1
  refine ⟨2 ^ oP O + 1, ?_⟩
  have step : ∀ d k, k + d = 2 ^ oP O → wLX7_grownOverOrders_10 (nI (oP O)) (nI (2 ^ p)) σ (fun y13 => P y13) P (d + 1) (nI (gN O p k)) (nI k) := by
    intro d
    induction d with
    | zero =>
      intro k hd
      rw [wLX7_grownOverOrders_10, shl1 (by omega)]
      exact ⟨fun _ => by rw [show k = 2 ^ oP O by omega]; exact hP, fun c => absurd (nI_le (by omega) (by omega)) c⟩
    | succ d ih =>
      intro k hd
      have hk2 : k < 2 ^ oP O := by omega
      rw [wLX7_grownOverOrders_10, shl1 (by omega), and0 (by omega)]
      refine ⟨fun c => absurd c (nI_ge (by omega) (by omega)), fun _ => ⟨fun c z hz => ?_, fun c => ?_⟩⟩
      · have c := (and_pow k p).mp c
        rw [hz, add1]
        have := ih (k + 1) (by omega)
        rw [gN, if_pos c] at this
        exact this
      · have c : k.testBit p = false := by
          cases q : k.testBit p with
          | false => rfl
          | true => exact absurd c ((and_pow k p).mpr q)
        have f1 := pop_free h8 hk2 hp c
        have hor : k ||| 2 ^ p < 2 ^ oP O := Nat.or_lt_two_pow hk2 (Nat.pow_lt_pow_right (by omega) hp)
        refine s_bitCount (by omega) ⟨vp_in_nI (by omega) (by omega), ?_⟩
        rw [i1, pk_sub (by omega), pk_sub (by omega), cl (by omega), cl (by omega), fac_zT (by omega), fac_zT (by omega), pk_mul, orN, cl (by omega), cl (by omega), hW _ hk2, hW _ hor, pk_sub (W_mono hk hp k hk2 c)]
        refine ⟨vp_in_nI (by omega) (by omega), fun z8 h8 => ⟨vp_in_nI (by omega) (by omega), vp_in_nI (by omega) (by omega), fun z11 h11 z12 h12 => ?_⟩⟩
        rw [h8, pk_mul, nI_add] at h11
        rw [h11, h12, nI_add]
        have := ih (k + 1) (by omega)
        rw [gN, if_neg (by rw [c]; decide)] at this
        exact this
  exact step (2 ^ oP O) 0 (by omega)
/-! the reference's -/
theorem m_bitsIn {μ : St} {s : Nat} {P : Int32 → Prop} (hs : s < 256) (hP : P (nI (popN s))) : wX10_bitsIn μ (nI s) P := by
  have nb : ∀ b : Bool, bI b = nI b.toNat := fun b => by cases b <;> rfl
  unfold wX10_bitsIn
  refine ⟨9, ?_⟩
  have st : ∀ n k acc, k < 8 → wLX10_bitsIn_4 (nI s) μ (fun y4 => P y4) P n (nI (acc + (s.testBit k).toNat)) (nI (k + 1)) → wLX10_bitsIn_4 (nI s) μ (fun y4 => P y4) P (n + 1) (nI acc) (nI k) := fun n k acc hk h => by
    rw [wLX10_bitsIn_4, bitN (by omega) (by omega), nb, nI_add]
    refine ⟨fun c => absurd ((leI (a := 8) rfl rfl (by omega) (by omega)).mp c) (by omega), fun _ z hz z3 hz3 => ?_⟩
    rw [hz, hz3, add1]
    exact h
  have e : nI (popN s) = nI (0 + (s.testBit 0).toNat + (s.testBit 1).toNat + (s.testBit 2).toNat + (s.testBit 3).toNat + (s.testBit 4).toNat + (s.testBit 5).toNat + (s.testBit 6).toNat + (s.testBit 7).toNat) := by rw [Nat.zero_add]; rfl
  rw [e] at hP
  refine st _ 0 0 (by omega) (st _ 1 _ (by omega) (st _ 2 _ (by omega) (st _ 3 _ (by omega) (st _ 4 _ (by omega) (st _ 5 _ (by omega) (st _ 6 _ (by omega) (st _ 7 _ (by omega) ?_)))))))
  rw [wLX10_bitsIn_4]
  exact ⟨fun _ => hP, fun c => absurd (by decide) c⟩
theorem m_orders {μ : St} {n : Nat} {P : Int32 → Prop} (hn : n ≤ 8) (hP : P (nI (facN n))) : wX10_orders μ (nI n) P := by
  unfold wX10_orders
  have step : ∀ d k, k + d = n + 1 → 1 ≤ k → wLX10_orders_4 (nI n) μ (fun y4 => P y4) P (d + 1) (nI (facN (k - 1))) (nI k) := by
    intro d
    induction d with
    | zero =>
      intro k hk h1
      rw [wLX10_orders_4]
      exact ⟨fun _ => by rw [show k - 1 = n by omega]; exact hP, fun c => absurd (nI_lt (by omega) (by omega)) c⟩
    | succ d ih =>
      intro k hk h1
      rw [wLX10_orders_4]
      refine ⟨fun c => absurd c (nI_nlt (by omega) (by omega)), fun _ z hz z3 hz3 => ?_⟩
      rw [hz, hz3, add1, pk_mul]
      have := ih (k + 1) (by omega) (by omega)
      rw [show k + 1 - 1 = (k - 1) + 1 by omega, facN, show k - 1 + 1 = k by omega] at this
      exact this
  by_cases h : n = 0
  · subst h
    refine ⟨1, ?_⟩
    rw [wLX10_orders_4]
    exact ⟨fun _ => hP, fun c => absurd (by decide) c⟩
  · exact ⟨n - 1 + 1, step (n - 1) 2 (by omega) (by omega)⟩
theorem m_common {μ : St} {P : Int32 → Prop} : ∀ (b a : Nat), a < 2 ^ 31 → b < 2 ^ 31 → P (nI (Nat.gcd a b)) → wX10_common μ (nI a) (nI b) P := by
  intro b
  induction b using Nat.strongRecOn with
  | _ b ih =>
    intro a ha hb hP
    unfold wX10_common
    by_cases e : b = 0
    · subst e
      rw [Nat.gcd_zero_right] at hP
      refine ⟨1, ?_⟩
      rw [wLX10_common_4]
      exact ⟨fun _ => hP, fun c => absurd rfl c⟩
    · rw [gcd_st] at hP
      have hr : a % b < b := Nat.mod_lt _ (by omega)
      have := ih (a % b) hr b hb (by omega) hP
      unfold wX10_common at this
      obtain ⟨n, hn⟩ := this
      refine ⟨n + 1, ?_⟩
      rw [wLX10_common_4]
      refine ⟨fun c => absurd c (nI_ne0 (by omega) hb), fun c => ⟨c, fun z hz => ?_⟩⟩
      rw [hz, pk_rem ha (by omega) hb]
      exact hn
