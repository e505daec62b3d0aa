/-! the class's days -/
theorem pkN_comm (O : Orc) (N : Nw) (a b t : Nat) : pkN O N (a, b) t = pkN O N (b, a) t := by
  unfold pkN two
  show (if _ && decide (nC N &&& (2 ^ a ||| 2 ^ b) = 0) && decide (oH O t ≤ min (oL O a) (oL O b)) then min (oC O a + oC O b) (nB N t) else 0) = (if _ && decide (nC N &&& (2 ^ b ||| 2 ^ a) = 0) && decide (oH O t ≤ min (oL O b) (oL O a)) then min (oC O b + oC O a) (nB N t) else 0)
  rw [Nat.or_comm (2 ^ a), Nat.min_comm (oL O a), Nat.add_comm (oC O a)]
theorem s_indexOf {σ : St} {O : Orc} {v : Nat} {P : Int32 → Prop} (hv : v < 2 ^ 31) (hk : oOk O) (hp : prC σ O (prs O)) (hf : ∀ i q, (prs O)[i]? = some q → two q = v → P (nI i)) (hn : (∀ q, q ∈ prs O → two q ≠ v) → P (-1)) : wX4_indexOf σ (nI v) P := by
  have h8 := hk.1
  have hl := prs_len hk
  unfold wX4_indexOf
  refine ⟨(prs O).length + 1, ?_⟩
  have step : ∀ d i, i + d = (prs O).length → (∀ j q, j < i → (prs O)[j]? = some q → two q ≠ v) → wLX4_indexOf_2 (nI v) σ (P (-1)) P (d + 1) (nI i) := by
    intro d
    induction d with
    | zero =>
      intro i hi hb
      rw [wLX4_indexOf_2, hp.1]
      refine ⟨fun _ => hn (fun q hq => ?_), fun c => absurd (nI_le (by omega) (by omega)) c⟩
      obtain ⟨j, hj⟩ := List.mem_iff_getElem?.mp hq
      exact hb j q (by have := (List.getElem?_eq_some_iff.mp hj).1; omega) hj
    | succ d ih =>
      intro i hi hb
      have hil : i < (prs O).length := by omega
      obtain ⟨q, hq⟩ : ∃ q, (prs O)[i]? = some q := ⟨_, List.getElem?_eq_getElem hil⟩
      obtain ⟨a, b⟩ := q
      obtain ⟨ha, hb', -, -⟩ := prs_at hq
      have tl := two_lt (show a < 8 by omega) (show b < 8 by omega)
      rw [wLX4_indexOf_2, hp.1, cl (by omega), (hp.2 i a b hq).2.2.1]
      refine ⟨fun c => absurd c (nI_ge hil (by omega)), fun _ => ⟨vp_in_nI (by omega) (by omega), fun c z hz => ?_, fun c => hf i (a, b) hq ((eqI (a := 2 ^ a ||| 2 ^ b) (b := v) rfl rfl (by omega) hv).mp c)⟩⟩
      rw [hz, add1]
      refine ih (i + 1) (by omega) (fun j q hj hjq => ?_)
      by_cases e : j = i
      · subst e
        rw [hq] at hjq
        cases hjq
        exact fun e => c (by rw [show 2 ^ a ||| 2 ^ b = v from e])
      · exact hb j q (by omega) hjq
  exact step (prs O).length 0 (by omega) (fun j q hj => absurd hj (Nat.not_lt_zero j))
theorem s_areTwo {σ : St} {O : Orc} {a b : Int32} {P : Int32 → Prop} (hc : cor σ O) (hk : oOk O) (hP : P (bI (inR a (oP O) && inR b (oP O) && decide (a ≠ b)))) : wX9_areTwo σ a b P := by
  unfold wX9_areTwo
  refine ⟨hc.1, s_hasHalf hc.1 hc.2.1.1 hk.1 (br_b (fun q => ?_) (fun q => s_hasHalf hc.1 hc.2.1.1 hk.1 (br_b (fun q2 => ?_) (fun q2 => ⟨fun c => ?_, fun c => ?_⟩))))⟩
  · rw [q] at hP; exact hP
  · rw [q2, Bool.and_false] at hP; exact hP
  · rw [q, q2, show decide (a ≠ b) = false by simp [c]] at hP; exact hP
  · rw [q, q2, show decide (a ≠ b) = true by simp [c]] at hP; exact hP
theorem s_climb9 {σ : St} {O : Orc} {N : Nw} {a b t : Int32} {P : Int32 → St → Prop} (hc : cor σ O) (hk : oOk O) (hN : nwC σ 65 (oT O) N) (hNk : nOk (oT O) N) (hP : ∀ σ', frC [65, 66] σ σ' → nwC σ' 65 (oT O) (nwClimb O N a b t) → P (ansClimb O N a b t) σ') : wX9_climb σ a b t P := by
  have h8 := hk.1
  have h5 := hk.2.1
  have hl := prs_len hk
  have bad : cl3 O a b t = false → P (-1) σ := fun h => by
    have := hP σ frC.rf
    unfold nwClimb ansClimb at this
    rw [if_neg (by rw [h]; decide), if_neg (by rw [h]; decide)] at this
    exact this hN
  unfold wX9_climb
  refine s_areTwo hc hk (br_b (fun q => bad (by unfold cl3; rw [q]; rfl)) (fun q => ⟨hc.1, s_hasTree hc.1 hc.2.1.2.1 (by omega) ?_⟩))
  refine (br_b (fun qt => bad (by unfold cl3; rw [qt]; simp)) (fun qt => ?_) |> fun h => ⟨fun c => h.2 c, fun c => h.1 c⟩)
  have good : cl3 O a b t = true := by unfold cl3; rw [q, qt]; rfl
  simp only [Bool.and_eq_true, decide_eq_true_eq] at q
  obtain ⟨⟨qa, qb⟩, qn⟩ := q
  obtain ⟨a, ha, rfl⟩ := inR_t qa (by omega)
  obtain ⟨b, hb, rfl⟩ := inR_t qb (by omega)
  obtain ⟨t, ht, rfl⟩ := inR_t qt (by omega)
  have nab : a ≠ b := fun e => qn (by rw [e])
  have tl := two_lt (show a < 8 by omega) (show b < 8 by omega)
  unfold nwClimb ansClimb at hP
  rw [if_pos good, if_pos good, cl (n := a) (by omega), cl (n := b) (by omega), cl (n := t) (by omega)] at hP
  rw [shl1 (k := a) (by omega), shl1 (k := b) (by omega), orN]
  refine s_indexOf (by omega) hk hc.2.2.1 (fun i q hi he => ?_) (fun hne => ?_)
  · obtain ⟨c, d⟩ := q
    obtain ⟨hcP, hdP, hs, hf⟩ := prs_at hi
    have hil : i < (prs O).length := (List.getElem?_eq_some_iff.mp hi).1
    have ncd : c ≠ d := fun e => by rw [e] at hf; exact oF_side hf rfl
    have same : oF O a b = true ∧ pkN O N (c, d) t = pkN O N (a, b) t := by
      rcases two_inj (show c < 8 by omega) (show d < 8 by omega) (show a < 8 by omega) (show b < 8 by omega) ncd he with ⟨rfl, rfl⟩ | ⟨rfl, rfl⟩
      · exact ⟨hf, rfl⟩
      · exact ⟨by rw [oF_comm hk ha hb]; exact hf, pkN_comm O N _ _ t⟩
    refine ⟨fun _ => s_pickable isN_65 hc.1 hc.2.1 hk hc.2.2.1 hN hNk hi ht ?_, fun c => absurd ((leI (a := 0) (b := i) rfl rfl (by omega) (by omega)).mpr (Nat.zero_le _)) c⟩
    rw [same.2]
    have pl := pkN_le hk (N := N) (t := t) ha hb
    refine ⟨fun c0 => ?_, fun c0 => ?_⟩
    · have c0 : 0 < pkN O N (a, b) t := Nat.pos_of_ne_zero (fun q => c0 (by rw [q]; rfl))
      unfold climbOk at hP
      rw [if_pos (by rw [same.1, decide_eq_true c0]; rfl), if_pos (by rw [same.1, decide_eq_true c0]; rfl)] at hP
      rw [cl (by omega), (hc.2.2.1.2 i c d hi).2.2.1]
      refine ⟨vp_in_nI (by omega) (by omega), ?_⟩
      rw [show 2 ^ c ||| 2 ^ d = two (a, b) from he]
      have bl : pkN O N (a, b) t ≤ nB N t := pkN_left O N (a, b) t
      exact s_pick isN_65 h5 hN ht bl (fun σ' hf' h' => hP σ' hf' h')
    · have c0 : pkN O N (a, b) t = 0 := (eqI rfl (b := 0) rfl (by omega) (by omega)).mp c0
      have := hP σ frC.rf
      unfold climbOk at this
      rw [if_neg (by rw [c0]; simp), if_neg (by rw [c0]; simp)] at this
      exact this hN
  · refine ⟨fun c => absurd c (by decide), fun _ => ?_⟩
    have f : oF O a b = false := by
      cases f : oF O a b with
      | false => rfl
      | true =>
        have sa := (hk.2.2.1 a ha).1
        have sb := (hk.2.2.1 b hb).1
        have sd := oF_side f
        by_cases s0 : oS O a = 0
        · exact absurd rfl (hne (a, b) (prs_mem.mpr ⟨ha, hb, s0, f⟩))
        · refine absurd ?_ (hne (b, a) (prs_mem.mpr ⟨hb, ha, by omega, by rw [oF_comm hk hb ha]; exact f⟩))
          exact Nat.or_comm _ _
    have := hP σ frC.rf
    unfold climbOk at this
    rw [if_neg (by rw [f]; simp), if_neg (by rw [f]; simp)] at this
    exact this hN
theorem s_ends9 {σ : St} {O : Orc} {N : Nw} {P : Int32 → St → Prop} (hc : cor σ O) (hk : oOk O) (hN : nwC σ 65 (oT O) N) (hd : nD N ≤ 30) (hP : ∀ σ', frC [65, 66] σ σ' → nwC σ' 65 (oT O) (nwEnds O N) → P (ansEnds O N) σ') : wX9_ends σ P := by
  unfold wX9_ends
  rw [hN.1]
  unfold nwEnds ansEnds at hP
  refine ⟨fun c => ⟨hc.1, ?_⟩, fun c => ?_⟩
  · have c := (ltI rfl (b := 30) rfl (by omega) (by omega)).mp c
    rw [if_neg (by omega), if_neg (by omega)] at hP
    exact s_endDay isN_65 hc.1 hc.2.1 hk hN (by omega) (fun σ' hf h => hP σ' hf h)
  · have c : ¬ nD N < 30 := fun q => c ((ltI rfl (b := 30) rfl (by omega) (by omega)).mpr q)
    rw [if_pos (by omega), if_pos (by omega)] at hP
    exact hP σ frC.rf hN
theorem s_now9 {σ : St} {O : Orc} {N : Nw} {what : Int32} {P : Int32 → Prop} (hc : cor σ O) (hk : oOk O) (hN : nwC σ 65 (oT O) N) (hP : P (ansNow O N what)) : wX9_now σ what P := by
  have hN' := hN
  obtain ⟨a0, a1, a2, a3, a4, a5, a6⟩ := hN
  unfold wX9_now
  unfold ansNow at hP
  rw [a0, a1, a3, a4]
  refine ⟨fun c => ?_, fun c0 => ⟨fun c => ?_, fun c1 => ⟨fun c => ?_, fun c2 => ⟨fun c => ⟨hc.1, s_leftOnAll isN_65 hc.1 hc.2.1 hk hN' ?_⟩, fun c3 => ⟨fun c => ?_, fun c4 => ?_⟩⟩⟩⟩⟩
  · rw [if_pos c] at hP; exact hP
  · rw [if_neg c0, if_pos c] at hP; exact hP
  · rw [if_neg c0, if_neg c1, if_pos c] at hP; exact hP
  · rw [if_neg c0, if_neg c1, if_neg c2, if_pos c] at hP; exact hP
  · rw [if_neg c0, if_neg c1, if_neg c2, if_neg c3, if_pos c] at hP; exact hP
  · rw [if_neg c0, if_neg c1, if_neg c2, if_neg c3, if_neg c4] at hP; exact hP
theorem s_year9 {σ : St} {O : Orc} {N : Nw} {P : Int32 → St → Prop} (hc : cor σ O) (hk : oOk O) (hN : nwC σ 65 (oT O) N) (hP : ∀ σ', frC [65, 66] σ σ' → nwC σ' 65 (oT O) (nBlo O (nBeg N)) → P (ansYear O N) σ') : wX9_year σ P := by
  unfold wX9_year
  refine s_begin isN_65 hN (fun σ1 hf1 N1 => ?_)
  have c1 := cor_fr hc hf1 (by decide)
  refine ⟨c1.1, s_blossom isN_65 c1.1 c1.2.1 hk N1 (fun σ3 hf3 N3 => ?_)⟩
  have c3 := cor_fr c1 hf3 (by decide)
  exact ⟨c3.1, s_leftOnAll isN_65 c3.1 c3.2.1 hk N3 (hP σ3 (hf1.tr hf3) N3)⟩
theorem s_lot9 {σ : St} {T : Nat} {N : Nw} {v : Int32} {P : Int32 → St → Prop} (hN : nwC σ 65 T N) (hP : ∀ σ', frC [65, 66] σ σ' → nwC σ' 65 T (nD N, nC N, nK N, nP N, nF N, v, nB N) → P (nL N) σ') : wX9_lot σ v P := by
  obtain ⟨a0, a1, a2, a3, a4, a5, a6⟩ := hN
  unfold wX9_lot
  rw [a5]
  intro z1 h1 σ2 h2
  rw [h1]
  refine hP σ2 (by rw [h2]; exact frC.rf.wr (by decide)) ?_
  have e : ∀ j, σ2.1 65 j = if j = 5 then v else σ.1 65 j := fun j => by rw [h2, sI_get]; simp
  exact ⟨by rw [e]; exact a0, by rw [e]; exact a1, by rw [e]; exact a2, by rw [e]; exact a3, by rw [e]; exact a4, by rw [e]; rfl, fun t ht => by rw [h2, sI_ne (by decide)]; exact a6 t ht⟩
/-! what was told -/
def ansHalf (O : Orc) (N : Nw) (p what : Int32) : Int32 := if inR p (oP O) = true then (if what = 0 then nI (oS O p.toNatClampNeg) else if what = 1 then nI (oG O p.toNatClampNeg) else if what = 2 then nI (oL O p.toNatClampNeg) else if what = 3 then nI (oC O p.toNatClampNeg) else if what = 4 then bI ((nC N).testBit p.toNatClampNeg) else -1) else -1
def ansTree (O : Orc) (N : Nw) (t what : Int32) : Int32 := if inR t (oT O) = true then (if what = 0 then nI (oH O t.toNatClampNeg) else if what = 1 then nI (oR O t.toNatClampNeg) else if what = 2 then nI (oB O t.toNatClampNeg) else if what = 3 then nI (nB N t.toNatClampNeg) else if what = 4 then bI ((nK N).testBit t.toNatClampNeg) else -1) else -1
def ansFit (O : Orc) (a b : Int32) : Int32 := if (inR a (oP O) && inR b (oP O) && decide (a ≠ b)) = true then bI (oF O a.toNatClampNeg b.toNatClampNeg) else -1
theorem s_half9 {σ : St} {O : Orc} {N : Nw} {p what : Int32} {P : Int32 → Prop} (hc : cor σ O) (hk : oOk O) (hN : nwC σ 65 (oT O) N) (hNk : nOk (oT O) N) (hP : P (ansHalf O N p what)) : wX9_half σ p what P := by
  have h8 := hk.1
  unfold ansHalf at hP
  unfold wX9_half
  refine ⟨hc.1, s_hasHalf hc.1 hc.2.1.1 hk.1 ((br_b (fun q => ?_) (fun q => ?_)) |> fun h => ⟨fun c => h.2 c, fun c => h.1 c⟩)⟩
  · rw [if_neg (by rw [q]; decide)] at hP; exact hP
  · rw [if_pos q] at hP
    obtain ⟨p, hp, rfl⟩ := inR_t q (by omega)
    obtain ⟨A1, A2, A3, A4, A5⟩ := hc.2.1.2.2.1 p hp
    have c8 := hNk.2.1
    rw [cl (by omega)] at hP ⊢
    rw [A1, A2, A3, A4, hN.2.1, bitN (by omega) (by omega)]
    have v8 : vp_in (nI p) 8 := vp_in_nI (by omega) (by omega)
    refine ⟨fun c => ⟨v8, ?_⟩, fun c0 => ⟨fun c => ⟨v8, ?_⟩, fun c1 => ⟨fun c => ⟨v8, ?_⟩, fun c2 => ⟨fun c => ⟨v8, ?_⟩, fun c3 => ⟨fun c => ?_, fun c4 => ?_⟩⟩⟩⟩⟩
    · rw [if_pos c] at hP; exact hP
    · rw [if_neg c0, if_pos c] at hP; exact hP
    · rw [if_neg c0, if_neg c1, if_pos c] at hP; exact hP
    · rw [if_neg c0, if_neg c1, if_neg c2, if_pos c] at hP; exact hP
    · rw [if_neg c0, if_neg c1, if_neg c2, if_neg c3, if_pos c] at hP; exact hP
    · rw [if_neg c0, if_neg c1, if_neg c2, if_neg c3, if_neg c4] at hP; exact hP
theorem s_tree9 {σ : St} {O : Orc} {N : Nw} {t what : Int32} {P : Int32 → Prop} (hc : cor σ O) (hk : oOk O) (hN : nwC σ 65 (oT O) N) (hNk : nOk (oT O) N) (hP : P (ansTree O N t what)) : wX9_tree σ t what P := by
  have h5 := hk.2.1
  unfold ansTree at hP
  unfold wX9_tree
  refine ⟨hc.1, s_hasTree hc.1 hc.2.1.2.1 (by omega) ((br_b (fun q => ?_) (fun q => ?_)) |> fun h => ⟨fun c => h.2 c, fun c => h.1 c⟩)⟩
  · rw [if_neg (by rw [q]; decide)] at hP; exact hP
  · rw [if_pos q] at hP
    obtain ⟨t, ht, rfl⟩ := inR_t q (by omega)
    obtain ⟨A1, A2, A3⟩ := hc.2.1.2.2.2 t ht
    have c8 := hNk.2.2.1
    rw [cl (by omega)] at hP ⊢
    rw [A1, A2, A3, hN.2.2.1, hN.2.2.2.2.2.2 t ht, bitN (by omega) (by omega)]
    have v5 : vp_in (nI t) 5 := vp_in_nI (by omega) (by omega)
    refine ⟨fun c => ⟨v5, ?_⟩, fun c0 => ⟨fun c => ⟨v5, ?_⟩, fun c1 => ⟨fun c => ⟨v5, ?_⟩, fun c2 => ⟨fun c => ⟨v5, ?_⟩, fun c3 => ⟨fun c => ?_, fun c4 => ?_⟩⟩⟩⟩⟩
    · rw [if_pos c] at hP; exact hP
    · rw [if_neg c0, if_pos c] at hP; exact hP
    · rw [if_neg c0, if_neg c1, if_pos c] at hP; exact hP
    · rw [if_neg c0, if_neg c1, if_neg c2, if_pos c] at hP; exact hP
    · rw [if_neg c0, if_neg c1, if_neg c2, if_neg c3, if_pos c] at hP; exact hP
    · rw [if_neg c0, if_neg c1, if_neg c2, if_neg c3, if_neg c4] at hP; exact hP
theorem s_fit9 {σ : St} {O : Orc} {a b : Int32} {P : Int32 → Prop} (hc : cor σ O) (hk : oOk O) (hP : P (ansFit O a b)) : wX9_fit σ a b P := by
  have h8 := hk.1
  unfold ansFit at hP
  unfold wX9_fit
  refine s_areTwo hc hk ((br_b (fun q => ?_) (fun q => ⟨hc.1, ?_⟩)) |> fun h => ⟨fun c => h.2 c, fun c => h.1 c⟩)
  · rw [if_neg (by rw [q]; decide)] at hP; exact hP
  · rw [if_pos q] at hP
    simp only [Bool.and_eq_true] at q
    obtain ⟨a, ha, rfl⟩ := inR_t q.1.1 (by omega)
    obtain ⟨b, hb, rfl⟩ := inR_t q.1.2 (by omega)
    rw [cl (by omega), cl (by omega)] at hP
    refine s_fits hc.1 hc.2.1 hk ha hb (br_b (fun q => ?_) (fun q => ?_))
    · rw [q] at hP; exact hP
    · rw [q] at hP; exact hP
theorem w04 {x : Int32} (h : (decide (0 ≤ x.toInt) && decide (x.toInt ≤ 4)) = false) : ¬ x = 0 ∧ ¬ x = 1 ∧ ¬ x = 2 ∧ ¬ x = 3 ∧ ¬ x = 4 := by
  refine ⟨?_, ?_, ?_, ?_, ?_⟩ <;> rintro rfl <;> revert h <;> decide
theorem w04' {x : Int32} (h : (decide (0 ≤ x.toInt) && decide (x.toInt ≤ 4)) = true) (c0 : ¬ x = 0) (c1 : ¬ x = 1) (c2 : ¬ x = 2) (c3 : ¬ x = 3) : x = 4 := by
  simp only [Bool.and_eq_true, decide_eq_true_eq] at h
  obtain ⟨j, hj, rfl⟩ := inR_t (x := x) (n := 5) (by simp [inR]; omega) (by omega)
  have : j = 0 ∨ j = 1 ∨ j = 2 ∨ j = 3 ∨ j = 4 := by omega
  rcases this with rfl | rfl | rfl | rfl | rfl
  · exact absurd rfl c0
  · exact absurd rfl c1
  · exact absurd rfl c2
  · exact absurd rfl c3
  · rfl
theorem m_half10 {μ : St} {O : Orc} {N : Nw} {p what : Int32} {P : Int32 → Prop} (hM : orM μ O) (hk : oOk O) (hN : nwM μ 0 (oT O) N) (hNk : nOk (oT O) N) (hP : P (ansHalf O N p what)) : wX10_half μ p what P := by
  have h8 := hk.1
  unfold ansHalf at hP
  unfold wX10_half
  refine m_isOne hM hk (br_b (fun q => ?_) (fun q => m_inL (a := 0) (b := 4) (by omega) (by omega) ((br_b (fun r => ?_) (fun r => ?_)) |> fun h => ⟨fun c => h.2 c, fun c => h.1 c⟩)))
  · rw [if_neg (by rw [q]; decide)] at hP; exact hP
  · obtain ⟨c0, c1, c2, c3, c4⟩ := w04 r
    rw [if_pos q, if_neg c0, if_neg c1, if_neg c2, if_neg c3, if_neg c4] at hP; exact hP
  · rw [if_pos q] at hP
    obtain ⟨p, hp, rfl⟩ := inR_t q (by omega)
    obtain ⟨A1, A2, A3, A4⟩ := hM.2.2.1 p hp
    have c8 := hNk.2.1
    have e3 : μ.1 12 3 = nI (nC N) := hN.2.2.2.1
    rw [cl (by omega)] at hP ⊢
    rw [A1, A2, A3, A4, show (3 : Int32).toNatClampNeg = 3 from rfl, e3, bitN (by omega) (by omega)]
    have v8 : vp_in (nI p) 16 := vp_in_nI (by omega) (by omega)
    refine ⟨fun c0 => ⟨fun c1 => ⟨fun c2 => ⟨fun c3 => ⟨inI (a := 3) rfl (by omega) (by omega), ?_⟩, fun c3 => ⟨v8, ?_⟩⟩, fun c2 => ⟨v8, ?_⟩⟩, fun c1 => ⟨v8, ?_⟩⟩, fun c0 => ⟨v8, ?_⟩⟩
    · rw [if_neg c0, if_neg c1, if_neg c2, if_neg c3, if_pos (w04' r c0 c1 c2 c3)] at hP; exact hP
    · rw [if_neg c0, if_neg c1, if_neg c2, if_pos c3] at hP; exact hP
    · rw [if_neg c0, if_neg c1, if_pos c2] at hP; exact hP
    · rw [if_neg c0, if_pos c1] at hP; exact hP
    · rw [if_pos c0] at hP; exact hP
theorem m_tree10 {μ : St} {O : Orc} {N : Nw} {t what : Int32} {P : Int32 → Prop} (hM : orM μ O) (hk : oOk O) (hN : nwM μ 0 (oT O) N) (hNk : nOk (oT O) N) (hP : P (ansTree O N t what)) : wX10_tree μ t what P := by
  have h5 := hk.2.1
  unfold ansTree at hP
  unfold wX10_tree
  refine m_isTree hM hk (br_b (fun q => ?_) (fun q => m_inL (a := 0) (b := 4) (by omega) (by omega) ((br_b (fun r => ?_) (fun r => ?_)) |> fun h => ⟨fun c => h.2 c, fun c => h.1 c⟩)))
  · rw [if_neg (by rw [q]; decide)] at hP; exact hP
  · obtain ⟨c0, c1, c2, c3, c4⟩ := w04 r
    rw [if_pos q, if_neg c0, if_neg c1, if_neg c2, if_neg c3, if_neg c4] at hP; exact hP
  · rw [if_pos q] at hP
    obtain ⟨t, ht, rfl⟩ := inR_t q (by omega)
    obtain ⟨A1, A2, A3⟩ := hM.2.2.2.2 t ht
    have c8 := hNk.2.2.1
    have e4 : μ.1 12 4 = nI (nK N) := hN.2.2.2.2.1
    have e6 : μ.1 12 (6 + t) = nI (nB N t) := by have := hN.2.2.2.2.2.2 t ht; rw [Nat.zero_add] at this; exact this
    rw [cl (by omega)] at hP
    rw [show (6 : Int32) = nI 6 from rfl, nI_add, cl (n := t) (by omega), cl (n := 6 + t) (by omega), A1, A2, A3, show (4 : Int32).toNatClampNeg = 4 from rfl, e4, e6, bitN (by omega) (by omega)]
    have v10 : vp_in (nI t) 10 := vp_in_nI (by omega) (by omega)
    refine ⟨fun c0 => ⟨fun c1 => ⟨fun c2 => ⟨fun c3 => ⟨inI (a := 4) rfl (by omega) (by omega), ?_⟩, fun c3 => ⟨vp_in_nI (by omega) (by omega), ?_⟩⟩, fun c2 => ⟨v10, ?_⟩⟩, fun c1 => ⟨v10, ?_⟩⟩, fun c0 => ⟨v10, ?_⟩⟩
    · rw [if_neg c0, if_neg c1, if_neg c2, if_neg c3, if_pos (w04' r c0 c1 c2 c3)] at hP; exact hP
    · rw [if_neg c0, if_neg c1, if_neg c2, if_pos c3] at hP; exact hP
    · rw [if_neg c0, if_neg c1, if_pos c2] at hP; exact hP
    · rw [if_neg c0, if_pos c1] at hP; exact hP
    · rw [if_pos c0] at hP; exact hP
theorem m_fit10 {μ : St} {O : Orc} {a b : Int32} {P : Int32 → Prop} (hM : orM μ O) (hk : oOk O) (hP : P (ansFit O a b)) : wX10_fit μ a b P := by
  have h8 := hk.1
  unfold ansFit at hP
  unfold wX10_fit
  refine m_isOne hM hk (br_b (fun q => ?_) (fun qa => m_isOne hM hk (br_b (fun q => ?_) (fun qb => ⟨fun c => ?_, fun c => ?_⟩))))
  · rw [if_neg (by rw [q]; simp)] at hP; exact hP
  · rw [if_neg (by rw [q]; simp)] at hP; exact hP
  · rw [if_neg (by simp [c])] at hP; exact hP
  · rw [if_pos (by rw [qa, qb]; simp [c])] at hP
    obtain ⟨a, ha, rfl⟩ := inR_t qa (by omega)
    obtain ⟨b, hb, rfl⟩ := inR_t qb (by omega)
    rw [cl (by omega), cl (by omega)] at hP
    refine m_fits hM hk ha hb (br_b (fun q => ?_) (fun q => ?_))
    · rw [q] at hP; exact hP
    · rw [q] at hP; exact hP
