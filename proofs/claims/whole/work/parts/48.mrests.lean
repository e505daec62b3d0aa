/-! the reference's rests: codes and pairs -/
def cnt1 (O : Orc) : Nat → Nat
  | 0 => 0
  | n + 1 => cnt1 O n + oS O n
theorem cnt1_mono (O : Orc) {a b : Nat} (h : a ≤ b) : cnt1 O a ≤ cnt1 O b := by
  induction h with
  | refl => exact Nat.le_refl _
  | step _ ih => rw [cnt1]; omega
theorem cnt1_le {O : Orc} (hk : oOk O) : ∀ n, n ≤ oP O → cnt1 O n ≤ n := by
  intro n
  induction n with
  | zero => intro _; exact Nat.le_refl _
  | succ n ih =>
    intro h
    have := ih (by omega)
    have := (hk.2.2.1 n (by omega)).1
    rw [cnt1]; omega
def rgF (O : Orc) (k : Nat) : Nat → Nat
  | 0 => 0
  | n + 1 => if oS O n = 1 ∧ cnt1 O (n + 1) = k then n else rgF O k n
theorem rgF_eq {O : Orc} {k q : Nat} : ∀ n, q < n → oS O q = 1 → cnt1 O (q + 1) = k → rgF O k n = q := by
  intro n
  induction n with
  | zero => intro h; omega
  | succ n ih =>
    intro h hs hc
    rw [rgF]
    by_cases e : q = n
    · subst e; rw [if_pos ⟨hs, hc⟩]
    · have := cnt1_mono O (show q + 1 ≤ n by omega)
      rw [if_neg (by
        rintro ⟨s1, c1⟩
        rw [cnt1, s1] at c1
        omega)]
      exact ih (by omega) hs hc
def rgt (O : Orc) (k : Nat) : Nat := rgF O k (oP O)
/-- sums over lists and stretches -/
theorem sumT_congr {f g : Nat → Nat} : ∀ n, (∀ i, i < n → f i = g i) → sumT f n = sumT g n := by
  intro n
  induction n with
  | zero => intro _; rfl
  | succ n ih => intro h; rw [sumT, sumT, ih (fun i hi => h i (by omega)), h n (by omega)]
theorem sumT_add (f g : Nat → Nat) : ∀ n, sumT (fun i => f i + g i) n = sumT f n + sumT g n := by
  intro n
  induction n with
  | zero => rfl
  | succ n ih => rw [sumT, sumT, sumT, ih]; omega
theorem sumT_zero : ∀ n, sumT (fun _ => 0) n = 0 := by
  intro n
  induction n with
  | zero => rfl
  | succ n ih => rw [sumT, ih]
theorem sumT_app (f : Nat → Nat) (a : Nat) : ∀ b, sumT f (a + b) = sumT f a + sumT (fun i => f (a + i)) b := by
  intro b
  induction b with
  | zero => rfl
  | succ b ih => rw [← Nat.add_assoc, sumT, sumT, ih]; omega
theorem sumT_dm (f : Nat → Nat → Nat) {m : Nat} (hm : 0 < m) : ∀ M, sumT (fun c => f (c % m) (c / m)) (m * M) = sumT (fun k => sumT (fun c => f k c) M) m := by
  intro M
  induction M with
  | zero => rw [Nat.mul_zero]; exact (sumT_zero m).symm
  | succ M ih =>
    rw [Nat.mul_succ, sumT_app, ih]
    rw [sumT_congr (f := fun k => sumT (fun c => f k c) (M + 1)) (g := fun k => sumT (fun c => f k c) M + f k M) m (fun i _ => rfl), sumT_add]
    congr 1
    refine sumT_congr m (fun i hi => ?_)
    have e1 : (m * M + i) % m = i := by rw [Nat.mul_add_mod]; exact Nat.mod_eq_of_lt hi
    have e2 : (m * M + i) / m = M := by rw [Nat.mul_add_div hm, Nat.div_eq_of_lt hi, Nat.add_zero]
    rw [e1, e2]
/-- over the how-manieth right one, over all of them -/
theorem sum_rgt {O : Orc} (hk : oOk O) (A : Nat) (H : Nat → Nat) : ∀ n, n ≤ oP O → sumT (fun k => if k = 0 then A else H (rgt O k)) (cnt1 O n + 1) = A + sumT (fun q => if oS O q = 1 then H q else 0) n := by
  intro n
  induction n with
  | zero => intro _; show 0 + A = A + 0; omega
  | succ n ih =>
    intro h
    have ih := ih (by omega)
    have s := (hk.2.2.1 n (by omega)).1
    rw [cnt1, sumT.eq_2 (fun q => if oS O q = 1 then H q else 0)]
    by_cases e : oS O n = 1
    · rw [if_pos e, e, sumT, ih, if_neg (by omega)]
      have : rgt O (cnt1 O n + 1) = n := rgF_eq (oP O) (by omega) e (by rw [cnt1, e])
      rw [this]; omega
    · rw [show oS O n = 0 by omega, if_neg (by omega), Nat.add_zero, Nat.add_zero]; exact ih
/-! the list of pairs, from one left on -/
def plB (O : Orc) : Nat → List (Nat × Nat)
  | 0 => []
  | e + 1 => (if oS O (oP O - (e + 1)) = 0 then plR O (oP O - (e + 1)) (oP O) else []) ++ plB O e
theorem plAB (O : Orc) : ∀ e, e ≤ oP O → plA O (oP O - e) ++ plB O e = prs O := by
  intro e
  induction e with
  | zero => intro _; rw [plB, List.append_nil]; rfl
  | succ e ih =>
    intro h
    have := ih (by omega)
    rw [show oP O - e = oP O - (e + 1) + 1 by omega, plA_s] at this
    rw [plB, ← List.append_assoc]
    exact this
theorem plB_all (O : Orc) : plB O (oP O) = prs O := by
  have := plAB O (oP O) (Nat.le_refl _)
  rw [Nat.sub_self] at this
  exact this
theorem RsL_skip {O : Orc} {p : Nat} {W : Nat → Option Nat} (hW : W p ≠ none) (l : List (Nat × Nat)) : ∀ L : List (Nat × Nat), (∀ q, q ∈ L → q.1 = p) → RsL O (L ++ l) W = RsL O l W := by
  intro L
  induction L with
  | nil => intro _; rfl
  | cons q L ih =>
    intro h
    rw [List.cons_append, RsL, ih (fun x hx => h x (List.mem_cons_of_mem _ hx)), if_neg (by
      rw [h q List.mem_cons_self]
      exact fun c => hW c.1)]
    rfl
theorem RsL_row {O : Orc} {p : Nat} {W : Nat → Option Nat} (hW : W p = none) (l : List (Nat × Nat)) : ∀ L : List (Nat × Nat), (∀ q, q ∈ L → q.1 = p) → RsL O (L ++ l) W = RsL O l W + (L.map (fun q => if W q.2 = none then RsL O l (wPut W p q.2) else 0)).sum := by
  intro L
  induction L with
  | nil => intro _; rfl
  | cons q L ih =>
    intro h
    have hq := h q List.mem_cons_self
    rw [List.cons_append, RsL, ih (fun x hx => h x (List.mem_cons_of_mem _ hx)), List.map_cons, List.sum_cons, hq]
    by_cases c : W q.2 = none
    · rw [if_pos ⟨hW, c⟩, if_pos c, RsL_skip (p := p) (W := wPut W p q.2) (by unfold wPut; rw [if_pos rfl]; intro h; cases h) l L (fun x hx => h x (List.mem_cons_of_mem _ hx))]
      omega
    · rw [if_neg (fun x => c x.2), if_neg c]; omega
theorem sum_plR (O : Orc) (p : Nat) (f : Nat → Nat) : ∀ j, ((plR O p j).map (fun q => f q.2)).sum = sumT (fun q => if oF O p q = true then f q else 0) j := by
  intro j
  induction j with
  | zero => rfl
  | succ j ih =>
    rw [plR_s, List.map_append, List.sum_append, ih, sumT]
    by_cases h : oF O p j = true
    · rw [if_pos h, if_pos h]; simp
    · rw [if_neg h, if_neg h]; rfl
def PW (O : Orc) (r : Nat) : Nat → Nat → (Nat → Option Nat) → Option (Nat → Option Nat)
  | 0, _, W => some W
  | e + 1, c, W => if oS O (oP O - (e + 1)) = 0 then
      (if c % (r + 1) = 0 then PW O r e (c / (r + 1)) W else if oF O (oP O - (e + 1)) (rgt O (c % (r + 1))) = true ∧ W (rgt O (c % (r + 1))) = none then PW O r e (c / (r + 1)) (wPut W (oP O - (e + 1)) (rgt O (c % (r + 1)))) else none)
    else PW O r e c W
def vP (O : Orc) (o : Option (Nat → Option Nat)) : Nat := match o with
  | none => 0
  | some W => (rstB O W).toNat
def cdN (O : Orc) (r : Nat) : Nat → Nat
  | 0 => 1
  | e + 1 => if oS O (oP O - (e + 1)) = 0 then (r + 1) * cdN O r e else cdN O r e
def cOne (O : Orc) (e : Nat) (W : Nat → Option Nat) (k c' : Nat) : Nat := if k = 0 then vP O (PW O (cnt1 O (oP O)) e c' W) else if oF O (oP O - (e + 1)) (rgt O k) = true ∧ W (rgt O k) = none then vP O (PW O (cnt1 O (oP O)) e c' (wPut W (oP O - (e + 1)) (rgt O k))) else 0
theorem sum_codes {O : Orc} (hk : oOk O) : ∀ e, e ≤ oP O → ∀ W, (∀ x, oP O - e ≤ x → oS O x = 0 → W x = none) → sumT (fun c => vP O (PW O (cnt1 O (oP O)) e c W)) (cdN O (cnt1 O (oP O)) e) = RsL O (plB O e) W := by
  intro e
  induction e with
  | zero => intro _ W _; show 0 + (rstB O W).toNat = (rstB O W).toNat; omega
  | succ e ih =>
    intro he W hW
    have ih := ih (by omega)
    rw [cdN, plB]
    by_cases s : oS O (oP O - (e + 1)) = 0
    · rw [if_pos s, if_pos s]
      have wp := hW (oP O - (e + 1)) (Nat.le_refl _) s
      have hrow : ∀ q, q ∈ plR O (oP O - (e + 1)) (oP O) → q.1 = oP O - (e + 1) := fun q hq => by
        unfold plR at hq
        obtain ⟨y, -, rfl⟩ := List.mem_map.mp hq
        rfl
      rw [RsL_row wp (plB O e) _ hrow, sum_plR O (oP O - (e + 1)) (fun q => if W q = none then RsL O (plB O e) (wPut W (oP O - (e + 1)) q) else 0)]
      have e1 : (fun c => vP O (PW O (cnt1 O (oP O)) (e + 1) c W)) = (fun c => cOne O e W (c % (cnt1 O (oP O) + 1)) (c / (cnt1 O (oP O) + 1))) := by
        funext c
        show vP O (PW O (cnt1 O (oP O)) (e + 1) c W) = _
        rw [PW, if_pos s]
        by_cases k0 : c % (cnt1 O (oP O) + 1) = 0
        · rw [if_pos k0]
          show _ = (if c % (cnt1 O (oP O) + 1) = 0 then _ else _)
          rw [if_pos k0]
        · rw [if_neg k0]
          show _ = (if c % (cnt1 O (oP O) + 1) = 0 then _ else _)
          rw [if_neg k0]
          split
          · rfl
          · rfl
      rw [e1, sumT_dm (cOne O e W) (show 0 < cnt1 O (oP O) + 1 by omega)]
      have e2 : ∀ k, sumT (fun c' => cOne O e W k c') (cdN O (cnt1 O (oP O)) e) = (if k = 0 then RsL O (plB O e) W else (fun q => if oF O (oP O - (e + 1)) q = true ∧ W q = none then RsL O (plB O e) (wPut W (oP O - (e + 1)) q) else 0) (rgt O k)) := fun k => by
        by_cases k0 : k = 0
        · rw [if_pos k0, ← ih W (fun x hx hs => hW x (by omega) hs)]
          refine sumT_congr _ (fun i _ => ?_)
          show (if k = 0 then _ else _) = _
          rw [if_pos k0]
        · rw [if_neg k0]
          show _ = (if oF O (oP O - (e + 1)) (rgt O k) = true ∧ W (rgt O k) = none then RsL O (plB O e) (wPut W (oP O - (e + 1)) (rgt O k)) else 0)
          by_cases g : oF O (oP O - (e + 1)) (rgt O k) = true ∧ W (rgt O k) = none
          · rw [if_pos g, ← ih (wPut W (oP O - (e + 1)) (rgt O k)) (fun x hx hs => by
              have sd := oF_side g.1
              unfold wPut
              rw [if_neg (by omega), if_neg (fun y => sd (by rw [s, ← y, hs]))]
              exact hW x (by omega) hs)]
            refine sumT_congr _ (fun i _ => ?_)
            show (if k = 0 then _ else _) = _
            rw [if_neg k0, if_pos g]
          · rw [if_neg g]
            refine Eq.trans (sumT_congr _ (fun i _ => ?_)) (sumT_zero _)
            show (if k = 0 then _ else _) = _
            rw [if_neg k0, if_neg g]
      rw [sumT_congr (g := fun k => if k = 0 then RsL O (plB O e) W else (fun q => if oF O (oP O - (e + 1)) q = true ∧ W q = none then RsL O (plB O e) (wPut W (oP O - (e + 1)) q) else 0) (rgt O k)) _ (fun k _ => e2 k), sum_rgt hk (RsL O (plB O e) W) (fun q => if oF O (oP O - (e + 1)) q = true ∧ W q = none then RsL O (plB O e) (wPut W (oP O - (e + 1)) q) else 0) (oP O) (Nat.le_refl _)]
      congr 1
      refine sumT_congr _ (fun q hq => ?_)
      have sq := (hk.2.2.1 q hq).1
      by_cases f : oF O (oP O - (e + 1)) q = true
      · have := oF_side f
        rw [if_pos (by omega), if_pos f]
        by_cases w : W q = none
        · rw [if_pos ⟨f, w⟩, if_pos w]
        · rw [if_neg (fun x => w x.2), if_neg w]
      · rw [if_neg f]
        split
        · exact if_neg (fun x => f x.1)
        · rfl
    · rw [if_neg s, if_neg s, List.nil_append]
      rw [← ih W (fun x hx hs => hW x (by omega) hs)]
      refine sumT_congr _ (fun c _ => ?_)
      rw [PW, if_neg s]
theorem ansRests_eq {O : Orc} (hk : oOk O) : sumT (fun c => vP O (PW O (cnt1 O (oP O)) (oP O) c (fun _ => none))) (cdN O (cnt1 O (oP O)) (oP O)) = ansRests O := by
  rw [sum_codes hk (oP O) (Nat.le_refl _) (fun _ => none) (fun _ _ _ => rfl), plB_all]
  rfl
