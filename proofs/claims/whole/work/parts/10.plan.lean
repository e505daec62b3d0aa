/-! X5_canBeTaken: canBeTaken(LHalfLadders$Pairs;II)Z -/
def rmX5_canBeTaken : Room := { frames := 1, cells := 0, slots := 0, locals := 20 }
def wX5_canBeTaken (σ : St) (a1 : Int32) (a2 : Int32) (P : Int32 → Prop) : Prop :=
wJ6_bitCount_0f7a4 σ a1 (fun r1 : Int32 =>
(((2 : Int32) * a2) < r1 →
P (0 : Int32)) ∧
(¬ ((2 : Int32) * a2) < r1 →
wJ6_bitCount_0f7a4 σ (a1 &&& (σ.1 25 1)) (fun r3 : Int32 =>
(¬ r1 = ((2 : Int32) * r3) →
P (0 : Int32)) ∧
(r1 = ((2 : Int32) * r3) →
P (1 : Int32)))))

set_option maxHeartbeats 8000000 in
set_option maxRecDepth 100000 in
theorem kX5_canBeTaken (l : Launch) (D : va_G) {cy : Nat → ClassId} {ad : Nat → Nat} {zb : Nat → Nat} (hw : xOk (wC ad cy zb)) {σ : St} {a1 : Int32} {a2 : Int32} {P : Int32 → Prop} (h : wX5_canBeTaken σ a1 a2 P) : MI l yX5_canBeTaken wsX5_canBeTaken rmX5_canBeTaken D cy (wC ad cy zb) [.ref (ad 25), .int a1, .int a2] σ (fun r u => P r ∧ u = σ) := by
  unfold MI
  refine vv_met (cc := cX5_canBeTaken) (maxL := 4) (ret := (some .boolean)) hw (by decide +kernel) rfl [.ref (ad 25), .int a1, .int a2] (Nat.le_of_ble_eq_true rfl) ?_
  intro p e s m args below meth c X hr
  have X : XX p s m args meth c cX5_canBeTaken 4 D cy (wC ad cy zb) wsX5_canBeTaken RX5 := X
  refine vv_sub (lv' := [(0, .ref (ad 25)), (1, .int a1), (2, .int a2)]) [0, 1, 2] rfl ?_
  rw [wX5_canBeTaken] at h
  refine vv_iload_n (q := 1) X 1 dX5_canBeTaken_0 rfl rfl rfl ?_
  refine vv_cSi (q := 4) X [.int a1] (kJ6_bitCount_0f7a4 l D X.2.2.1 h) (va_cwS 1 X.1.2.2.2.2 gX5_canBeTaken_J6_bitCount_0f7a4 rfl rfl rfl (by decide +kernel) ⟨Nat.le_of_ble_eq_true rfl, Nat.le_of_ble_eq_true rfl⟩) rfl rfl (Nat.le_of_ble_eq_true rfl) dX5_canBeTaken_1 rfl (fun r1 u9 h9 => ?_)
  obtain ⟨h9, hu9⟩ := h9
  subst u9
  have h := h9
  refine vv_istore_n (lv2 := [(3, .int r1), (0, .ref (ad 25)), (1, .int a1), (2, .int a2)]) (q := 5) X dX5_canBeTaken_4 rfl (Nat.le_of_ble_eq_true rfl) rfl rfl ?_
  refine vv_iload_n (q := 6) X 0 dX5_canBeTaken_5 rfl rfl rfl ?_
  refine vv_iconst (q := 7) X (2 : Int32) dX5_canBeTaken_6 (by decide) rfl ?_
  refine vv_iload_n (q := 8) X 3 dX5_canBeTaken_7 rfl rfl rfl ?_
  refine vv_imul (q := 9) X dX5_canBeTaken_8 rfl ?_
  refine vv_icmp_gt (q := 12) X 31 dX5_canBeTaken_9 (by decide) rfl (fun c2 => ?_) (fun c2 => ?_)
  · have h := h.1 c2
    refine vv_iconst (q := 32) X (0 : Int32) dX5_canBeTaken_31 (by decide) rfl ?_
    exact vv_zret X hr rfl dX5_canBeTaken_32 ⟨h, rfl⟩
  · have h := h.2 c2
    refine vv_iload_n (q := 13) X 0 dX5_canBeTaken_12 rfl rfl rfl ?_
    refine vv_iconst (q := 14) X (2 : Int32) dX5_canBeTaken_13 (by decide) rfl ?_
    refine vv_iload_n (q := 15) X 2 dX5_canBeTaken_14 rfl rfl rfl ?_
    refine vv_aload_n (q := 16) X 1 dX5_canBeTaken_15 rfl rfl rfl ?_
    refine vv_getf (q := 19) (ref := "HalfLadders$Pairs") (C := RX4) (T := TX4) (N := 8) X 25 4 1 (Nat.le_of_ble_eq_true rfl) rfl rfl (Nat.le_of_ble_eq_true rfl) (fun _ h => List.mem_cons_of_mem _ (List.mem_append_right _ h)) (List.mem_of_getElem? (i := 1) rfl) rfl rfl dX5_canBeTaken_16 rfl ?_
    refine vv_iand (q := 20) X dX5_canBeTaken_19 rfl ?_
    refine vv_cSi (q := 23) X [.int (a1 &&& (σ.1 25 1))] (kJ6_bitCount_0f7a4 l D X.2.2.1 h) (va_cwS 1 X.1.2.2.2.2 gX5_canBeTaken_J6_bitCount_0f7a4 rfl rfl rfl (by decide +kernel) ⟨Nat.le_of_ble_eq_true rfl, Nat.le_of_ble_eq_true rfl⟩) rfl rfl (Nat.le_of_ble_eq_true rfl) dX5_canBeTaken_20 rfl (fun r3 u9 h9 => ?_)
    obtain ⟨h9, hu9⟩ := h9
    subst u9
    have h := h9
    refine vv_imul (q := 24) X dX5_canBeTaken_23 rfl ?_
    refine vv_icmp_ne (q := 27) X 31 dX5_canBeTaken_24 (by decide) rfl (fun c4 => ?_) (fun c4 => ?_)
    · have h := h.1 c4
      refine vv_iconst (q := 32) X (0 : Int32) dX5_canBeTaken_31 (by decide) rfl ?_
      exact vv_zret X hr rfl dX5_canBeTaken_32 ⟨h, rfl⟩
    · have h := h.2 c4
      refine vv_iconst (q := 28) X (1 : Int32) dX5_canBeTaken_27 (by decide) rfl ?_
      refine vv_goto X 32 dX5_canBeTaken_28 (by decide) ?_
      exact vv_zret X hr rfl dX5_canBeTaken_32 ⟨h, rfl⟩

/-! X5_canClimb: canClimb(LHalfLadders$Pairs;III)Z -/
def rmX5_canClimb : Room := { frames := 0, cells := 0, slots := 0, locals := 0 }
def wX5_canClimb (σ : St) (a2 : Int32) (a3 : Int32) (a4 : Int32) (P : Int32 → Prop) : Prop :=
vp_in a4 5 ∧
vp_in a2 16 ∧
((σ.1 (53 + a4.toNatClampNeg) a2.toNatClampNeg) ≤ 0 →
P (0 : Int32)) ∧
(¬ (σ.1 (53 + a4.toNatClampNeg) a2.toNatClampNeg) ≤ 0 →
vp_in a2 16 ∧
(¬ (a3 &&& (σ.1 28 a2.toNatClampNeg)) = 0 →
P (0 : Int32)) ∧
((a3 &&& (σ.1 28 a2.toNatClampNeg)) = 0 →
P (1 : Int32)))

set_option maxHeartbeats 8000000 in
set_option maxRecDepth 100000 in
theorem kX5_canClimb (l : Launch) (D : va_G) {cy : Nat → ClassId} {ad : Nat → Nat} {zb : Nat → Nat} (hw : xOk (wC ad cy zb)) {σ : St} {a2 : Int32} {a3 : Int32} {a4 : Int32} {P : Int32 → Prop} (h : wX5_canClimb σ a2 a3 a4 P) : MI l yX5_canClimb wsX5_canClimb rmX5_canClimb D cy (wC ad cy zb) [.ref (ad 50), .ref (ad 25), .int a2, .int a3, .int a4] σ (fun r u => P r ∧ u = σ) := by
  unfold MI
  refine vv_met (cc := cX5_canClimb) (maxL := 5) (ret := (some .boolean)) hw (by decide +kernel) rfl [.ref (ad 50), .ref (ad 25), .int a2, .int a3, .int a4] (Nat.le_of_ble_eq_true rfl) ?_
  intro p e s m args below meth c X hr
  have X : XX p s m args meth c cX5_canClimb 5 D cy (wC ad cy zb) wsX5_canClimb RX5 := X
  refine vv_sub (lv' := [(0, .ref (ad 50)), (1, .ref (ad 25)), (2, .int a2), (3, .int a3), (4, .int a4)]) [0, 1, 2, 3, 4] rfl ?_
  rw [wX5_canClimb] at h
  refine vv_aload_n (q := 1) X 0 dX5_canClimb_0 rfl rfl rfl ?_
  refine vv_getf (q := 4) (ref := "HalfLadders$Plan") (C := RX5) (T := TX5) (N := 3) X 50 5 1 (Nat.le_of_ble_eq_true rfl) rfl rfl (Nat.le_of_ble_eq_true rfl) (fun _ h => List.mem_cons_of_mem _ (List.mem_append_left _ (List.mem_append_right _ h))) (List.mem_of_getElem? (i := 1) rfl) rfl rfl dX5_canClimb_1 rfl ?_
  refine vv_iload (q := 6) X 4 dX5_canClimb_4 rfl rfl ?_
  obtain ⟨hin1, h⟩ := h
  refine vv_aldA (q := 7) X 52 5 (Nat.le_of_ble_eq_true rfl) rfl hin1 dX5_canClimb_6 rfl ?_
  refine vv_iload_n (q := 8) X 2 dX5_canClimb_7 rfl rfl rfl ?_
  obtain ⟨hin2, h⟩ := h
  refine vv_iald (q := 9) X (53 + a4.toNatClampNeg) 16 (eRgains_lt 0 hin1 (Nat.le_of_ble_eq_true rfl)) (fun f => eRgains (ad := ad) (cy := cy) hin1 f σ.2) hin2 dX5_canClimb_8 rfl ?_
  refine vv_if_le (q := 12) X 27 dX5_canClimb_9 (by decide) rfl (fun c3 => ?_) (fun c3 => ?_)
  · have h := h.1 c3
    refine vv_iconst (q := 28) X (0 : Int32) dX5_canClimb_27 (by decide) rfl ?_
    exact vv_zret X hr rfl dX5_canClimb_28 ⟨h, rfl⟩
  · have h := h.2 c3
    refine vv_iload_n (q := 13) X 3 dX5_canClimb_12 rfl rfl rfl ?_
    refine vv_aload_n (q := 14) X 1 dX5_canClimb_13 rfl rfl rfl ?_
    refine vv_getf (q := 17) (ref := "HalfLadders$Pairs") (C := RX4) (T := TX4) (N := 8) X 25 4 4 (Nat.le_of_ble_eq_true rfl) rfl rfl (Nat.le_of_ble_eq_true rfl) (fun _ h => List.mem_cons_of_mem _ (List.mem_append_right _ h)) (List.mem_of_getElem? (i := 2) rfl) rfl rfl dX5_canClimb_14 rfl ?_
    refine vv_iload_n (q := 18) X 2 dX5_canClimb_17 rfl rfl rfl ?_
    obtain ⟨hin4, h⟩ := h
    refine vv_iald (q := 19) X 28 16 (Nat.le_of_ble_eq_true rfl) (fun _ => rfl) hin4 dX5_canClimb_18 rfl ?_
    refine vv_iand (q := 20) X dX5_canClimb_19 rfl ?_
    refine vv_if_ne (q := 23) X 27 dX5_canClimb_20 (by decide) rfl (fun c5 => ?_) (fun c5 => ?_)
    · have h := h.1 c5
      refine vv_iconst (q := 28) X (0 : Int32) dX5_canClimb_27 (by decide) rfl ?_
      exact vv_zret X hr rfl dX5_canClimb_28 ⟨h, rfl⟩
    · have h := h.2 c5
      refine vv_iconst (q := 24) X (1 : Int32) dX5_canClimb_23 (by decide) rfl ?_
      refine vv_goto X 28 dX5_canClimb_24 (by decide) ?_
      exact vv_zret X hr rfl dX5_canClimb_28 ⟨h, rfl⟩

/-! X5_with: with(LHalfLadders$Pairs;III)I -/
def rmX5_with : Room := { frames := 0, cells := 0, slots := 0, locals := 0 }
def wX5_with (σ : St) (a2 : Int32) (a3 : Int32) (a4 : Int32) (P : Int32 → Prop) : Prop :=
vp_in a4 5 ∧
vp_in a2 16 ∧
vp_in (a4 + (1 : Int32)) 6 ∧
vp_in a2 16 ∧
vp_in (a3 ||| (σ.1 28 a2.toNatClampNeg)) 256 ∧
P ((σ.1 (53 + a4.toNatClampNeg) a2.toNatClampNeg) + (σ.1 (59 + (a4 + (1 : Int32)).toNatClampNeg) (a3 ||| (σ.1 28 a2.toNatClampNeg)).toNatClampNeg))

set_option maxHeartbeats 8000000 in
set_option maxRecDepth 100000 in
theorem kX5_with (l : Launch) (D : va_G) {cy : Nat → ClassId} {ad : Nat → Nat} {zb : Nat → Nat} (hw : xOk (wC ad cy zb)) {σ : St} {a2 : Int32} {a3 : Int32} {a4 : Int32} {P : Int32 → Prop} (h : wX5_with σ a2 a3 a4 P) : MI l yX5_with wsX5_with rmX5_with D cy (wC ad cy zb) [.ref (ad 50), .ref (ad 25), .int a2, .int a3, .int a4] σ (fun r u => P r ∧ u = σ) := by
  unfold MI
  refine vv_met (cc := cX5_with) (maxL := 5) (ret := (some .int)) hw (by decide +kernel) rfl [.ref (ad 50), .ref (ad 25), .int a2, .int a3, .int a4] (Nat.le_of_ble_eq_true rfl) ?_
  intro p e s m args below meth c X hr
  have X : XX p s m args meth c cX5_with 5 D cy (wC ad cy zb) wsX5_with RX5 := X
  refine vv_sub (lv' := [(0, .ref (ad 50)), (1, .ref (ad 25)), (2, .int a2), (3, .int a3), (4, .int a4)]) [0, 1, 2, 3, 4] rfl ?_
  rw [wX5_with] at h
  refine vv_aload_n (q := 1) X 0 dX5_with_0 rfl rfl rfl ?_
  refine vv_getf (q := 4) (ref := "HalfLadders$Plan") (C := RX5) (T := TX5) (N := 3) X 50 5 1 (Nat.le_of_ble_eq_true rfl) rfl rfl (Nat.le_of_ble_eq_true rfl) (fun _ h => List.mem_cons_of_mem _ (List.mem_append_left _ (List.mem_append_right _ h))) (List.mem_of_getElem? (i := 1) rfl) rfl rfl dX5_with_1 rfl ?_
  refine vv_iload (q := 6) X 4 dX5_with_4 rfl rfl ?_
  obtain ⟨hin1, h⟩ := h
  refine vv_aldA (q := 7) X 52 5 (Nat.le_of_ble_eq_true rfl) rfl hin1 dX5_with_6 rfl ?_
  refine vv_iload_n (q := 8) X 2 dX5_with_7 rfl rfl rfl ?_
  obtain ⟨hin2, h⟩ := h
  refine vv_iald (q := 9) X (53 + a4.toNatClampNeg) 16 (eRgains_lt 0 hin1 (Nat.le_of_ble_eq_true rfl)) (fun f => eRgains (ad := ad) (cy := cy) hin1 f σ.2) hin2 dX5_with_8 rfl ?_
  refine vv_aload_n (q := 10) X 0 dX5_with_9 rfl rfl rfl ?_
  refine vv_getf (q := 13) (ref := "HalfLadders$Plan") (C := RX5) (T := TX5) (N := 3) X 50 5 2 (Nat.le_of_ble_eq_true rfl) rfl rfl (Nat.le_of_ble_eq_true rfl) (fun _ h => List.mem_cons_of_mem _ (List.mem_append_left _ (List.mem_append_right _ h))) (List.mem_of_getElem? (i := 2) rfl) rfl rfl dX5_with_10 rfl ?_
  refine vv_iload (q := 15) X 4 dX5_with_13 rfl rfl ?_
  refine vv_iconst (q := 16) X (1 : Int32) dX5_with_15 (by decide) rfl ?_
  refine vv_iadd (q := 17) X dX5_with_16 rfl ?_
  obtain ⟨hin3, h⟩ := h
  refine vv_aldA (q := 18) X 58 6 (Nat.le_of_ble_eq_true rfl) rfl hin3 dX5_with_17 rfl ?_
  refine vv_iload_n (q := 19) X 3 dX5_with_18 rfl rfl rfl ?_
  refine vv_aload_n (q := 20) X 1 dX5_with_19 rfl rfl rfl ?_
  refine vv_getf (q := 23) (ref := "HalfLadders$Pairs") (C := RX4) (T := TX4) (N := 8) X 25 4 4 (Nat.le_of_ble_eq_true rfl) rfl rfl (Nat.le_of_ble_eq_true rfl) (fun _ h => List.mem_cons_of_mem _ (List.mem_append_right _ h)) (List.mem_of_getElem? (i := 3) rfl) rfl rfl dX5_with_20 rfl ?_
  refine vv_iload_n (q := 24) X 2 dX5_with_23 rfl rfl rfl ?_
  obtain ⟨hin4, h⟩ := h
  refine vv_iald (q := 25) X 28 16 (Nat.le_of_ble_eq_true rfl) (fun _ => rfl) hin4 dX5_with_24 rfl ?_
  refine vv_ior (q := 26) X dX5_with_25 rfl ?_
  obtain ⟨hin5, h⟩ := h
  refine vv_iald (q := 27) X (59 + (a4 + (1 : Int32)).toNatClampNeg) 256 (eRmost_lt 0 hin3 (Nat.le_of_ble_eq_true rfl)) (fun f => eRmost (ad := ad) (cy := cy) hin3 f σ.2) hin5 dX5_with_26 rfl ?_
  refine vv_iadd (q := 28) X dX5_with_27 rfl ?_
  exact vv_iret X hr dX5_with_28 ⟨h, rfl⟩

/-! X5_mostFrom: mostFrom(LHalfLadders$Pairs;II)I -/
def rmX5_mostFrom : Room := { frames := 1, cells := 0, slots := 0, locals := 24 }
def wLX5_mostFrom_15 (f2 : Int32) (f3 : Int32) (σ : St) (K58 : Int32 → Prop) (P : Int32 → Prop) : Nat → Int32 → Int32 → Prop
  | 0, _, _ => False
  | n + 1, x4, x5 =>
    ((σ.1 25 0) ≤ x5 →
    K58 x4) ∧
    (¬ (σ.1 25 0) ≤ x5 →
    wX5_canClimb σ x5 f2 f3 (fun r5 : Int32 =>
    (r5 = 0 →
    ∀ z7 : Int32, z7 = x5 + (1 : Int32) →
    wLX5_mostFrom_15 f2 f3 σ K58 P n x4 z7) ∧
    (¬ r5 = 0 →
    wX5_with σ x5 f2 f3 (fun r8 : Int32 =>
    ∀ z9 : Int32, z9 = (if x4 < r8 then r8 else x4) →
    ∀ z10 : Int32, z10 = x5 + (1 : Int32) →
    wLX5_mostFrom_15 f2 f3 σ K58 P n z9 z10))))

set_option maxHeartbeats 4000000 in
set_option maxRecDepth 100000 in
theorem twLX5_mostFrom_15 {p : Program} {l : Launch} {e : Env} {s : State} {m : MethodId} {args : Array Value} {below : List Frame} {meth : Method} {c : Code} {D : va_G} {cy : Nat → ClassId} {ad : Nat → Nat} {zb : Nat → Nat} (X : XX p s m args meth c cX5_mostFrom 6 D cy (wC ad cy zb) wsX5_mostFrom RX5) (hr : meth.sig.returnType = (some .int)) (f2 : Int32) (f3 : Int32)  (σ : St) (K58 : Int32 → Prop) {P : Int32 → Prop} (hK58 : ∀ (x4 : Int32), K58 x4 → VV p l e rmX5_mostFrom s m args below meth c (MQ below (va_Qi (fun r u => P r ∧ u = σ) (xPost D (wC ad cy zb)) (xA (wC ad cy zb))) args s 0 0 (xA (wC ad cy zb))) 6 D (wC ad cy zb) σ 58 [(4, .int x4)] []) : ∀ (n : Nat) (x4 : Int32) (x5 : Int32), wLX5_mostFrom_15 f2 f3 σ K58 P n x4 x5 → VV p l e rmX5_mostFrom s m args below meth c (MQ below (va_Qi (fun r u => P r ∧ u = σ) (xPost D (wC ad cy zb)) (xA (wC ad cy zb))) args s 0 0 (xA (wC ad cy zb))) 6 D (wC ad cy zb) σ 15 [(0, .ref (ad 50)), (1, .ref (ad 25)), (2, .int f2), (3, .int f3), (4, .int x4), (5, .int x5)] [] := by
  intro n
  induction n with
  | zero => intro x4 x5 h; exact h.elim
  | succ n ih =>
    intro x4 x5 h
    rw [wLX5_mostFrom_15] at h
    refine vv_iload (q := 17) X 5 dX5_mostFrom_15 rfl rfl ?_
    refine vv_aload_n (q := 18) X 1 dX5_mostFrom_17 rfl rfl rfl ?_
    refine vv_getf (q := 21) (ref := "HalfLadders$Pairs") (C := RX4) (T := TX4) (N := 8) X 25 4 0 (Nat.le_of_ble_eq_true rfl) rfl rfl (Nat.le_of_ble_eq_true rfl) (fun _ h => List.mem_cons_of_mem _ (List.mem_append_right _ h)) (List.mem_of_getElem? (i := 2) rfl) rfl rfl dX5_mostFrom_18 rfl ?_
    refine vv_icmp_ge (q := 24) X 58 dX5_mostFrom_21 (by decide) rfl (fun c4 => ?_) (fun c4 => ?_)
    · have h := h.1 c4
      refine vv_sub (lv' := [(4, .int x4)]) [4] rfl ?_
      exact hK58 x4 h
    · have h := h.2 c4
      refine vv_aload_n (q := 25) X 0 dX5_mostFrom_24 rfl rfl rfl ?_
      refine vv_aload_n (q := 26) X 1 dX5_mostFrom_25 rfl rfl rfl ?_
      refine vv_iload (q := 28) X 5 dX5_mostFrom_26 rfl rfl ?_
      refine vv_iload_n (q := 29) X 2 dX5_mostFrom_28 rfl rfl rfl ?_
      refine vv_iload_n (q := 30) X 3 dX5_mostFrom_29 rfl rfl rfl ?_
      refine vv_cVi (q := 33) (C := RX5) X 50 5 [.ref (ad 25), .int x5, .int f2, .int f3] (kX5_canClimb l D X.2.2.1 h) (cwV 4 X.1.2.2.2.2 gX5_mostFrom_X5_canClimb rfl rfl rfl (by decide +kernel) ⟨Nat.le_of_ble_eq_true rfl, Nat.le_of_ble_eq_true rfl⟩) (Nat.le_of_ble_eq_true rfl) rfl rfl rfl rfl (Nat.le_of_ble_eq_true rfl) dX5_mostFrom_30 rfl (fun r5 u9 h9 => ?_)
      obtain ⟨h9, hu9⟩ := h9
      subst u9
      have h := h9
      refine vv_if_eq (q := 36) X 52 dX5_mostFrom_33 (by decide) rfl (fun c6 => ?_) (fun c6 => ?_)
      · have h := h.1 c6
        obtain ⟨z7, hz7⟩ : ∃ y : Int32, y = x5 + (1 : Int32) := ⟨_, rfl⟩
        have h := h z7 hz7
        refine vv_iinc (v := z7) (lv2 := [(5, .int z7), (0, .ref (ad 50)), (1, .ref (ad 25)), (2, .int f2), (3, .int f3), (4, .int x4)]) (q := 55) X 5 dX5_mostFrom_52 rfl (by rw [hz7]; rfl) (Nat.le_of_ble_eq_true rfl) rfl rfl ?_
        refine vv_goto X 15 dX5_mostFrom_55 (by decide) ?_
        refine vv_sub (lv' := [(0, .ref (ad 50)), (1, .ref (ad 25)), (2, .int f2), (3, .int f3), (4, .int x4), (5, .int z7)]) [1, 2, 3, 4, 5, 0] rfl ?_
        exact ih x4 z7 h
      · have h := h.2 c6
        refine vv_iload (q := 38) X 4 dX5_mostFrom_36 rfl rfl ?_
        refine vv_aload_n (q := 39) X 0 dX5_mostFrom_38 rfl rfl rfl ?_
        refine vv_aload_n (q := 40) X 1 dX5_mostFrom_39 rfl rfl rfl ?_
        refine vv_iload (q := 42) X 5 dX5_mostFrom_40 rfl rfl ?_
        refine vv_iload_n (q := 43) X 2 dX5_mostFrom_42 rfl rfl rfl ?_
        refine vv_iload_n (q := 44) X 3 dX5_mostFrom_43 rfl rfl rfl ?_
        refine vv_cVi (q := 47) (C := RX5) X 50 5 [.ref (ad 25), .int x5, .int f2, .int f3] (kX5_with l D X.2.2.1 h) (cwV 4 X.1.2.2.2.2 gX5_mostFrom_X5_with rfl rfl rfl (by decide +kernel) ⟨Nat.le_of_ble_eq_true rfl, Nat.le_of_ble_eq_true rfl⟩) (Nat.le_of_ble_eq_true rfl) rfl rfl rfl rfl (Nat.le_of_ble_eq_true rfl) dX5_mostFrom_44 rfl (fun r8 u9 h9 => ?_)
        obtain ⟨h9, hu9⟩ := h9
        subst u9
        have h := h9
        refine vv_mmax (q := 50) X (List.mem_of_getElem? (i := 3) rfl) (List.mem_of_getElem? (i := 4) rfl) (List.mem_of_getElem? (i := 5) rfl) (List.mem_of_getElem? (i := 6) rfl) (Nat.le_of_ble_eq_true rfl) (Nat.le_of_ble_eq_true rfl) dX5_mostFrom_47 rfl ?_
        refine vv_topi (fun z9 hz9 => ?_)
        have h := h z9 hz9
        refine vv_istore (lv2 := [(4, .int z9), (0, .ref (ad 50)), (1, .ref (ad 25)), (2, .int f2), (3, .int f3), (5, .int x5)]) (q := 52) X dX5_mostFrom_50 (Nat.le_of_ble_eq_true rfl) rfl rfl ?_
        obtain ⟨z10, hz10⟩ : ∃ y : Int32, y = x5 + (1 : Int32) := ⟨_, rfl⟩
        have h := h z10 hz10
        refine vv_iinc (v := z10) (lv2 := [(5, .int z10), (4, .int z9), (0, .ref (ad 50)), (1, .ref (ad 25)), (2, .int f2), (3, .int f3)]) (q := 55) X 5 dX5_mostFrom_52 rfl (by rw [hz10]; rfl) (Nat.le_of_ble_eq_true rfl) rfl rfl ?_
        refine vv_goto X 15 dX5_mostFrom_55 (by decide) ?_
        refine vv_sub (lv' := [(0, .ref (ad 50)), (1, .ref (ad 25)), (2, .int f2), (3, .int f3), (4, .int z9), (5, .int z10)]) [2, 3, 4, 5, 1, 0] rfl ?_
        exact ih z9 z10 h

def wX5_mostFrom (σ : St) (a2 : Int32) (a3 : Int32) (P : Int32 → Prop) : Prop :=
vp_in (a3 + (1 : Int32)) 6 ∧
vp_in a2 256 ∧
∀ z3 : Int32, z3 = (σ.1 (59 + (a3 + (1 : Int32)).toNatClampNeg) a2.toNatClampNeg) →
∃ n12 : Nat, wLX5_mostFrom_15 a2 a3 σ (fun (y11 : Int32) =>
P y11) P n12 z3 (0 : Int32)

set_option maxHeartbeats 8000000 in
set_option maxRecDepth 100000 in
theorem kX5_mostFrom (l : Launch) (D : va_G) {cy : Nat → ClassId} {ad : Nat → Nat} {zb : Nat → Nat} (hw : xOk (wC ad cy zb)) {σ : St} {a2 : Int32} {a3 : Int32} {P : Int32 → Prop} (h : wX5_mostFrom σ a2 a3 P) : MI l yX5_mostFrom wsX5_mostFrom rmX5_mostFrom D cy (wC ad cy zb) [.ref (ad 50), .ref (ad 25), .int a2, .int a3] σ (fun r u => P r ∧ u = σ) := by
  unfold MI
  refine vv_met (cc := cX5_mostFrom) (maxL := 6) (ret := (some .int)) hw (by decide +kernel) rfl [.ref (ad 50), .ref (ad 25), .int a2, .int a3] (Nat.le_of_ble_eq_true rfl) ?_
  intro p e s m args below meth c X hr
  have X : XX p s m args meth c cX5_mostFrom 6 D cy (wC ad cy zb) wsX5_mostFrom RX5 := X
  refine vv_sub (lv' := [(0, .ref (ad 50)), (1, .ref (ad 25)), (2, .int a2), (3, .int a3)]) [0, 1, 2, 3] rfl ?_
  rw [wX5_mostFrom] at h
  refine vv_aload_n (q := 1) X 0 dX5_mostFrom_0 rfl rfl rfl ?_
  refine vv_getf (q := 4) (ref := "HalfLadders$Plan") (C := RX5) (T := TX5) (N := 3) X 50 5 2 (Nat.le_of_ble_eq_true rfl) rfl rfl (Nat.le_of_ble_eq_true rfl) (fun _ h => List.mem_cons_of_mem _ (List.mem_append_left _ (List.mem_append_right _ h))) (List.mem_of_getElem? (i := 1) rfl) rfl rfl dX5_mostFrom_1 rfl ?_
  refine vv_iload_n (q := 5) X 3 dX5_mostFrom_4 rfl rfl rfl ?_
  refine vv_iconst (q := 6) X (1 : Int32) dX5_mostFrom_5 (by decide) rfl ?_
  refine vv_iadd (q := 7) X dX5_mostFrom_6 rfl ?_
  obtain ⟨hin1, h⟩ := h
  refine vv_aldA (q := 8) X 58 6 (Nat.le_of_ble_eq_true rfl) rfl hin1 dX5_mostFrom_7 rfl ?_
  refine vv_iload_n (q := 9) X 2 dX5_mostFrom_8 rfl rfl rfl ?_
  obtain ⟨hin2, h⟩ := h
  refine vv_iald (q := 10) X (59 + (a3 + (1 : Int32)).toNatClampNeg) 256 (eRmost_lt 0 hin1 (Nat.le_of_ble_eq_true rfl)) (fun f => eRmost (ad := ad) (cy := cy) hin1 f σ.2) hin2 dX5_mostFrom_9 rfl ?_
  refine vv_topi (fun z3 hz3 => ?_)
  have h := h z3 hz3
  refine vv_istore (lv2 := [(4, .int z3), (0, .ref (ad 50)), (1, .ref (ad 25)), (2, .int a2), (3, .int a3)]) (q := 12) X dX5_mostFrom_10 (Nat.le_of_ble_eq_true rfl) rfl rfl ?_
  refine vv_iconst (q := 13) X (0 : Int32) dX5_mostFrom_12 (by decide) rfl ?_
  refine vv_istore (lv2 := [(5, .int (0 : Int32)), (4, .int z3), (0, .ref (ad 50)), (1, .ref (ad 25)), (2, .int a2), (3, .int a3)]) (q := 15) X dX5_mostFrom_13 (Nat.le_of_ble_eq_true rfl) rfl rfl ?_
  obtain ⟨n12, h⟩ := h
  refine vv_sub (lv' := [(0, .ref (ad 50)), (1, .ref (ad 25)), (2, .int a2), (3, .int a3), (4, .int z3), (5, .int (0 : Int32))]) [2, 3, 4, 5, 1, 0] rfl ?_
  refine twLX5_mostFrom_15 X hr a2 a3  σ _ ?_ n12 z3 (0 : Int32) h
  intro y11 h
  refine vv_iload (q := 60) X 0 dX5_mostFrom_58 rfl rfl ?_
  exact vv_iret X hr dX5_mostFrom_60 ⟨h, rfl⟩

/-! X5_firstOfBest: firstOfBest(LHalfLadders$Pairs;II)I -/
def rmX5_firstOfBest : Room := { frames := 1, cells := 0, slots := 0, locals := 24 }
def wLX5_firstOfBest_26 (f2 : Int32) (f3 : Int32) (σ : St) (K76 : Prop) (P : Int32 → Prop) : Nat → Int32 → Prop
  | 0, _ => False
  | n + 1, x4 =>
    ((σ.1 25 0) ≤ x4 →
    K76) ∧
    (¬ (σ.1 25 0) ≤ x4 →
    wX5_canClimb σ x4 f2 f3 (fun r7 : Int32 =>
    (r7 = 0 →
    ∀ z9 : Int32, z9 = x4 + (1 : Int32) →
    wLX5_firstOfBest_26 f2 f3 σ K76 P n z9) ∧
    (¬ r7 = 0 →
    wX5_with σ x4 f2 f3 (fun r10 : Int32 =>
    vp_in f3 6 ∧
    vp_in f2 256 ∧
    (¬ r10 = (σ.1 (59 + f3.toNatClampNeg) f2.toNatClampNeg) →
    ∀ z14 : Int32, z14 = x4 + (1 : Int32) →
    wLX5_firstOfBest_26 f2 f3 σ K76 P n z14) ∧
    (r10 = (σ.1 (59 + f3.toNatClampNeg) f2.toNatClampNeg) →
    P x4)))))

set_option maxHeartbeats 4000000 in
set_option maxRecDepth 100000 in
theorem twLX5_firstOfBest_26 {p : Program} {l : Launch} {e : Env} {s : State} {m : MethodId} {args : Array Value} {below : List Frame} {meth : Method} {c : Code} {D : va_G} {cy : Nat → ClassId} {ad : Nat → Nat} {zb : Nat → Nat} (X : XX p s m args meth c cX5_firstOfBest 5 D cy (wC ad cy zb) wsX5_firstOfBest RX5) (hr : meth.sig.returnType = (some .int)) (f2 : Int32) (f3 : Int32)  (σ : St) (K76 : Prop) {P : Int32 → Prop} (hK76 : K76 → VV p l e rmX5_firstOfBest s m args below meth c (MQ below (va_Qi (fun r u => P r ∧ u = σ) (xPost D (wC ad cy zb)) (xA (wC ad cy zb))) args s 0 0 (xA (wC ad cy zb))) 5 D (wC ad cy zb) σ 76 [] []) : ∀ (n : Nat) (x4 : Int32), wLX5_firstOfBest_26 f2 f3 σ K76 P n x4 → VV p l e rmX5_firstOfBest s m args below meth c (MQ below (va_Qi (fun r u => P r ∧ u = σ) (xPost D (wC ad cy zb)) (xA (wC ad cy zb))) args s 0 0 (xA (wC ad cy zb))) 5 D (wC ad cy zb) σ 26 [(0, .ref (ad 50)), (1, .ref (ad 25)), (2, .int f2), (3, .int f3), (4, .int x4)] [] := by
  intro n
  induction n with
  | zero => intro x4 h; exact h.elim
  | succ n ih =>
    intro x4 h
    rw [wLX5_firstOfBest_26] at h
    refine vv_iload (q := 28) X 4 dX5_firstOfBest_26 rfl rfl ?_
    refine vv_aload_n (q := 29) X 1 dX5_firstOfBest_28 rfl rfl rfl ?_
    refine vv_getf (q := 32) (ref := "HalfLadders$Pairs") (C := RX4) (T := TX4) (N := 8) X 25 4 0 (Nat.le_of_ble_eq_true rfl) rfl rfl (Nat.le_of_ble_eq_true rfl) (fun _ h => List.mem_cons_of_mem _ (List.mem_append_right _ h)) (List.mem_of_getElem? (i := 2) rfl) rfl rfl dX5_firstOfBest_29 rfl ?_
    refine vv_icmp_ge (q := 35) X 76 dX5_firstOfBest_32 (by decide) rfl (fun c6 => ?_) (fun c6 => ?_)
    · have h := h.1 c6
      refine vv_sub (lv' := []) [] rfl ?_
      exact hK76  h
    · have h := h.2 c6
      refine vv_aload_n (q := 36) X 0 dX5_firstOfBest_35 rfl rfl rfl ?_
      refine vv_aload_n (q := 37) X 1 dX5_firstOfBest_36 rfl rfl rfl ?_
      refine vv_iload (q := 39) X 4 dX5_firstOfBest_37 rfl rfl ?_
      refine vv_iload_n (q := 40) X 2 dX5_firstOfBest_39 rfl rfl rfl ?_
      refine vv_iload_n (q := 41) X 3 dX5_firstOfBest_40 rfl rfl rfl ?_
      refine vv_cVi (q := 44) (C := RX5) X 50 5 [.ref (ad 25), .int x4, .int f2, .int f3] (kX5_canClimb l D X.2.2.1 h) (cwV 4 X.1.2.2.2.2 gX5_firstOfBest_X5_canClimb rfl rfl rfl (by decide +kernel) ⟨Nat.le_of_ble_eq_true rfl, Nat.le_of_ble_eq_true rfl⟩) (Nat.le_of_ble_eq_true rfl) rfl rfl rfl rfl (Nat.le_of_ble_eq_true rfl) dX5_firstOfBest_41 rfl (fun r7 u9 h9 => ?_)
      obtain ⟨h9, hu9⟩ := h9
      subst u9
      have h := h9
      refine vv_if_eq (q := 47) X 70 dX5_firstOfBest_44 (by decide) rfl (fun c8 => ?_) (fun c8 => ?_)
      · have h := h.1 c8
        obtain ⟨z9, hz9⟩ : ∃ y : Int32, y = x4 + (1 : Int32) := ⟨_, rfl⟩
        have h := h z9 hz9
        refine vv_iinc (v := z9) (lv2 := [(4, .int z9), (0, .ref (ad 50)), (1, .ref (ad 25)), (2, .int f2), (3, .int f3)]) (q := 73) X 4 dX5_firstOfBest_70 rfl (by rw [hz9]; rfl) (Nat.le_of_ble_eq_true rfl) rfl rfl ?_
        refine vv_goto X 26 dX5_firstOfBest_73 (by decide) ?_
        refine vv_sub (lv' := [(0, .ref (ad 50)), (1, .ref (ad 25)), (2, .int f2), (3, .int f3), (4, .int z9)]) [1, 2, 3, 4, 0] rfl ?_
        exact ih z9 h
      · have h := h.2 c8
        refine vv_aload_n (q := 48) X 0 dX5_firstOfBest_47 rfl rfl rfl ?_
        refine vv_aload_n (q := 49) X 1 dX5_firstOfBest_48 rfl rfl rfl ?_
        refine vv_iload (q := 51) X 4 dX5_firstOfBest_49 rfl rfl ?_
        refine vv_iload_n (q := 52) X 2 dX5_firstOfBest_51 rfl rfl rfl ?_
        refine vv_iload_n (q := 53) X 3 dX5_firstOfBest_52 rfl rfl rfl ?_
        refine vv_cVi (q := 56) (C := RX5) X 50 5 [.ref (ad 25), .int x4, .int f2, .int f3] (kX5_with l D X.2.2.1 h) (cwV 4 X.1.2.2.2.2 gX5_firstOfBest_X5_with rfl rfl rfl (by decide +kernel) ⟨Nat.le_of_ble_eq_true rfl, Nat.le_of_ble_eq_true rfl⟩) (Nat.le_of_ble_eq_true rfl) rfl rfl rfl rfl (Nat.le_of_ble_eq_true rfl) dX5_firstOfBest_53 rfl (fun r10 u9 h9 => ?_)
        obtain ⟨h9, hu9⟩ := h9
        subst u9
        have h := h9
        refine vv_aload_n (q := 57) X 0 dX5_firstOfBest_56 rfl rfl rfl ?_
        refine vv_getf (q := 60) (ref := "HalfLadders$Plan") (C := RX5) (T := TX5) (N := 3) X 50 5 2 (Nat.le_of_ble_eq_true rfl) rfl rfl (Nat.le_of_ble_eq_true rfl) (fun _ h => List.mem_cons_of_mem _ (List.mem_append_left _ (List.mem_append_right _ h))) (List.mem_of_getElem? (i := 1) rfl) rfl rfl dX5_firstOfBest_57 rfl ?_
        refine vv_iload_n (q := 61) X 3 dX5_firstOfBest_60 rfl rfl rfl ?_
        obtain ⟨hin11, h⟩ := h
        refine vv_aldA (q := 62) X 58 6 (Nat.le_of_ble_eq_true rfl) rfl hin11 dX5_firstOfBest_61 rfl ?_
        refine vv_iload_n (q := 63) X 2 dX5_firstOfBest_62 rfl rfl rfl ?_
        obtain ⟨hin12, h⟩ := h
        refine vv_iald (q := 64) X (59 + f3.toNatClampNeg) 256 (eRmost_lt 0 hin11 (Nat.le_of_ble_eq_true rfl)) (fun f => eRmost (ad := ad) (cy := cy) hin11 f σ.2) hin12 dX5_firstOfBest_63 rfl ?_
        refine vv_icmp_ne (q := 67) X 70 dX5_firstOfBest_64 (by decide) rfl (fun c13 => ?_) (fun c13 => ?_)
        · have h := h.1 c13
          obtain ⟨z14, hz14⟩ : ∃ y : Int32, y = x4 + (1 : Int32) := ⟨_, rfl⟩
          have h := h z14 hz14
          refine vv_iinc (v := z14) (lv2 := [(4, .int z14), (0, .ref (ad 50)), (1, .ref (ad 25)), (2, .int f2), (3, .int f3)]) (q := 73) X 4 dX5_firstOfBest_70 rfl (by rw [hz14]; rfl) (Nat.le_of_ble_eq_true rfl) rfl rfl ?_
          refine vv_goto X 26 dX5_firstOfBest_73 (by decide) ?_
          refine vv_sub (lv' := [(0, .ref (ad 50)), (1, .ref (ad 25)), (2, .int f2), (3, .int f3), (4, .int z14)]) [1, 2, 3, 4, 0] rfl ?_
          exact ih z14 h
        · have h := h.2 c13
          refine vv_iload (q := 69) X 4 dX5_firstOfBest_67 rfl rfl ?_
          exact vv_iret X hr dX5_firstOfBest_69 ⟨h, rfl⟩

def wX5_firstOfBest (σ : St) (a2 : Int32) (a3 : Int32) (P : Int32 → Prop) : Prop :=
vp_in (a3 + (1 : Int32)) 6 ∧
vp_in a2 256 ∧
vp_in a3 6 ∧
vp_in a2 256 ∧
(¬ (σ.1 (59 + (a3 + (1 : Int32)).toNatClampNeg) a2.toNatClampNeg) = (σ.1 (59 + a3.toNatClampNeg) a2.toNatClampNeg) →
∃ n15 : Nat, wLX5_firstOfBest_26 a2 a3 σ (P (-1 : Int32)) P n15 (0 : Int32)) ∧
((σ.1 (59 + (a3 + (1 : Int32)).toNatClampNeg) a2.toNatClampNeg) = (σ.1 (59 + a3.toNatClampNeg) a2.toNatClampNeg) →
P (-1 : Int32))

set_option maxHeartbeats 8000000 in
set_option maxRecDepth 100000 in
theorem kX5_firstOfBest (l : Launch) (D : va_G) {cy : Nat → ClassId} {ad : Nat → Nat} {zb : Nat → Nat} (hw : xOk (wC ad cy zb)) {σ : St} {a2 : Int32} {a3 : Int32} {P : Int32 → Prop} (h : wX5_firstOfBest σ a2 a3 P) : MI l yX5_firstOfBest wsX5_firstOfBest rmX5_firstOfBest D cy (wC ad cy zb) [.ref (ad 50), .ref (ad 25), .int a2, .int a3] σ (fun r u => P r ∧ u = σ) := by
  unfold MI
  refine vv_met (cc := cX5_firstOfBest) (maxL := 5) (ret := (some .int)) hw (by decide +kernel) rfl [.ref (ad 50), .ref (ad 25), .int a2, .int a3] (Nat.le_of_ble_eq_true rfl) ?_
  intro p e s m args below meth c X hr
  have X : XX p s m args meth c cX5_firstOfBest 5 D cy (wC ad cy zb) wsX5_firstOfBest RX5 := X
  refine vv_sub (lv' := [(0, .ref (ad 50)), (1, .ref (ad 25)), (2, .int a2), (3, .int a3)]) [0, 1, 2, 3] rfl ?_
  rw [wX5_firstOfBest] at h
  refine vv_aload_n (q := 1) X 0 dX5_firstOfBest_0 rfl rfl rfl ?_
  refine vv_getf (q := 4) (ref := "HalfLadders$Plan") (C := RX5) (T := TX5) (N := 3) X 50 5 2 (Nat.le_of_ble_eq_true rfl) rfl rfl (Nat.le_of_ble_eq_true rfl) (fun _ h => List.mem_cons_of_mem _ (List.mem_append_left _ (List.mem_append_right _ h))) (List.mem_of_getElem? (i := 1) rfl) rfl rfl dX5_firstOfBest_1 rfl ?_
  refine vv_iload_n (q := 5) X 3 dX5_firstOfBest_4 rfl rfl rfl ?_
  refine vv_iconst (q := 6) X (1 : Int32) dX5_firstOfBest_5 (by decide) rfl ?_
  refine vv_iadd (q := 7) X dX5_firstOfBest_6 rfl ?_
  obtain ⟨hin1, h⟩ := h
  refine vv_aldA (q := 8) X 58 6 (Nat.le_of_ble_eq_true rfl) rfl hin1 dX5_firstOfBest_7 rfl ?_
  refine vv_iload_n (q := 9) X 2 dX5_firstOfBest_8 rfl rfl rfl ?_
  obtain ⟨hin2, h⟩ := h
  refine vv_iald (q := 10) X (59 + (a3 + (1 : Int32)).toNatClampNeg) 256 (eRmost_lt 0 hin1 (Nat.le_of_ble_eq_true rfl)) (fun f => eRmost (ad := ad) (cy := cy) hin1 f σ.2) hin2 dX5_firstOfBest_9 rfl ?_
  refine vv_aload_n (q := 11) X 0 dX5_firstOfBest_10 rfl rfl rfl ?_
  refine vv_getf (q := 14) (ref := "HalfLadders$Plan") (C := RX5) (T := TX5) (N := 3) X 50 5 2 (Nat.le_of_ble_eq_true rfl) rfl rfl (Nat.le_of_ble_eq_true rfl) (fun _ h => List.mem_cons_of_mem _ (List.mem_append_left _ (List.mem_append_right _ h))) (List.mem_of_getElem? (i := 1) rfl) rfl rfl dX5_firstOfBest_11 rfl ?_
  refine vv_iload_n (q := 15) X 3 dX5_firstOfBest_14 rfl rfl rfl ?_
  obtain ⟨hin3, h⟩ := h
  refine vv_aldA (q := 16) X 58 6 (Nat.le_of_ble_eq_true rfl) rfl hin3 dX5_firstOfBest_15 rfl ?_
  refine vv_iload_n (q := 17) X 2 dX5_firstOfBest_16 rfl rfl rfl ?_
  obtain ⟨hin4, h⟩ := h
  refine vv_iald (q := 18) X (59 + a3.toNatClampNeg) 256 (eRmost_lt 0 hin3 (Nat.le_of_ble_eq_true rfl)) (fun f => eRmost (ad := ad) (cy := cy) hin3 f σ.2) hin4 dX5_firstOfBest_17 rfl ?_
  refine vv_icmp_ne (q := 21) X 23 dX5_firstOfBest_18 (by decide) rfl (fun c5 => ?_) (fun c5 => ?_)
  · have h := h.1 c5
    refine vv_iconst (q := 24) X (0 : Int32) dX5_firstOfBest_23 (by decide) rfl ?_
    refine vv_istore (lv2 := [(4, .int (0 : Int32)), (0, .ref (ad 50)), (1, .ref (ad 25)), (2, .int a2), (3, .int a3)]) (q := 26) X dX5_firstOfBest_24 (Nat.le_of_ble_eq_true rfl) rfl rfl ?_
    obtain ⟨n15, h⟩ := h
    refine vv_sub (lv' := [(0, .ref (ad 50)), (1, .ref (ad 25)), (2, .int a2), (3, .int a3), (4, .int (0 : Int32))]) [1, 2, 3, 4, 0] rfl ?_
    refine twLX5_firstOfBest_26 X hr a2 a3  σ _ ?_ n15 (0 : Int32) h
    intro h
    refine vv_iconst (q := 77) X (-1 : Int32) dX5_firstOfBest_76 (by decide) rfl ?_
    exact vv_iret X hr dX5_firstOfBest_77 ⟨h, rfl⟩
  · have h := h.2 c5
    refine vv_iconst (q := 22) X (-1 : Int32) dX5_firstOfBest_21 (by decide) rfl ?_
    exact vv_iret X hr dX5_firstOfBest_22 ⟨h, rfl⟩

/-! X5_choose: choose(LHalfLadders$Orchard;LHalfLadders$Pairs;)V -/
def rmX5_choose : Room := { frames := 2, cells := 0, slots := 0, locals := 48 }
def wLX5_choose_5 (f1 : Nat)  (K61 : St → Prop) (P : St → Prop) : Nat → St → Int32 → Int32 → Prop
  | 0, _, _, _ => False
  | n + 1, σ, x3, x4 =>
    ((σ.1 f1 1) ≤ x4 →
    K61 σ) ∧
    (¬ (σ.1 f1 1) ≤ x4 →
    wX5_firstOfBest σ x3 x4 (fun r2 : Int32 =>
    vp_in x4 5 ∧
    ∀ σ4 : St, σ4 = sI σ 51 x4.toNatClampNeg r2 →
    vp_in x4 5 ∧
    ((σ4.1 51 x4.toNatClampNeg) = (-1 : Int32) →
    ∀ z7 : Int32, z7 = x4 + (1 : Int32) →
    wLX5_choose_5 f1 K61 P n σ4 x3 z7) ∧
    (¬ (σ4.1 51 x4.toNatClampNeg) = (-1 : Int32) →
    vp_in x4 5 ∧
    vp_in (σ4.1 51 x4.toNatClampNeg) 16 ∧
    ∀ z10 : Int32, z10 = (x3 ||| (σ4.1 28 (σ4.1 51 x4.toNatClampNeg).toNatClampNeg)) →
    ∀ z11 : Int32, z11 = x4 + (1 : Int32) →
    wLX5_choose_5 f1 K61 P n σ4 z10 z11)))

set_option maxHeartbeats 4000000 in
set_option maxRecDepth 100000 in
theorem twLX5_choose_5 {p : Program} {l : Launch} {e : Env} {s : State} {m : MethodId} {args : Array Value} {below : List Frame} {meth : Method} {c : Code} {D : va_G} {cy : Nat → ClassId} {ad : Nat → Nat} {zb : Nat → Nat} (X : XX p s m args meth c cX5_choose 5 D cy (wC ad cy zb) wsX5_choose RX5) (hr : meth.sig.returnType = none) (f1 : Nat) (hf1 : isO f1)  (K61 : St → Prop) {P : St → Prop} (hK61 : ∀ (σ : St), K61 σ → VV p l e rmX5_choose s m args below meth c (MQ below (va_Qv P (xPost D (wC ad cy zb)) (xA (wC ad cy zb))) args s 0 0 (xA (wC ad cy zb))) 5 D (wC ad cy zb) σ 61 [] []) : ∀ (n : Nat) (σ : St) (x3 : Int32) (x4 : Int32), wLX5_choose_5 f1 K61 P n σ x3 x4 → VV p l e rmX5_choose s m args below meth c (MQ below (va_Qv P (xPost D (wC ad cy zb)) (xA (wC ad cy zb))) args s 0 0 (xA (wC ad cy zb))) 5 D (wC ad cy zb) σ 5 [(0, .ref (ad 50)), (1, .ref (ad f1)), (2, .ref (ad 25)), (3, .int x3), (4, .int x4)] [] := by
  intro n
  induction n with
  | zero => intro σ x3 x4 h; exact h.elim
  | succ n ih =>
    intro σ x3 x4 h
    rw [wLX5_choose_5] at h
    refine vv_iload (q := 7) X 4 dX5_choose_5 rfl rfl ?_
    refine vv_aload_n (q := 8) X 1 dX5_choose_7 rfl rfl rfl ?_
    refine vv_getf (q := 11) (ref := "HalfLadders$Orchard") (C := RX3) (T := TX3) (N := 10) X f1 3 1 (isO_lt 0 hf1 (Nat.le_of_ble_eq_true rfl)) (e_isO (ad := ad) (cy := cy) hf1 _ _) rfl (Nat.le_of_ble_eq_true rfl) (fun _ h => List.mem_cons_of_mem _ (List.mem_append_left _ (List.mem_append_left _ (List.mem_append_right _ h)))) (List.mem_of_getElem? (i := 1) rfl) rfl rfl dX5_choose_8 rfl ?_
    refine vv_icmp_ge (q := 14) X 61 dX5_choose_11 (by decide) rfl (fun c1 => ?_) (fun c1 => ?_)
    · have h := h.1 c1
      refine vv_sub (lv' := []) [] rfl ?_
      exact hK61 σ h
    · have h := h.2 c1
      refine vv_aload_n (q := 15) X 0 dX5_choose_14 rfl rfl rfl ?_
      refine vv_getf (q := 18) (ref := "HalfLadders$Plan") (C := RX5) (T := TX5) (N := 3) X 50 5 0 (Nat.le_of_ble_eq_true rfl) rfl rfl (Nat.le_of_ble_eq_true rfl) (fun _ h => List.mem_cons_of_mem _ (List.mem_append_left _ (List.mem_append_right _ h))) (List.mem_of_getElem? (i := 2) rfl) rfl rfl dX5_choose_15 rfl ?_
      refine vv_iload (q := 20) X 4 dX5_choose_18 rfl rfl ?_
      refine vv_aload_n (q := 21) X 0 dX5_choose_20 rfl rfl rfl ?_
      refine vv_aload_n (q := 22) X 2 dX5_choose_21 rfl rfl rfl ?_
      refine vv_iload_n (q := 23) X 3 dX5_choose_22 rfl rfl rfl ?_
      refine vv_iload (q := 25) X 4 dX5_choose_23 rfl rfl ?_
      refine vv_cVi (q := 28) (C := RX5) X 50 5 [.ref (ad 25), .int x3, .int x4] (kX5_firstOfBest l D X.2.2.1 h) (cwV 3 X.1.2.2.2.2 gX5_choose_X5_firstOfBest rfl rfl rfl (by decide +kernel) ⟨Nat.le_of_ble_eq_true rfl, Nat.le_of_ble_eq_true rfl⟩) (Nat.le_of_ble_eq_true rfl) rfl rfl rfl rfl (Nat.le_of_ble_eq_true rfl) dX5_choose_25 rfl (fun r2 u9 h9 => ?_)
      obtain ⟨h9, hu9⟩ := h9
      subst u9
      have h := h9
      obtain ⟨hin3, h⟩ := h
      refine vv_iast (q := 29) X 51 5 (Nat.le_of_ble_eq_true rfl) (fun _ => rfl) hin3 dX5_choose_28 rfl ?_
      refine vv_nm (fun σ4 hσ4 => ?_)
      have h := h σ4 hσ4
      refine vv_aload_n (q := 30) X 0 dX5_choose_29 rfl rfl rfl ?_
      refine vv_getf (q := 33) (ref := "HalfLadders$Plan") (C := RX5) (T := TX5) (N := 3) X 50 5 0 (Nat.le_of_ble_eq_true rfl) rfl rfl (Nat.le_of_ble_eq_true rfl) (fun _ h => List.mem_cons_of_mem _ (List.mem_append_left _ (List.mem_append_right _ h))) (List.mem_of_getElem? (i := 2) rfl) rfl rfl dX5_choose_30 rfl ?_
      refine vv_iload (q := 35) X 4 dX5_choose_33 rfl rfl ?_
      obtain ⟨hin5, h⟩ := h
      refine vv_iald (q := 36) X 51 5 (Nat.le_of_ble_eq_true rfl) (fun _ => rfl) hin5 dX5_choose_35 rfl ?_
      refine vv_iconst (q := 37) X (-1 : Int32) dX5_choose_36 (by decide) rfl ?_
      refine vv_icmp_eq (q := 40) X 55 dX5_choose_37 (by decide) rfl (fun c6 => ?_) (fun c6 => ?_)
      · have h := h.1 c6
        obtain ⟨z7, hz7⟩ : ∃ y : Int32, y = x4 + (1 : Int32) := ⟨_, rfl⟩
        have h := h z7 hz7
        refine vv_iinc (v := z7) (lv2 := [(4, .int z7), (0, .ref (ad 50)), (1, .ref (ad f1)), (2, .ref (ad 25)), (3, .int x3)]) (q := 58) X 4 dX5_choose_55 rfl (by rw [hz7]; rfl) (Nat.le_of_ble_eq_true rfl) rfl rfl ?_
        refine vv_goto X 5 dX5_choose_58 (by decide) ?_
        refine vv_sub (lv' := [(0, .ref (ad 50)), (1, .ref (ad f1)), (2, .ref (ad 25)), (3, .int x3), (4, .int z7)]) [1, 2, 3, 4, 0] rfl ?_
        exact ih σ4 x3 z7 h
      · have h := h.2 c6
        refine vv_iload_n (q := 41) X 3 dX5_choose_40 rfl rfl rfl ?_
        refine vv_aload_n (q := 42) X 2 dX5_choose_41 rfl rfl rfl ?_
        refine vv_getf (q := 45) (ref := "HalfLadders$Pairs") (C := RX4) (T := TX4) (N := 8) X 25 4 4 (Nat.le_of_ble_eq_true rfl) rfl rfl (Nat.le_of_ble_eq_true rfl) (fun _ h => List.mem_cons_of_mem _ (List.mem_append_right _ h)) (List.mem_of_getElem? (i := 3) rfl) rfl rfl dX5_choose_42 rfl ?_
        refine vv_aload_n (q := 46) X 0 dX5_choose_45 rfl rfl rfl ?_
        refine vv_getf (q := 49) (ref := "HalfLadders$Plan") (C := RX5) (T := TX5) (N := 3) X 50 5 0 (Nat.le_of_ble_eq_true rfl) rfl rfl (Nat.le_of_ble_eq_true rfl) (fun _ h => List.mem_cons_of_mem _ (List.mem_append_left _ (List.mem_append_right _ h))) (List.mem_of_getElem? (i := 2) rfl) rfl rfl dX5_choose_46 rfl ?_
        refine vv_iload (q := 51) X 4 dX5_choose_49 rfl rfl ?_
        obtain ⟨hin8, h⟩ := h
        refine vv_iald (q := 52) X 51 5 (Nat.le_of_ble_eq_true rfl) (fun _ => rfl) hin8 dX5_choose_51 rfl ?_
        obtain ⟨hin9, h⟩ := h
        refine vv_iald (q := 53) X 28 16 (Nat.le_of_ble_eq_true rfl) (fun _ => rfl) hin9 dX5_choose_52 rfl ?_
        refine vv_ior (q := 54) X dX5_choose_53 rfl ?_
        refine vv_topi (fun z10 hz10 => ?_)
        have h := h z10 hz10
        refine vv_istore_n (lv2 := [(3, .int z10), (0, .ref (ad 50)), (1, .ref (ad f1)), (2, .ref (ad 25)), (4, .int x4)]) (q := 55) X dX5_choose_54 rfl (Nat.le_of_ble_eq_true rfl) rfl rfl ?_
        obtain ⟨z11, hz11⟩ : ∃ y : Int32, y = x4 + (1 : Int32) := ⟨_, rfl⟩
        have h := h z11 hz11
        refine vv_iinc (v := z11) (lv2 := [(4, .int z11), (3, .int z10), (0, .ref (ad 50)), (1, .ref (ad f1)), (2, .ref (ad 25))]) (q := 58) X 4 dX5_choose_55 rfl (by rw [hz11]; rfl) (Nat.le_of_ble_eq_true rfl) rfl rfl ?_
        refine vv_goto X 5 dX5_choose_58 (by decide) ?_
        refine vv_sub (lv' := [(0, .ref (ad 50)), (1, .ref (ad f1)), (2, .ref (ad 25)), (3, .int z10), (4, .int z11)]) [2, 3, 4, 1, 0] rfl ?_
        exact ih σ4 z10 z11 h

def wX5_choose (σ : St) (a1 : Nat) (P : St → Prop) : Prop :=
isO a1 ∧
∃ n13 : Nat, wLX5_choose_5 a1 (fun (σ12 : St) =>
P σ12) P n13 σ (0 : Int32) (0 : Int32)

set_option maxHeartbeats 8000000 in
set_option maxRecDepth 100000 in
theorem kX5_choose (l : Launch) (D : va_G) {cy : Nat → ClassId} {ad : Nat → Nat} {zb : Nat → Nat} (hw : xOk (wC ad cy zb)) {σ : St} {a1 : Nat} {P : St → Prop} (h : wX5_choose σ a1 P) : MV l yX5_choose wsX5_choose rmX5_choose D cy (wC ad cy zb) [.ref (ad 50), .ref (ad a1), .ref (ad 25)] σ P := by
  unfold MV
  refine vv_met (cc := cX5_choose) (maxL := 5) (ret := none) hw (by decide +kernel) rfl [.ref (ad 50), .ref (ad a1), .ref (ad 25)] (Nat.le_of_ble_eq_true rfl) ?_
  intro p e s m args below meth c X hr
  have X : XX p s m args meth c cX5_choose 5 D cy (wC ad cy zb) wsX5_choose RX5 := X
  refine vv_sub (lv' := [(0, .ref (ad 50)), (1, .ref (ad a1)), (2, .ref (ad 25))]) [0, 1, 2] rfl ?_
  rw [wX5_choose] at h
  obtain ⟨ha1, h⟩ := h
  refine vv_iconst (q := 1) X (0 : Int32) dX5_choose_0 (by decide) rfl ?_
  refine vv_istore_n (lv2 := [(3, .int (0 : Int32)), (0, .ref (ad 50)), (1, .ref (ad a1)), (2, .ref (ad 25))]) (q := 2) X dX5_choose_1 rfl (Nat.le_of_ble_eq_true rfl) rfl rfl ?_
  refine vv_iconst (q := 3) X (0 : Int32) dX5_choose_2 (by decide) rfl ?_
  refine vv_istore (lv2 := [(4, .int (0 : Int32)), (3, .int (0 : Int32)), (0, .ref (ad 50)), (1, .ref (ad a1)), (2, .ref (ad 25))]) (q := 5) X dX5_choose_3 (Nat.le_of_ble_eq_true rfl) rfl rfl ?_
  obtain ⟨n13, h⟩ := h
  refine vv_sub (lv' := [(0, .ref (ad 50)), (1, .ref (ad a1)), (2, .ref (ad 25)), (3, .int (0 : Int32)), (4, .int (0 : Int32))]) [2, 3, 4, 1, 0] rfl ?_
  refine twLX5_choose_5 X hr a1 ha1 _ ?_ n13 σ (0 : Int32) (0 : Int32) h
  intro σ12 h
  exact vv_vret X hr dX5_choose_61 h

/-! X5_make: make(LHalfLadders$Orchard;LHalfLadders$Pairs;LHalfLadders$Now;)I -/
def rmX5_make : Room := { frames := 3, cells := 0, slots := 0, locals := 72 }
def wLX5_make_29 (f1 : Nat) (f3 : Nat) (f4 : Int32)  (K64 : St → Prop) (P : Int32 → St → Prop) : Nat → St → Int32 → Prop
  | 0, _, _ => False
  | n + 1, σ, x5 =>
    ((σ.1 25 0) ≤ x5 →
    K64 σ) ∧
    (¬ (σ.1 25 0) ≤ x5 →
    vp_in f4 5 ∧
    wX2_pickable σ f3 f1 x5 f4 (fun r7 : Int32 =>
    vp_in x5 16 ∧
    ∀ σ9 : St, σ9 = sI σ (53 + f4.toNatClampNeg) x5.toNatClampNeg r7 →
    ∀ z10 : Int32, z10 = x5 + (1 : Int32) →
    wLX5_make_29 f1 f3 f4 K64 P n σ9 z10))

set_option maxHeartbeats 4000000 in
set_option maxRecDepth 100000 in
theorem twLX5_make_29 {p : Program} {l : Launch} {e : Env} {s : State} {m : MethodId} {args : Array Value} {below : List Frame} {meth : Method} {c : Code} {D : va_G} {cy : Nat → ClassId} {ad : Nat → Nat} {zb : Nat → Nat} (X : XX p s m args meth c cX5_make 6 D cy (wC ad cy zb) wsX5_make RX5) (hr : meth.sig.returnType = (some .int)) (f1 : Nat) (f3 : Nat) (f4 : Int32) (hf1 : isO f1) (hf3 : isN f3)  (K64 : St → Prop) {P : Int32 → St → Prop} (hK64 : ∀ (σ : St), K64 σ → VV p l e rmX5_make s m args below meth c (MQ below (va_Qi P (xPost D (wC ad cy zb)) (xA (wC ad cy zb))) args s 0 0 (xA (wC ad cy zb))) 6 D (wC ad cy zb) σ 64 [(0, .ref (ad 50)), (1, .ref (ad f1)), (2, .ref (ad 25)), (3, .ref (ad f3)), (4, .int f4)] []) : ∀ (n : Nat) (σ : St) (x5 : Int32), wLX5_make_29 f1 f3 f4 K64 P n σ x5 → VV p l e rmX5_make s m args below meth c (MQ below (va_Qi P (xPost D (wC ad cy zb)) (xA (wC ad cy zb))) args s 0 0 (xA (wC ad cy zb))) 6 D (wC ad cy zb) σ 29 [(0, .ref (ad 50)), (1, .ref (ad f1)), (2, .ref (ad 25)), (3, .ref (ad f3)), (4, .int f4), (5, .int x5)] [] := by
  intro n
  induction n with
  | zero => intro σ x5 h; exact h.elim
  | succ n ih =>
    intro σ x5 h
    rw [wLX5_make_29] at h
    refine vv_iload (q := 31) X 5 dX5_make_29 rfl rfl ?_
    refine vv_aload_n (q := 32) X 2 dX5_make_31 rfl rfl rfl ?_
    refine vv_getf (q := 35) (ref := "HalfLadders$Pairs") (C := RX4) (T := TX4) (N := 8) X 25 4 0 (Nat.le_of_ble_eq_true rfl) rfl rfl (Nat.le_of_ble_eq_true rfl) (fun _ h => List.mem_cons_of_mem _ (List.mem_append_left _ (List.mem_append_right _ h))) (List.mem_of_getElem? (i := 3) rfl) rfl rfl dX5_make_32 rfl ?_
    refine vv_icmp_ge (q := 38) X 64 dX5_make_35 (by decide) rfl (fun c5 => ?_) (fun c5 => ?_)
    · have h := h.1 c5
      refine vv_sub (lv' := [(0, .ref (ad 50)), (1, .ref (ad f1)), (2, .ref (ad 25)), (3, .ref (ad f3)), (4, .int f4)]) [0, 1, 2, 3, 4] rfl ?_
      exact hK64 σ h
    · have h := h.2 c5
      refine vv_aload_n (q := 39) X 0 dX5_make_38 rfl rfl rfl ?_
      refine vv_getf (q := 42) (ref := "HalfLadders$Plan") (C := RX5) (T := TX5) (N := 3) X 50 5 1 (Nat.le_of_ble_eq_true rfl) rfl rfl (Nat.le_of_ble_eq_true rfl) (fun _ h => List.mem_cons_of_mem _ (List.mem_append_left _ (List.mem_append_left _ (List.mem_append_left _ (List.mem_append_right _ h))))) (List.mem_of_getElem? (i := 4) rfl) rfl rfl dX5_make_39 rfl ?_
      refine vv_iload (q := 44) X 4 dX5_make_42 rfl rfl ?_
      obtain ⟨hin6, h⟩ := h
      refine vv_aldA (q := 45) X 52 5 (Nat.le_of_ble_eq_true rfl) rfl hin6 dX5_make_44 rfl ?_
      refine vv_iload (q := 47) X 5 dX5_make_45 rfl rfl ?_
      refine vv_aload_n (q := 48) X 3 dX5_make_47 rfl rfl rfl ?_
      refine vv_aload_n (q := 49) X 1 dX5_make_48 rfl rfl rfl ?_
      refine vv_aload_n (q := 50) X 2 dX5_make_49 rfl rfl rfl ?_
      refine vv_iload (q := 52) X 5 dX5_make_50 rfl rfl ?_
      refine vv_iload (q := 54) X 4 dX5_make_52 rfl rfl ?_
      refine vv_cVi (q := 57) (C := RX2) X f3 2 [.ref (ad f1), .ref (ad 25), .int x5, .int f4] (kX2_pickable l D X.2.2.1 h) (cwV 4 X.1.2.2.2.2 gX5_make_X2_pickable rfl rfl rfl (by decide +kernel) ⟨Nat.le_of_ble_eq_true rfl, Nat.le_of_ble_eq_true rfl⟩) (isN_lt 0 hf3 (Nat.le_of_ble_eq_true rfl)) (e_isN (ad := ad) (cy := cy) hf3 _ _) rfl rfl rfl (Nat.le_of_ble_eq_true rfl) dX5_make_54 rfl (fun r7 u9 h9 => ?_)
      obtain ⟨h9, hu9⟩ := h9
      subst u9
      have h := h9
      obtain ⟨hin8, h⟩ := h
      refine vv_iast (q := 58) X (53 + f4.toNatClampNeg) 16 (eRgains_lt 0 hin6 (Nat.le_of_ble_eq_true rfl)) (fun f => eRgains (ad := ad) (cy := cy) hin6 f σ.2) hin8 dX5_make_57 rfl ?_
      refine vv_nm (fun σ9 hσ9 => ?_)
      have h := h σ9 hσ9
      obtain ⟨z10, hz10⟩ : ∃ y : Int32, y = x5 + (1 : Int32) := ⟨_, rfl⟩
      have h := h z10 hz10
      refine vv_iinc (v := z10) (lv2 := [(5, .int z10), (0, .ref (ad 50)), (1, .ref (ad f1)), (2, .ref (ad 25)), (3, .ref (ad f3)), (4, .int f4)]) (q := 61) X 5 dX5_make_58 rfl (by rw [hz10]; rfl) (Nat.le_of_ble_eq_true rfl) rfl rfl ?_
      refine vv_goto X 29 dX5_make_61 (by decide) ?_
      refine vv_sub (lv' := [(0, .ref (ad 50)), (1, .ref (ad f1)), (2, .ref (ad 25)), (3, .ref (ad f3)), (4, .int f4), (5, .int z10)]) [1, 2, 3, 4, 5, 0] rfl ?_
      exact ih σ9 z10 h

def wLX5_make_67 (f1 : Nat) (f3 : Nat) (f4 : Int32)  (K112 : St → Prop) (P : Int32 → St → Prop) : Nat → St → Int32 → Prop
  | 0, _, _ => False
  | n + 1, σ, x5 =>
    wX3_everybody σ f1 (fun r12 : Int32 =>
    (r12 < x5 →
    K112 σ) ∧
    (¬ r12 < x5 →
    wX5_canBeTaken σ x5 f4 (fun r14 : Int32 =>
    (r14 = 0 →
    ∀ z16 : Int32, z16 = x5 + (1 : Int32) →
    wLX5_make_67 f1 f3 f4 K112 P n σ z16) ∧
    (¬ r14 = 0 →
    vp_in f4 6 ∧
    wX5_mostFrom σ x5 f4 (fun r18 : Int32 =>
    vp_in x5 256 ∧
    ∀ σ20 : St, σ20 = sI σ (59 + f4.toNatClampNeg) x5.toNatClampNeg r18 →
    ∀ z21 : Int32, z21 = x5 + (1 : Int32) →
    wLX5_make_67 f1 f3 f4 K112 P n σ20 z21)))))

set_option maxHeartbeats 4000000 in
set_option maxRecDepth 100000 in
theorem twLX5_make_67 {p : Program} {l : Launch} {e : Env} {s : State} {m : MethodId} {args : Array Value} {below : List Frame} {meth : Method} {c : Code} {D : va_G} {cy : Nat → ClassId} {ad : Nat → Nat} {zb : Nat → Nat} (X : XX p s m args meth c cX5_make 6 D cy (wC ad cy zb) wsX5_make RX5) (hr : meth.sig.returnType = (some .int)) (f1 : Nat) (f3 : Nat) (f4 : Int32) (hf1 : isO f1) (hf3 : isN f3)  (K112 : St → Prop) {P : Int32 → St → Prop} (hK112 : ∀ (σ : St), K112 σ → VV p l e rmX5_make s m args below meth c (MQ below (va_Qi P (xPost D (wC ad cy zb)) (xA (wC ad cy zb))) args s 0 0 (xA (wC ad cy zb))) 6 D (wC ad cy zb) σ 112 [(0, .ref (ad 50)), (1, .ref (ad f1)), (2, .ref (ad 25)), (3, .ref (ad f3)), (4, .int f4)] []) : ∀ (n : Nat) (σ : St) (x5 : Int32), wLX5_make_67 f1 f3 f4 K112 P n σ x5 → VV p l e rmX5_make s m args below meth c (MQ below (va_Qi P (xPost D (wC ad cy zb)) (xA (wC ad cy zb))) args s 0 0 (xA (wC ad cy zb))) 6 D (wC ad cy zb) σ 67 [(0, .ref (ad 50)), (1, .ref (ad f1)), (2, .ref (ad 25)), (3, .ref (ad f3)), (4, .int f4), (5, .int x5)] [] := by
  intro n
  induction n with
  | zero => intro σ x5 h; exact h.elim
  | succ n ih =>
    intro σ x5 h
    rw [wLX5_make_67] at h
    refine vv_iload (q := 69) X 5 dX5_make_67 rfl rfl ?_
    refine vv_aload_n (q := 70) X 1 dX5_make_69 rfl rfl rfl ?_
    refine vv_cVi (q := 73) (C := RX3) X f1 3 [] (kX3_everybody l D X.2.2.1 h) (cwV 0 X.1.2.2.2.2 gX5_make_X3_everybody rfl rfl rfl (by decide +kernel) ⟨Nat.le_of_ble_eq_true rfl, Nat.le_of_ble_eq_true rfl⟩) (isO_lt 0 hf1 (Nat.le_of_ble_eq_true rfl)) (e_isO (ad := ad) (cy := cy) hf1 _ _) rfl rfl rfl (Nat.le_of_ble_eq_true rfl) dX5_make_70 rfl (fun r12 u9 h9 => ?_)
    obtain ⟨h9, hu9⟩ := h9
    subst u9
    have h := h9
    refine vv_icmp_gt (q := 76) X 112 dX5_make_73 (by decide) rfl (fun c13 => ?_) (fun c13 => ?_)
    · have h := h.1 c13
      refine vv_sub (lv' := [(0, .ref (ad 50)), (1, .ref (ad f1)), (2, .ref (ad 25)), (3, .ref (ad f3)), (4, .int f4)]) [0, 1, 2, 3, 4] rfl ?_
      exact hK112 σ h
    · have h := h.2 c13
      refine vv_aload_n (q := 77) X 2 dX5_make_76 rfl rfl rfl ?_
      refine vv_iload (q := 79) X 5 dX5_make_77 rfl rfl ?_
      refine vv_iload (q := 81) X 4 dX5_make_79 rfl rfl ?_
      refine vv_cSi (q := 84) X [.ref (ad 25), .int x5, .int f4] (kX5_canBeTaken l D X.2.2.1 h) (va_cwS 3 X.1.2.2.2.2 gX5_make_X5_canBeTaken rfl rfl rfl (by decide +kernel) ⟨Nat.le_of_ble_eq_true rfl, Nat.le_of_ble_eq_true rfl⟩) rfl rfl (Nat.le_of_ble_eq_true rfl) dX5_make_81 rfl (fun r14 u9 h9 => ?_)
      obtain ⟨h9, hu9⟩ := h9
      subst u9
      have h := h9
      refine vv_if_eq (q := 87) X 106 dX5_make_84 (by decide) rfl (fun c15 => ?_) (fun c15 => ?_)
      · have h := h.1 c15
        obtain ⟨z16, hz16⟩ : ∃ y : Int32, y = x5 + (1 : Int32) := ⟨_, rfl⟩
        have h := h z16 hz16
        refine vv_iinc (v := z16) (lv2 := [(5, .int z16), (0, .ref (ad 50)), (1, .ref (ad f1)), (2, .ref (ad 25)), (3, .ref (ad f3)), (4, .int f4)]) (q := 109) X 5 dX5_make_106 rfl (by rw [hz16]; rfl) (Nat.le_of_ble_eq_true rfl) rfl rfl ?_
        refine vv_goto X 67 dX5_make_109 (by decide) ?_
        refine vv_sub (lv' := [(0, .ref (ad 50)), (1, .ref (ad f1)), (2, .ref (ad 25)), (3, .ref (ad f3)), (4, .int f4), (5, .int z16)]) [1, 2, 3, 4, 5, 0] rfl ?_
        exact ih σ z16 h
      · have h := h.2 c15
        refine vv_aload_n (q := 88) X 0 dX5_make_87 rfl rfl rfl ?_
        refine vv_getf (q := 91) (ref := "HalfLadders$Plan") (C := RX5) (T := TX5) (N := 3) X 50 5 2 (Nat.le_of_ble_eq_true rfl) rfl rfl (Nat.le_of_ble_eq_true rfl) (fun _ h => List.mem_cons_of_mem _ (List.mem_append_left _ (List.mem_append_left _ (List.mem_append_left _ (List.mem_append_right _ h))))) (List.mem_of_getElem? (i := 1) rfl) rfl rfl dX5_make_88 rfl ?_
        refine vv_iload (q := 93) X 4 dX5_make_91 rfl rfl ?_
        obtain ⟨hin17, h⟩ := h
        refine vv_aldA (q := 94) X 58 6 (Nat.le_of_ble_eq_true rfl) rfl hin17 dX5_make_93 rfl ?_
        refine vv_iload (q := 96) X 5 dX5_make_94 rfl rfl ?_
        refine vv_aload_n (q := 97) X 0 dX5_make_96 rfl rfl rfl ?_
        refine vv_aload_n (q := 98) X 2 dX5_make_97 rfl rfl rfl ?_
        refine vv_iload (q := 100) X 5 dX5_make_98 rfl rfl ?_
        refine vv_iload (q := 102) X 4 dX5_make_100 rfl rfl ?_
        refine vv_cVi (q := 105) (C := RX5) X 50 5 [.ref (ad 25), .int x5, .int f4] (kX5_mostFrom l D X.2.2.1 h) (cwV 3 X.1.2.2.2.2 gX5_make_X5_mostFrom rfl rfl rfl (by decide +kernel) ⟨Nat.le_of_ble_eq_true rfl, Nat.le_of_ble_eq_true rfl⟩) (Nat.le_of_ble_eq_true rfl) rfl rfl rfl rfl (Nat.le_of_ble_eq_true rfl) dX5_make_102 rfl (fun r18 u9 h9 => ?_)
        obtain ⟨h9, hu9⟩ := h9
        subst u9
        have h := h9
        obtain ⟨hin19, h⟩ := h
        refine vv_iast (q := 106) X (59 + f4.toNatClampNeg) 256 (eRmost_lt 0 hin17 (Nat.le_of_ble_eq_true rfl)) (fun f => eRmost (ad := ad) (cy := cy) hin17 f σ.2) hin19 dX5_make_105 rfl ?_
        refine vv_nm (fun σ20 hσ20 => ?_)
        have h := h σ20 hσ20
        obtain ⟨z21, hz21⟩ : ∃ y : Int32, y = x5 + (1 : Int32) := ⟨_, rfl⟩
        have h := h z21 hz21
        refine vv_iinc (v := z21) (lv2 := [(5, .int z21), (0, .ref (ad 50)), (1, .ref (ad f1)), (2, .ref (ad 25)), (3, .ref (ad f3)), (4, .int f4)]) (q := 109) X 5 dX5_make_106 rfl (by rw [hz21]; rfl) (Nat.le_of_ble_eq_true rfl) rfl rfl ?_
        refine vv_goto X 67 dX5_make_109 (by decide) ?_
        refine vv_sub (lv' := [(0, .ref (ad 50)), (1, .ref (ad f1)), (2, .ref (ad 25)), (3, .ref (ad f3)), (4, .int f4), (5, .int z21)]) [1, 2, 3, 4, 5, 0] rfl ?_
        exact ih σ20 z21 h

def wLX5_make_21 (f1 : Nat) (f3 : Nat)  (K118 : St → Prop) (P : Int32 → St → Prop) : Nat → St → Int32 → Prop
  | 0, _, _ => False
  | n + 1, σ, x4 =>
    (x4 < 0 →
    K118 σ) ∧
    (¬ x4 < 0 →
    ∃ n25 : Nat, wLX5_make_29 f1 f3 x4 (fun (σ11 : St) =>
    ∃ n24 : Nat, wLX5_make_67 f1 f3 x4 (fun (σ22 : St) =>
    ∀ z23 : Int32, z23 = x4 + (-1 : Int32) →
    wLX5_make_21 f1 f3 K118 P n σ22 z23) P n24 σ11 (0 : Int32)) P n25 σ (0 : Int32))

set_option maxHeartbeats 4000000 in
set_option maxRecDepth 100000 in
theorem twLX5_make_21 {p : Program} {l : Launch} {e : Env} {s : State} {m : MethodId} {args : Array Value} {below : List Frame} {meth : Method} {c : Code} {D : va_G} {cy : Nat → ClassId} {ad : Nat → Nat} {zb : Nat → Nat} (X : XX p s m args meth c cX5_make 6 D cy (wC ad cy zb) wsX5_make RX5) (hr : meth.sig.returnType = (some .int)) (f1 : Nat) (f3 : Nat) (hf1 : isO f1) (hf3 : isN f3)  (K118 : St → Prop) {P : Int32 → St → Prop} (hK118 : ∀ (σ : St), K118 σ → VV p l e rmX5_make s m args below meth c (MQ below (va_Qi P (xPost D (wC ad cy zb)) (xA (wC ad cy zb))) args s 0 0 (xA (wC ad cy zb))) 6 D (wC ad cy zb) σ 118 [(0, .ref (ad 50)), (1, .ref (ad f1)), (2, .ref (ad 25))] []) : ∀ (n : Nat) (σ : St) (x4 : Int32), wLX5_make_21 f1 f3 K118 P n σ x4 → VV p l e rmX5_make s m args below meth c (MQ below (va_Qi P (xPost D (wC ad cy zb)) (xA (wC ad cy zb))) args s 0 0 (xA (wC ad cy zb))) 6 D (wC ad cy zb) σ 21 [(0, .ref (ad 50)), (1, .ref (ad f1)), (2, .ref (ad 25)), (3, .ref (ad f3)), (4, .int x4)] [] := by
  intro n
  induction n with
  | zero => intro σ x4 h; exact h.elim
  | succ n ih =>
    intro σ x4 h
    rw [wLX5_make_21] at h
    refine vv_iload (q := 23) X 4 dX5_make_21 rfl rfl ?_
    refine vv_if_lt (q := 26) X 118 dX5_make_23 (by decide) rfl (fun c4 => ?_) (fun c4 => ?_)
    · have h := h.1 c4
      refine vv_sub (lv' := [(0, .ref (ad 50)), (1, .ref (ad f1)), (2, .ref (ad 25))]) [0, 1, 2] rfl ?_
      exact hK118 σ h
    · have h := h.2 c4
      refine vv_iconst (q := 27) X (0 : Int32) dX5_make_26 (by decide) rfl ?_
      refine vv_istore (lv2 := [(5, .int (0 : Int32)), (0, .ref (ad 50)), (1, .ref (ad f1)), (2, .ref (ad 25)), (3, .ref (ad f3)), (4, .int x4)]) (q := 29) X dX5_make_27 (Nat.le_of_ble_eq_true rfl) rfl rfl ?_
      obtain ⟨n25, h⟩ := h
      refine vv_sub (lv' := [(0, .ref (ad 50)), (1, .ref (ad f1)), (2, .ref (ad 25)), (3, .ref (ad f3)), (4, .int x4), (5, .int (0 : Int32))]) [1, 2, 3, 4, 5, 0] rfl ?_
      refine twLX5_make_29 X hr f1 f3 x4 hf1 hf3 _ ?_ n25 σ (0 : Int32) h
      intro σ11 h
      refine vv_iconst (q := 65) X (0 : Int32) dX5_make_64 (by decide) rfl ?_
      refine vv_istore (lv2 := [(5, .int (0 : Int32)), (0, .ref (ad 50)), (1, .ref (ad f1)), (2, .ref (ad 25)), (3, .ref (ad f3)), (4, .int x4)]) (q := 67) X dX5_make_65 (Nat.le_of_ble_eq_true rfl) rfl rfl ?_
      obtain ⟨n24, h⟩ := h
      refine vv_sub (lv' := [(0, .ref (ad 50)), (1, .ref (ad f1)), (2, .ref (ad 25)), (3, .ref (ad f3)), (4, .int x4), (5, .int (0 : Int32))]) [1, 2, 3, 4, 5, 0] rfl ?_
      refine twLX5_make_67 X hr f1 f3 x4 hf1 hf3 _ ?_ n24 σ11 (0 : Int32) h
      intro σ22 h
      obtain ⟨z23, hz23⟩ : ∃ y : Int32, y = x4 + (-1 : Int32) := ⟨_, rfl⟩
      have h := h z23 hz23
      refine vv_iinc (v := z23) (lv2 := [(4, .int z23), (0, .ref (ad 50)), (1, .ref (ad f1)), (2, .ref (ad 25)), (3, .ref (ad f3))]) (q := 115) X 4 dX5_make_112 rfl (by rw [hz23]; rfl) (Nat.le_of_ble_eq_true rfl) rfl rfl ?_
      refine vv_goto X 21 dX5_make_115 (by decide) ?_
      refine vv_sub (lv' := [(0, .ref (ad 50)), (1, .ref (ad f1)), (2, .ref (ad 25)), (3, .ref (ad f3)), (4, .int z23)]) [1, 2, 3, 4, 0] rfl ?_
      exact ih σ22 z23 h

def wX5_make (σ : St) (a1 : Nat) (a3 : Nat) (P : Int32 → St → Prop) : Prop :=
isO a1 ∧
isN a3 ∧
vp_in (σ.1 a1 1) 6 ∧
∀ σ2 : St, σ2 = sF σ (59 + (σ.1 a1 1).toNatClampNeg) 256 (0 : Int32) →
∀ z3 : Int32, z3 = ((σ2.1 a1 1) - (1 : Int32)) →
∃ n30 : Nat, wLX5_make_21 a1 a3 (fun (σ26 : St) =>
wX5_choose σ26 a1 (fun σ27 : St =>
vp_in (0 : Int32) 6 ∧
vp_in (0 : Int32) 256 ∧
P (σ27.1 (59 + (0 : Int32).toNatClampNeg) (0 : Int32).toNatClampNeg) σ27)) P n30 σ2 z3

set_option maxHeartbeats 8000000 in
set_option maxRecDepth 100000 in
theorem kX5_make (l : Launch) (D : va_G) {cy : Nat → ClassId} {ad : Nat → Nat} {zb : Nat → Nat} (hw : xOk (wC ad cy zb)) {σ : St} {a1 : Nat} {a3 : Nat} {P : Int32 → St → Prop} (h : wX5_make σ a1 a3 P) : MI l yX5_make wsX5_make rmX5_make D cy (wC ad cy zb) [.ref (ad 50), .ref (ad a1), .ref (ad 25), .ref (ad a3)] σ P := by
  unfold MI
  refine vv_met (cc := cX5_make) (maxL := 6) (ret := (some .int)) hw (by decide +kernel) rfl [.ref (ad 50), .ref (ad a1), .ref (ad 25), .ref (ad a3)] (Nat.le_of_ble_eq_true rfl) ?_
  intro p e s m args below meth c X hr
  have X : XX p s m args meth c cX5_make 6 D cy (wC ad cy zb) wsX5_make RX5 := X
  refine vv_sub (lv' := [(0, .ref (ad 50)), (1, .ref (ad a1)), (2, .ref (ad 25)), (3, .ref (ad a3))]) [0, 1, 2, 3] rfl ?_
  rw [wX5_make] at h
  obtain ⟨ha1, h⟩ := h
  obtain ⟨ha3, h⟩ := h
  refine vv_aload_n (q := 1) X 0 dX5_make_0 rfl rfl rfl ?_
  refine vv_getf (q := 4) (ref := "HalfLadders$Plan") (C := RX5) (T := TX5) (N := 3) X 50 5 2 (Nat.le_of_ble_eq_true rfl) rfl rfl (Nat.le_of_ble_eq_true rfl) (fun _ h => List.mem_cons_of_mem _ (List.mem_append_left _ (List.mem_append_left _ (List.mem_append_left _ (List.mem_append_right _ h))))) (List.mem_of_getElem? (i := 1) rfl) rfl rfl dX5_make_1 rfl ?_
  refine vv_aload_n (q := 5) X 1 dX5_make_4 rfl rfl rfl ?_
  refine vv_getf (q := 8) (ref := "HalfLadders$Orchard") (C := RX3) (T := TX3) (N := 10) X a1 3 1 (isO_lt 0 ha1 (Nat.le_of_ble_eq_true rfl)) (e_isO (ad := ad) (cy := cy) ha1 _ _) rfl (Nat.le_of_ble_eq_true rfl) (fun _ h => List.mem_cons_of_mem _ (List.mem_append_left _ (List.mem_append_left _ (List.mem_append_right _ h)))) (List.mem_of_getElem? (i := 2) rfl) rfl rfl dX5_make_5 rfl ?_
  obtain ⟨hin1, h⟩ := h
  refine vv_aldA (q := 9) X 58 6 (Nat.le_of_ble_eq_true rfl) rfl hin1 dX5_make_8 rfl ?_
  refine vv_iconst (q := 10) X (0 : Int32) dX5_make_9 (by decide) rfl ?_
  refine vv_cSv (q := 13) (P := fun u => u = sF σ (59 + (σ.1 a1 1).toNatClampNeg) 256 (0 : Int32)) X [.ref (ad (59 + (σ.1 a1 1).toNatClampNeg)), .int (0 : Int32)] (kJ7_fill l D X.2.2.1 (k := (59 + (σ.1 a1 1).toNatClampNeg)) (n := 256) (eRmost_lt 0 hin1 (Nat.le_of_ble_eq_true rfl)) (fun f => eRmost (ad := ad) (cy := cy) hin1 f σ.2) (Nat.le_of_ble_eq_true rfl) rfl) (va_cwS 2 X.1.2.2.2.2 gX5_make_J7_fill_53178 rfl rfl rfl (by decide +kernel) ⟨Nat.le_of_ble_eq_true rfl, Nat.le_of_ble_eq_true rfl⟩) rfl rfl (Nat.le_of_ble_eq_true rfl) dX5_make_10 rfl (fun σ2 hσ2 => ?_)
  have h := h σ2 hσ2
  refine vv_aload_n (q := 14) X 1 dX5_make_13 rfl rfl rfl ?_
  refine vv_getf (q := 17) (ref := "HalfLadders$Orchard") (C := RX3) (T := TX3) (N := 10) X a1 3 1 (isO_lt 0 ha1 (Nat.le_of_ble_eq_true rfl)) (e_isO (ad := ad) (cy := cy) ha1 _ _) rfl (Nat.le_of_ble_eq_true rfl) (fun _ h => List.mem_cons_of_mem _ (List.mem_append_left _ (List.mem_append_left _ (List.mem_append_right _ h)))) (List.mem_of_getElem? (i := 2) rfl) rfl rfl dX5_make_14 rfl ?_
  refine vv_iconst (q := 18) X (1 : Int32) dX5_make_17 (by decide) rfl ?_
  refine vv_isub (q := 19) X dX5_make_18 rfl ?_
  refine vv_topi (fun z3 hz3 => ?_)
  have h := h z3 hz3
  refine vv_istore (lv2 := [(4, .int z3), (0, .ref (ad 50)), (1, .ref (ad a1)), (2, .ref (ad 25)), (3, .ref (ad a3))]) (q := 21) X dX5_make_19 (Nat.le_of_ble_eq_true rfl) rfl rfl ?_
  obtain ⟨n30, h⟩ := h
  refine vv_sub (lv' := [(0, .ref (ad 50)), (1, .ref (ad a1)), (2, .ref (ad 25)), (3, .ref (ad a3)), (4, .int z3)]) [1, 2, 3, 4, 0] rfl ?_
  refine twLX5_make_21 X hr a1 a3 ha1 ha3 _ ?_ n30 σ2 z3 h
  intro σ26 h
  refine vv_aload_n (q := 119) X 0 dX5_make_118 rfl rfl rfl ?_
  refine vv_aload_n (q := 120) X 1 dX5_make_119 rfl rfl rfl ?_
  refine vv_aload_n (q := 121) X 2 dX5_make_120 rfl rfl rfl ?_
  refine vv_cVv (q := 124) (C := RX5) X 50 5 [.ref (ad a1), .ref (ad 25)] (kX5_choose l D X.2.2.1 h) (cwV 2 X.1.2.2.2.2 gX5_make_X5_choose rfl rfl rfl (by decide +kernel) ⟨Nat.le_of_ble_eq_true rfl, Nat.le_of_ble_eq_true rfl⟩) (Nat.le_of_ble_eq_true rfl) rfl rfl rfl rfl (Nat.le_of_ble_eq_true rfl) dX5_make_121 rfl (fun σ27 h => ?_)
  refine vv_aload_n (q := 125) X 0 dX5_make_124 rfl rfl rfl ?_
  refine vv_getf (q := 128) (ref := "HalfLadders$Plan") (C := RX5) (T := TX5) (N := 3) X 50 5 2 (Nat.le_of_ble_eq_true rfl) rfl rfl (Nat.le_of_ble_eq_true rfl) (fun _ h => List.mem_cons_of_mem _ (List.mem_append_left _ (List.mem_append_left _ (List.mem_append_left _ (List.mem_append_right _ h))))) (List.mem_of_getElem? (i := 1) rfl) rfl rfl dX5_make_125 rfl ?_
  refine vv_iconst (q := 129) X (0 : Int32) dX5_make_128 (by decide) rfl ?_
  obtain ⟨hin28, h⟩ := h
  refine vv_aldA (q := 130) X 58 6 (Nat.le_of_ble_eq_true rfl) rfl hin28 dX5_make_129 rfl ?_
  refine vv_iconst (q := 131) X (0 : Int32) dX5_make_130 (by decide) rfl ?_
  obtain ⟨hin29, h⟩ := h
  refine vv_iald (q := 132) X (59 + (0 : Int32).toNatClampNeg) 256 (eRmost_lt 0 hin28 (Nat.le_of_ble_eq_true rfl)) (fun f => eRmost (ad := ad) (cy := cy) hin28 f σ27.2) hin29 dX5_make_131 rfl ?_
  exact vv_iret X hr dX5_make_132 h

/-! X5_carryOut: carryOut(LHalfLadders$Orchard;LHalfLadders$Pairs;LHalfLadders$Now;)V -/
def rmX5_carryOut : Room := { frames := 1, cells := 0, slots := 0, locals := 23 }
def wLX5_carryOut_3 (f1 : Nat) (f3 : Nat)  (K56 : St → Prop) (P : St → Prop) : Nat → St → Int32 → Prop
  | 0, _, _ => False
  | n + 1, σ, x4 =>
    ((σ.1 f1 1) ≤ x4 →
    K56 σ) ∧
    (¬ (σ.1 f1 1) ≤ x4 →
    vp_in x4 5 ∧
    ∀ z3 : Int32, z3 = (σ.1 51 x4.toNatClampNeg) →
    (z3 = (-1 : Int32) →
    ∀ z5 : Int32, z5 = x4 + (1 : Int32) →
    wLX5_carryOut_3 f1 f3 K56 P n σ z5) ∧
    (¬ z3 = (-1 : Int32) →
    vp_in z3 16 ∧
    vp_in x4 5 ∧
    vp_in z3 16 ∧
    wX2_pick σ f3 (σ.1 28 z3.toNatClampNeg) x4 (σ.1 (53 + x4.toNatClampNeg) z3.toNatClampNeg) (fun σ9 : St =>
    ∀ z10 : Int32, z10 = x4 + (1 : Int32) →
    wLX5_carryOut_3 f1 f3 K56 P n σ9 z10)))

set_option maxHeartbeats 4000000 in
set_option maxRecDepth 100000 in
theorem twLX5_carryOut_3 {p : Program} {l : Launch} {e : Env} {s : State} {m : MethodId} {args : Array Value} {below : List Frame} {meth : Method} {c : Code} {D : va_G} {cy : Nat → ClassId} {ad : Nat → Nat} {zb : Nat → Nat} (X : XX p s m args meth c cX5_carryOut 6 D cy (wC ad cy zb) wsX5_carryOut RX5) (hr : meth.sig.returnType = none) (f1 : Nat) (f3 : Nat) (hf1 : isO f1) (hf3 : isN f3)  (K56 : St → Prop) {P : St → Prop} (hK56 : ∀ (σ : St), K56 σ → VV p l e rmX5_carryOut s m args below meth c (MQ below (va_Qv P (xPost D (wC ad cy zb)) (xA (wC ad cy zb))) args s 0 0 (xA (wC ad cy zb))) 6 D (wC ad cy zb) σ 56 [] []) : ∀ (n : Nat) (σ : St) (x4 : Int32), wLX5_carryOut_3 f1 f3 K56 P n σ x4 → VV p l e rmX5_carryOut s m args below meth c (MQ below (va_Qv P (xPost D (wC ad cy zb)) (xA (wC ad cy zb))) args s 0 0 (xA (wC ad cy zb))) 6 D (wC ad cy zb) σ 3 [(0, .ref (ad 50)), (1, .ref (ad f1)), (2, .ref (ad 25)), (3, .ref (ad f3)), (4, .int x4)] [] := by
  intro n
  induction n with
  | zero => intro σ x4 h; exact h.elim
  | succ n ih =>
    intro σ x4 h
    rw [wLX5_carryOut_3] at h
    refine vv_iload (q := 5) X 4 dX5_carryOut_3 rfl rfl ?_
    refine vv_aload_n (q := 6) X 1 dX5_carryOut_5 rfl rfl rfl ?_
    refine vv_getf (q := 9) (ref := "HalfLadders$Orchard") (C := RX3) (T := TX3) (N := 10) X f1 3 1 (isO_lt 0 hf1 (Nat.le_of_ble_eq_true rfl)) (e_isO (ad := ad) (cy := cy) hf1 _ _) rfl (Nat.le_of_ble_eq_true rfl) (fun _ h => List.mem_cons_of_mem _ (List.mem_append_left _ (List.mem_append_left _ (List.mem_append_left _ (List.mem_append_right _ h))))) (List.mem_of_getElem? (i := 1) rfl) rfl rfl dX5_carryOut_6 rfl ?_
    refine vv_icmp_ge (q := 12) X 56 dX5_carryOut_9 (by decide) rfl (fun c1 => ?_) (fun c1 => ?_)
    · have h := h.1 c1
      refine vv_sub (lv' := []) [] rfl ?_
      exact hK56 σ h
    · have h := h.2 c1
      refine vv_aload_n (q := 13) X 0 dX5_carryOut_12 rfl rfl rfl ?_
      refine vv_getf (q := 16) (ref := "HalfLadders$Plan") (C := RX5) (T := TX5) (N := 3) X 50 5 0 (Nat.le_of_ble_eq_true rfl) rfl rfl (Nat.le_of_ble_eq_true rfl) (fun _ h => List.mem_cons_of_mem _ (List.mem_append_left _ (List.mem_append_left _ (List.mem_append_right _ h)))) (List.mem_of_getElem? (i := 2) rfl) rfl rfl dX5_carryOut_13 rfl ?_
      refine vv_iload (q := 18) X 4 dX5_carryOut_16 rfl rfl ?_
      obtain ⟨hin2, h⟩ := h
      refine vv_iald (q := 19) X 51 5 (Nat.le_of_ble_eq_true rfl) (fun _ => rfl) hin2 dX5_carryOut_18 rfl ?_
      refine vv_topi (fun z3 hz3 => ?_)
      have h := h z3 hz3
      refine vv_istore (lv2 := [(5, .int z3), (0, .ref (ad 50)), (1, .ref (ad f1)), (2, .ref (ad 25)), (3, .ref (ad f3)), (4, .int x4)]) (q := 21) X dX5_carryOut_19 (Nat.le_of_ble_eq_true rfl) rfl rfl ?_
      refine vv_iload (q := 23) X 0 dX5_carryOut_21 rfl rfl ?_
      refine vv_iconst (q := 24) X (-1 : Int32) dX5_carryOut_23 (by decide) rfl ?_
      refine vv_icmp_eq (q := 27) X 50 dX5_carryOut_24 (by decide) rfl (fun c4 => ?_) (fun c4 => ?_)
      · have h := h.1 c4
        obtain ⟨z5, hz5⟩ : ∃ y : Int32, y = x4 + (1 : Int32) := ⟨_, rfl⟩
        have h := h z5 hz5
        refine vv_iinc (v := z5) (lv2 := [(4, .int z5), (5, .int z3), (0, .ref (ad 50)), (1, .ref (ad f1)), (2, .ref (ad 25)), (3, .ref (ad f3))]) (q := 53) X 5 dX5_carryOut_50 rfl (by rw [hz5]; rfl) (Nat.le_of_ble_eq_true rfl) rfl rfl ?_
        refine vv_goto X 3 dX5_carryOut_53 (by decide) ?_
        refine vv_sub (lv' := [(0, .ref (ad 50)), (1, .ref (ad f1)), (2, .ref (ad 25)), (3, .ref (ad f3)), (4, .int z5)]) [2, 3, 4, 5, 0] rfl ?_
        exact ih σ z5 h
      · have h := h.2 c4
        refine vv_aload_n (q := 28) X 4 dX5_carryOut_27 rfl rfl rfl ?_
        refine vv_aload_n (q := 29) X 3 dX5_carryOut_28 rfl rfl rfl ?_
        refine vv_getf (q := 32) (ref := "HalfLadders$Pairs") (C := RX4) (T := TX4) (N := 8) X 25 4 4 (Nat.le_of_ble_eq_true rfl) rfl rfl (Nat.le_of_ble_eq_true rfl) (fun _ h => List.mem_cons_of_mem _ (List.mem_append_left _ (List.mem_append_right _ h))) (List.mem_of_getElem? (i := 3) rfl) rfl rfl dX5_carryOut_29 rfl ?_
        refine vv_iload (q := 34) X 0 dX5_carryOut_32 rfl rfl ?_
        obtain ⟨hin6, h⟩ := h
        refine vv_iald (q := 35) X 28 16 (Nat.le_of_ble_eq_true rfl) (fun _ => rfl) hin6 dX5_carryOut_34 rfl ?_
        refine vv_iload (q := 37) X 5 dX5_carryOut_35 rfl rfl ?_
        refine vv_aload_n (q := 38) X 1 dX5_carryOut_37 rfl rfl rfl ?_
        refine vv_getf (q := 41) (ref := "HalfLadders$Plan") (C := RX5) (T := TX5) (N := 3) X 50 5 1 (Nat.le_of_ble_eq_true rfl) rfl rfl (Nat.le_of_ble_eq_true rfl) (fun _ h => List.mem_cons_of_mem _ (List.mem_append_left _ (List.mem_append_left _ (List.mem_append_right _ h)))) (List.mem_of_getElem? (i := 4) rfl) rfl rfl dX5_carryOut_38 rfl ?_
        refine vv_iload (q := 43) X 5 dX5_carryOut_41 rfl rfl ?_
        obtain ⟨hin7, h⟩ := h
        refine vv_aldA (q := 44) X 52 5 (Nat.le_of_ble_eq_true rfl) rfl hin7 dX5_carryOut_43 rfl ?_
        refine vv_iload (q := 46) X 0 dX5_carryOut_44 rfl rfl ?_
        obtain ⟨hin8, h⟩ := h
        refine vv_iald (q := 47) X (53 + x4.toNatClampNeg) 16 (eRgains_lt 0 hin7 (Nat.le_of_ble_eq_true rfl)) (fun f => eRgains (ad := ad) (cy := cy) hin7 f σ.2) hin8 dX5_carryOut_46 rfl ?_
        refine vv_cVv (q := 50) (C := RX2) X f3 2 [.int (σ.1 28 z3.toNatClampNeg), .int x4, .int (σ.1 (53 + x4.toNatClampNeg) z3.toNatClampNeg)] (kX2_pick l D X.2.2.1 h) (cwV 3 X.1.2.2.2.2 gX5_carryOut_X2_pick rfl rfl rfl (by decide +kernel) ⟨Nat.le_of_ble_eq_true rfl, Nat.le_of_ble_eq_true rfl⟩) (isN_lt 0 hf3 (Nat.le_of_ble_eq_true rfl)) (e_isN (ad := ad) (cy := cy) hf3 _ _) rfl rfl rfl (Nat.le_of_ble_eq_true rfl) dX5_carryOut_47 rfl (fun σ9 h => ?_)
        obtain ⟨z10, hz10⟩ : ∃ y : Int32, y = x4 + (1 : Int32) := ⟨_, rfl⟩
        have h := h z10 hz10
        refine vv_iinc (v := z10) (lv2 := [(4, .int z10), (5, .int z3), (0, .ref (ad 50)), (1, .ref (ad f1)), (2, .ref (ad 25)), (3, .ref (ad f3))]) (q := 53) X 5 dX5_carryOut_50 rfl (by rw [hz10]; rfl) (Nat.le_of_ble_eq_true rfl) rfl rfl ?_
        refine vv_goto X 3 dX5_carryOut_53 (by decide) ?_
        refine vv_sub (lv' := [(0, .ref (ad 50)), (1, .ref (ad f1)), (2, .ref (ad 25)), (3, .ref (ad f3)), (4, .int z10)]) [2, 3, 4, 5, 0] rfl ?_
        exact ih σ9 z10 h

def wX5_carryOut (σ : St) (a1 : Nat) (a3 : Nat) (P : St → Prop) : Prop :=
isO a1 ∧
isN a3 ∧
∃ n12 : Nat, wLX5_carryOut_3 a1 a3 (fun (σ11 : St) =>
P σ11) P n12 σ (0 : Int32)

set_option maxHeartbeats 8000000 in
set_option maxRecDepth 100000 in
theorem kX5_carryOut (l : Launch) (D : va_G) {cy : Nat → ClassId} {ad : Nat → Nat} {zb : Nat → Nat} (hw : xOk (wC ad cy zb)) {σ : St} {a1 : Nat} {a3 : Nat} {P : St → Prop} (h : wX5_carryOut σ a1 a3 P) : MV l yX5_carryOut wsX5_carryOut rmX5_carryOut D cy (wC ad cy zb) [.ref (ad 50), .ref (ad a1), .ref (ad 25), .ref (ad a3)] σ P := by
  unfold MV
  refine vv_met (cc := cX5_carryOut) (maxL := 6) (ret := none) hw (by decide +kernel) rfl [.ref (ad 50), .ref (ad a1), .ref (ad 25), .ref (ad a3)] (Nat.le_of_ble_eq_true rfl) ?_
  intro p e s m args below meth c X hr
  have X : XX p s m args meth c cX5_carryOut 6 D cy (wC ad cy zb) wsX5_carryOut RX5 := X
  refine vv_sub (lv' := [(0, .ref (ad 50)), (1, .ref (ad a1)), (2, .ref (ad 25)), (3, .ref (ad a3))]) [0, 1, 2, 3] rfl ?_
  rw [wX5_carryOut] at h
  obtain ⟨ha1, h⟩ := h
  obtain ⟨ha3, h⟩ := h
  refine vv_iconst (q := 1) X (0 : Int32) dX5_carryOut_0 (by decide) rfl ?_
  refine vv_istore (lv2 := [(4, .int (0 : Int32)), (0, .ref (ad 50)), (1, .ref (ad a1)), (2, .ref (ad 25)), (3, .ref (ad a3))]) (q := 3) X dX5_carryOut_1 (Nat.le_of_ble_eq_true rfl) rfl rfl ?_
  obtain ⟨n12, h⟩ := h
  refine vv_sub (lv' := [(0, .ref (ad 50)), (1, .ref (ad a1)), (2, .ref (ad 25)), (3, .ref (ad a3)), (4, .int (0 : Int32))]) [1, 2, 3, 4, 0] rfl ?_
  refine twLX5_carryOut_3 X hr a1 a3 ha1 ha3 _ ?_ n12 σ (0 : Int32) h
  intro σ11 h
  exact vv_vret X hr dX5_carryOut_56 h

