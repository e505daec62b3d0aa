/-! X7_wholeOf: wholeOf(LHalfLadders$Pairs;I)I -/
def rmX7_wholeOf : Room := { frames := 1, cells := 0, slots := 0, locals := 21 }
def wLX7_wholeOf_20 (f2 : Int32) (f3 : Int32) (σ : St) (K86 : Int32 → Prop) (P : Int32 → Prop) : Nat → Int32 → Int32 → Prop
  | 0, _, _ => False
  | n + 1, x4, x5 =>
    ((σ.1 25 0) ≤ x5 →
    K86 x4) ∧
    (¬ (σ.1 25 0) ≤ x5 →
    vp_in x5 16 ∧
    ∀ z6 : Int32, z6 = (σ.1 28 x5.toNatClampNeg) →
    ((z6 &&& f3) = 0 →
    ∀ z8 : Int32, z8 = x5 + (1 : Int32) →
    wLX7_wholeOf_20 f2 f3 σ K86 P n x4 z8) ∧
    (¬ (z6 &&& f3) = 0 →
    (¬ (z6 &&& f2) = z6 →
    ∀ z10 : Int32, z10 = x5 + (1 : Int32) →
    wLX7_wholeOf_20 f2 f3 σ K86 P n x4 z10) ∧
    ((z6 &&& f2) = z6 →
    vp_in x5 16 ∧
    vp_in (f2 &&& (z6 ^^^ (-1 : Int32))) 256 ∧
    ∀ z13 : Int32, z13 = (if x4 < ((σ.1 31 x5.toNatClampNeg) + (σ.1 33 (f2 &&& (z6 ^^^ (-1 : Int32))).toNatClampNeg)) then ((σ.1 31 x5.toNatClampNeg) + (σ.1 33 (f2 &&& (z6 ^^^ (-1 : Int32))).toNatClampNeg)) else x4) →
    ∀ z14 : Int32, z14 = x5 + (1 : Int32) →
    wLX7_wholeOf_20 f2 f3 σ K86 P n z13 z14)))

set_option maxHeartbeats 4000000 in
set_option maxRecDepth 100000 in
theorem twLX7_wholeOf_20 {p : Program} {l : Launch} {e : Env} {s : State} {m : MethodId} {args : Array Value} {below : List Frame} {meth : Method} {c : Code} {D : va_G} {cy : Nat → ClassId} {ad : Nat → Nat} {zb : Nat → Nat} (X : XX p s m args meth c cX7_wholeOf 7 D cy (wC ad cy zb) wsX7_wholeOf RX7) (hr : meth.sig.returnType = (some .int)) (f2 : Int32) (f3 : Int32)  (σ : St) (K86 : Int32 → Prop) {P : Int32 → Prop} (hK86 : ∀ (x4 : Int32), K86 x4 → VV p l e rmX7_wholeOf s m args below meth c (MQ below (va_Qi (fun r u => P r ∧ u = σ) (xPost D (wC ad cy zb)) (xA (wC ad cy zb))) args s 0 0 (xA (wC ad cy zb))) 7 D (wC ad cy zb) σ 86 [(4, .int x4)] []) : ∀ (n : Nat) (x4 : Int32) (x5 : Int32), wLX7_wholeOf_20 f2 f3 σ K86 P n x4 x5 → VV p l e rmX7_wholeOf s m args below meth c (MQ below (va_Qi (fun r u => P r ∧ u = σ) (xPost D (wC ad cy zb)) (xA (wC ad cy zb))) args s 0 0 (xA (wC ad cy zb))) 7 D (wC ad cy zb) σ 20 [(0, .ref (ad 32)), (1, .ref (ad 25)), (2, .int f2), (3, .int f3), (4, .int x4), (5, .int x5)] [] := by
  intro n
  induction n with
  | zero => intro x4 x5 h; exact h.elim
  | succ n ih =>
    intro x4 x5 h
    rw [wLX7_wholeOf_20] at h
    refine vv_iload (q := 22) X 5 dX7_wholeOf_20 rfl rfl ?_
    refine vv_aload_n (q := 23) X 1 dX7_wholeOf_22 rfl rfl rfl ?_
    refine vv_getf (q := 26) (ref := "HalfLadders$Pairs") (C := RX4) (T := TX4) (N := 8) X 25 4 0 (Nat.le_of_ble_eq_true rfl) rfl rfl (Nat.le_of_ble_eq_true rfl) (fun _ h => List.mem_cons_of_mem _ (List.mem_append_right _ h)) (List.mem_of_getElem? (i := 2) rfl) rfl rfl dX7_wholeOf_23 rfl ?_
    refine vv_icmp_ge (q := 29) X 86 dX7_wholeOf_26 (by decide) rfl (fun c4 => ?_) (fun c4 => ?_)
    · have h := h.1 c4
      refine vv_sub (lv' := [(4, .int x4)]) [4] rfl ?_
      exact hK86 x4 h
    · have h := h.2 c4
      refine vv_aload_n (q := 30) X 1 dX7_wholeOf_29 rfl rfl rfl ?_
      refine vv_getf (q := 33) (ref := "HalfLadders$Pairs") (C := RX4) (T := TX4) (N := 8) X 25 4 4 (Nat.le_of_ble_eq_true rfl) rfl rfl (Nat.le_of_ble_eq_true rfl) (fun _ h => List.mem_cons_of_mem _ (List.mem_append_right _ h)) (List.mem_of_getElem? (i := 3) rfl) rfl rfl dX7_wholeOf_30 rfl ?_
      refine vv_iload (q := 35) X 5 dX7_wholeOf_33 rfl rfl ?_
      obtain ⟨hin5, h⟩ := h
      refine vv_iald (q := 36) X 28 16 (Nat.le_of_ble_eq_true rfl) (fun _ => rfl) hin5 dX7_wholeOf_35 rfl ?_
      refine vv_topi (fun z6 hz6 => ?_)
      have h := h z6 hz6
      refine vv_istore (lv2 := [(6, .int z6), (0, .ref (ad 32)), (1, .ref (ad 25)), (2, .int f2), (3, .int f3), (4, .int x4), (5, .int x5)]) (q := 38) X dX7_wholeOf_36 (Nat.le_of_ble_eq_true rfl) rfl rfl ?_
      refine vv_iload (q := 40) X 0 dX7_wholeOf_38 rfl rfl ?_
      refine vv_iload_n (q := 41) X 4 dX7_wholeOf_40 rfl rfl rfl ?_
      refine vv_iand (q := 42) X dX7_wholeOf_41 rfl ?_
      refine vv_if_eq (q := 45) X 80 dX7_wholeOf_42 (by decide) rfl (fun c7 => ?_) (fun c7 => ?_)
      · have h := h.1 c7
        obtain ⟨z8, hz8⟩ : ∃ y : Int32, y = x5 + (1 : Int32) := ⟨_, rfl⟩
        have h := h z8 hz8
        refine vv_iinc (v := z8) (lv2 := [(5, .int z8), (6, .int z6), (0, .ref (ad 32)), (1, .ref (ad 25)), (2, .int f2), (3, .int f3), (4, .int x4)]) (q := 83) X 6 dX7_wholeOf_80 rfl (by rw [hz8]; rfl) (Nat.le_of_ble_eq_true rfl) rfl rfl ?_
        refine vv_goto X 20 dX7_wholeOf_83 (by decide) ?_
        refine vv_sub (lv' := [(0, .ref (ad 32)), (1, .ref (ad 25)), (2, .int f2), (3, .int f3), (4, .int x4), (5, .int z8)]) [2, 3, 4, 5, 6, 0] rfl ?_
        exact ih x4 z8 h
      · have h := h.2 c7
        refine vv_iload (q := 47) X 0 dX7_wholeOf_45 rfl rfl ?_
        refine vv_iload_n (q := 48) X 3 dX7_wholeOf_47 rfl rfl rfl ?_
        refine vv_iand (q := 49) X dX7_wholeOf_48 rfl ?_
        refine vv_iload (q := 51) X 0 dX7_wholeOf_49 rfl rfl ?_
        refine vv_icmp_ne (q := 54) X 80 dX7_wholeOf_51 (by decide) rfl (fun c9 => ?_) (fun c9 => ?_)
        · have h := h.1 c9
          obtain ⟨z10, hz10⟩ : ∃ y : Int32, y = x5 + (1 : Int32) := ⟨_, rfl⟩
          have h := h z10 hz10
          refine vv_iinc (v := z10) (lv2 := [(5, .int z10), (6, .int z6), (0, .ref (ad 32)), (1, .ref (ad 25)), (2, .int f2), (3, .int f3), (4, .int x4)]) (q := 83) X 6 dX7_wholeOf_80 rfl (by rw [hz10]; rfl) (Nat.le_of_ble_eq_true rfl) rfl rfl ?_
          refine vv_goto X 20 dX7_wholeOf_83 (by decide) ?_
          refine vv_sub (lv' := [(0, .ref (ad 32)), (1, .ref (ad 25)), (2, .int f2), (3, .int f3), (4, .int x4), (5, .int z10)]) [2, 3, 4, 5, 6, 0] rfl ?_
          exact ih x4 z10 h
        · have h := h.2 c9
          refine vv_iload (q := 56) X 5 dX7_wholeOf_54 rfl rfl ?_
          refine vv_aload_n (q := 57) X 2 dX7_wholeOf_56 rfl rfl rfl ?_
          refine vv_getf (q := 60) (ref := "HalfLadders$Pairs") (C := RX4) (T := TX4) (N := 8) X 25 4 7 (Nat.le_of_ble_eq_true rfl) rfl rfl (Nat.le_of_ble_eq_true rfl) (fun _ h => List.mem_cons_of_mem _ (List.mem_append_right _ h)) (List.mem_of_getElem? (i := 4) rfl) rfl rfl dX7_wholeOf_57 rfl ?_
          refine vv_iload (q := 62) X 6 dX7_wholeOf_60 rfl rfl ?_
          obtain ⟨hin11, h⟩ := h
          refine vv_iald (q := 63) X 31 16 (Nat.le_of_ble_eq_true rfl) (fun _ => rfl) hin11 dX7_wholeOf_62 rfl ?_
          refine vv_aload_n (q := 64) X 1 dX7_wholeOf_63 rfl rfl rfl ?_
          refine vv_getf (q := 67) (ref := "HalfLadders$Sums") (C := RX7) (T := TX7) (N := 1) X 32 7 0 (Nat.le_of_ble_eq_true rfl) rfl rfl (Nat.le_of_ble_eq_true rfl) (fun _ h => List.mem_cons_of_mem _ (List.mem_append_left _ (List.mem_append_right _ h))) (List.mem_of_getElem? (i := 1) rfl) rfl rfl dX7_wholeOf_64 rfl ?_
          refine vv_iload_n (q := 68) X 3 dX7_wholeOf_67 rfl rfl rfl ?_
          refine vv_iload (q := 70) X 0 dX7_wholeOf_68 rfl rfl ?_
          refine vv_iconst (q := 71) X (-1 : Int32) dX7_wholeOf_70 (by decide) rfl ?_
          refine vv_ixor (q := 72) X dX7_wholeOf_71 rfl ?_
          refine vv_iand (q := 73) X dX7_wholeOf_72 rfl ?_
          obtain ⟨hin12, h⟩ := h
          refine vv_iald (q := 74) X 33 256 (Nat.le_of_ble_eq_true rfl) (fun _ => rfl) hin12 dX7_wholeOf_73 rfl ?_
          refine vv_iadd (q := 75) X dX7_wholeOf_74 rfl ?_
          refine vv_mmax (q := 78) X (List.mem_of_getElem? (i := 5) rfl) (List.mem_of_getElem? (i := 6) rfl) (List.mem_of_getElem? (i := 7) rfl) (List.mem_of_getElem? (i := 8) rfl) (Nat.le_of_ble_eq_true rfl) (Nat.le_of_ble_eq_true rfl) dX7_wholeOf_75 rfl ?_
          refine vv_topi (fun z13 hz13 => ?_)
          have h := h z13 hz13
          refine vv_istore (lv2 := [(4, .int z13), (6, .int z6), (0, .ref (ad 32)), (1, .ref (ad 25)), (2, .int f2), (3, .int f3), (5, .int x5)]) (q := 80) X dX7_wholeOf_78 (Nat.le_of_ble_eq_true rfl) rfl rfl ?_
          obtain ⟨z14, hz14⟩ : ∃ y : Int32, y = x5 + (1 : Int32) := ⟨_, rfl⟩
          have h := h z14 hz14
          refine vv_iinc (v := z14) (lv2 := [(5, .int z14), (4, .int z13), (6, .int z6), (0, .ref (ad 32)), (1, .ref (ad 25)), (2, .int f2), (3, .int f3)]) (q := 83) X 6 dX7_wholeOf_80 rfl (by rw [hz14]; rfl) (Nat.le_of_ble_eq_true rfl) rfl rfl ?_
          refine vv_goto X 20 dX7_wholeOf_83 (by decide) ?_
          refine vv_sub (lv' := [(0, .ref (ad 32)), (1, .ref (ad 25)), (2, .int f2), (3, .int f3), (4, .int z13), (5, .int z14)]) [3, 4, 5, 6, 1, 0] rfl ?_
          exact ih z13 z14 h

def wX7_wholeOf (σ : St) (a2 : Int32) (P : Int32 → Prop) : Prop :=
∀ z1 : Int32, z1 = (a2 &&& (-a2)) →
vp_in (a2 &&& (z1 ^^^ (-1 : Int32))) 256 ∧
∀ z3 : Int32, z3 = (σ.1 33 (a2 &&& (z1 ^^^ (-1 : Int32))).toNatClampNeg) →
∃ n16 : Nat, wLX7_wholeOf_20 a2 z1 σ (fun (y15 : Int32) =>
P y15) P n16 z3 (0 : Int32)

set_option maxHeartbeats 8000000 in
set_option maxRecDepth 100000 in
theorem kX7_wholeOf (l : Launch) (D : va_G) {cy : Nat → ClassId} {ad : Nat → Nat} {zb : Nat → Nat} (hw : xOk (wC ad cy zb)) {σ : St} {a2 : Int32} {P : Int32 → Prop} (h : wX7_wholeOf σ a2 P) : MI l yX7_wholeOf wsX7_wholeOf rmX7_wholeOf D cy (wC ad cy zb) [.ref (ad 32), .ref (ad 25), .int a2] σ (fun r u => P r ∧ u = σ) := by
  unfold MI
  refine vv_met (cc := cX7_wholeOf) (maxL := 7) (ret := (some .int)) hw (by decide +kernel) rfl [.ref (ad 32), .ref (ad 25), .int a2] (Nat.le_of_ble_eq_true rfl) ?_
  intro p e s m args below meth c X hr
  have X : XX p s m args meth c cX7_wholeOf 7 D cy (wC ad cy zb) wsX7_wholeOf RX7 := X
  refine vv_sub (lv' := [(0, .ref (ad 32)), (1, .ref (ad 25)), (2, .int a2)]) [0, 1, 2] rfl ?_
  rw [wX7_wholeOf] at h
  refine vv_iload_n (q := 1) X 2 dX7_wholeOf_0 rfl rfl rfl ?_
  refine vv_iload_n (q := 2) X 2 dX7_wholeOf_1 rfl rfl rfl ?_
  refine vv_ineg (q := 3) X dX7_wholeOf_2 rfl ?_
  refine vv_iand (q := 4) X dX7_wholeOf_3 rfl ?_
  refine vv_topi (fun z1 hz1 => ?_)
  have h := h z1 hz1
  refine vv_istore_n (lv2 := [(3, .int z1), (0, .ref (ad 32)), (1, .ref (ad 25)), (2, .int a2)]) (q := 5) X dX7_wholeOf_4 rfl (Nat.le_of_ble_eq_true rfl) rfl rfl ?_
  refine vv_aload_n (q := 6) X 1 dX7_wholeOf_5 rfl rfl rfl ?_
  refine vv_getf (q := 9) (ref := "HalfLadders$Sums") (C := RX7) (T := TX7) (N := 1) X 32 7 0 (Nat.le_of_ble_eq_true rfl) rfl rfl (Nat.le_of_ble_eq_true rfl) (fun _ h => List.mem_cons_of_mem _ (List.mem_append_left _ (List.mem_append_right _ h))) (List.mem_of_getElem? (i := 1) rfl) rfl rfl dX7_wholeOf_6 rfl ?_
  refine vv_iload_n (q := 10) X 3 dX7_wholeOf_9 rfl rfl rfl ?_
  refine vv_iload_n (q := 11) X 0 dX7_wholeOf_10 rfl rfl rfl ?_
  refine vv_iconst (q := 12) X (-1 : Int32) dX7_wholeOf_11 (by decide) rfl ?_
  refine vv_ixor (q := 13) X dX7_wholeOf_12 rfl ?_
  refine vv_iand (q := 14) X dX7_wholeOf_13 rfl ?_
  obtain ⟨hin2, h⟩ := h
  refine vv_iald (q := 15) X 33 256 (Nat.le_of_ble_eq_true rfl) (fun _ => rfl) hin2 dX7_wholeOf_14 rfl ?_
  refine vv_topi (fun z3 hz3 => ?_)
  have h := h z3 hz3
  refine vv_istore (lv2 := [(4, .int z3), (3, .int z1), (0, .ref (ad 32)), (1, .ref (ad 25)), (2, .int a2)]) (q := 17) X dX7_wholeOf_15 (Nat.le_of_ble_eq_true rfl) rfl rfl ?_
  refine vv_iconst (q := 18) X (0 : Int32) dX7_wholeOf_17 (by decide) rfl ?_
  refine vv_istore (lv2 := [(5, .int (0 : Int32)), (4, .int z3), (3, .int z1), (0, .ref (ad 32)), (1, .ref (ad 25)), (2, .int a2)]) (q := 20) X dX7_wholeOf_18 (Nat.le_of_ble_eq_true rfl) rfl rfl ?_
  obtain ⟨n16, h⟩ := h
  refine vv_sub (lv' := [(0, .ref (ad 32)), (1, .ref (ad 25)), (2, .int a2), (3, .int z1), (4, .int z3), (5, .int (0 : Int32))]) [3, 4, 5, 2, 1, 0] rfl ?_
  refine twLX7_wholeOf_20 X hr a2 z1  σ _ ?_ n16 z3 (0 : Int32) h
  intro y15 h
  refine vv_iload (q := 88) X 0 dX7_wholeOf_86 rfl rfl ?_
  exact vv_iret X hr dX7_wholeOf_88 ⟨h, rfl⟩

/-! X7_reckon: reckon(LHalfLadders$Orchard;LHalfLadders$Pairs;)V -/
def rmX7_reckon : Room := { frames := 2, cells := 0, slots := 0, locals := 47 }
def wLX7_reckon_9 (f1 : Nat)  (K35 : St → Prop) (P : St → Prop) : Nat → St → Int32 → Prop
  | 0, _, _ => False
  | n + 1, σ, x3 =>
    wX3_everybody σ f1 (fun r3 : Int32 =>
    (r3 < x3 →
    K35 σ) ∧
    (¬ r3 < x3 →
    wX7_wholeOf σ x3 (fun r5 : Int32 =>
    vp_in x3 256 ∧
    ∀ σ7 : St, σ7 = sI σ 33 x3.toNatClampNeg r5 →
    ∀ z8 : Int32, z8 = x3 + (1 : Int32) →
    wLX7_reckon_9 f1 K35 P n σ7 z8)))

set_option maxHeartbeats 4000000 in
set_option maxRecDepth 100000 in
theorem twLX7_reckon_9 {p : Program} {l : Launch} {e : Env} {s : State} {m : MethodId} {args : Array Value} {below : List Frame} {meth : Method} {c : Code} {D : va_G} {cy : Nat → ClassId} {ad : Nat → Nat} {zb : Nat → Nat} (X : XX p s m args meth c cX7_reckon 4 D cy (wC ad cy zb) wsX7_reckon RX7) (hr : meth.sig.returnType = none) (f1 : Nat) (hf1 : isO f1)  (K35 : St → Prop) {P : St → Prop} (hK35 : ∀ (σ : St), K35 σ → VV p l e rmX7_reckon s m args below meth c (MQ below (va_Qv P (xPost D (wC ad cy zb)) (xA (wC ad cy zb))) args s 0 0 (xA (wC ad cy zb))) 4 D (wC ad cy zb) σ 35 [] []) : ∀ (n : Nat) (σ : St) (x3 : Int32), wLX7_reckon_9 f1 K35 P n σ x3 → VV p l e rmX7_reckon s m args below meth c (MQ below (va_Qv P (xPost D (wC ad cy zb)) (xA (wC ad cy zb))) args s 0 0 (xA (wC ad cy zb))) 4 D (wC ad cy zb) σ 9 [(0, .ref (ad 32)), (1, .ref (ad f1)), (2, .ref (ad 25)), (3, .int x3)] [] := by
  intro n
  induction n with
  | zero => intro σ x3 h; exact h.elim
  | succ n ih =>
    intro σ x3 h
    rw [wLX7_reckon_9] at h
    refine vv_iload_n (q := 10) X 3 dX7_reckon_9 rfl rfl rfl ?_
    refine vv_aload_n (q := 11) X 1 dX7_reckon_10 rfl rfl rfl ?_
    refine vv_cVi (q := 14) (C := RX3) X f1 3 [] (kX3_everybody l D X.2.2.1 h) (cwV 0 X.1.2.2.2.2 gX7_reckon_X3_everybody rfl rfl rfl (by decide +kernel) ⟨Nat.le_of_ble_eq_true rfl, Nat.le_of_ble_eq_true rfl⟩) (isO_lt 0 hf1 (Nat.le_of_ble_eq_true rfl)) (e_isO (ad := ad) (cy := cy) hf1 _ _) rfl rfl rfl (Nat.le_of_ble_eq_true rfl) dX7_reckon_11 rfl (fun r3 u9 h9 => ?_)
    obtain ⟨h9, hu9⟩ := h9
    subst u9
    have h := h9
    refine vv_icmp_gt (q := 17) X 35 dX7_reckon_14 (by decide) rfl (fun c4 => ?_) (fun c4 => ?_)
    · have h := h.1 c4
      refine vv_sub (lv' := []) [] rfl ?_
      exact hK35 σ h
    · have h := h.2 c4
      refine vv_aload_n (q := 18) X 0 dX7_reckon_17 rfl rfl rfl ?_
      refine vv_getf (q := 21) (ref := "HalfLadders$Sums") (C := RX7) (T := TX7) (N := 1) X 32 7 0 (Nat.le_of_ble_eq_true rfl) rfl rfl (Nat.le_of_ble_eq_true rfl) (fun _ h => List.mem_cons_of_mem _ (List.mem_append_left _ (List.mem_append_left _ (List.mem_append_right _ h)))) (List.mem_of_getElem? (i := 1) rfl) rfl rfl dX7_reckon_18 rfl ?_
      refine vv_iload_n (q := 22) X 3 dX7_reckon_21 rfl rfl rfl ?_
      refine vv_aload_n (q := 23) X 0 dX7_reckon_22 rfl rfl rfl ?_
      refine vv_aload_n (q := 24) X 2 dX7_reckon_23 rfl rfl rfl ?_
      refine vv_iload_n (q := 25) X 3 dX7_reckon_24 rfl rfl rfl ?_
      refine vv_cVi (q := 28) (C := RX7) X 32 7 [.ref (ad 25), .int x3] (kX7_wholeOf l D X.2.2.1 h) (cwV 2 X.1.2.2.2.2 gX7_reckon_X7_wholeOf rfl rfl rfl (by decide +kernel) ⟨Nat.le_of_ble_eq_true rfl, Nat.le_of_ble_eq_true rfl⟩) (Nat.le_of_ble_eq_true rfl) rfl rfl rfl rfl (Nat.le_of_ble_eq_true rfl) dX7_reckon_25 rfl (fun r5 u9 h9 => ?_)
      obtain ⟨h9, hu9⟩ := h9
      subst u9
      have h := h9
      obtain ⟨hin6, h⟩ := h
      refine vv_iast (q := 29) X 33 256 (Nat.le_of_ble_eq_true rfl) (fun _ => rfl) hin6 dX7_reckon_28 rfl ?_
      refine vv_nm (fun σ7 hσ7 => ?_)
      have h := h σ7 hσ7
      obtain ⟨z8, hz8⟩ : ∃ y : Int32, y = x3 + (1 : Int32) := ⟨_, rfl⟩
      have h := h z8 hz8
      refine vv_iinc (v := z8) (lv2 := [(3, .int z8), (0, .ref (ad 32)), (1, .ref (ad f1)), (2, .ref (ad 25))]) (q := 32) X 3 dX7_reckon_29 rfl (by rw [hz8]; rfl) (Nat.le_of_ble_eq_true rfl) rfl rfl ?_
      refine vv_goto X 9 dX7_reckon_32 (by decide) ?_
      refine vv_sub (lv' := [(0, .ref (ad 32)), (1, .ref (ad f1)), (2, .ref (ad 25)), (3, .int z8)]) [1, 2, 3, 0] rfl ?_
      exact ih σ7 z8 h

def wX7_reckon (σ : St) (a1 : Nat) (P : St → Prop) : Prop :=
isO a1 ∧
vp_in (0 : Int32) 256 ∧
∀ σ2 : St, σ2 = sI σ 33 (0 : Int32).toNatClampNeg (0 : Int32) →
∃ n10 : Nat, wLX7_reckon_9 a1 (fun (σ9 : St) =>
P σ9) P n10 σ2 (1 : Int32)

set_option maxHeartbeats 8000000 in
set_option maxRecDepth 100000 in
theorem kX7_reckon (l : Launch) (D : va_G) {cy : Nat → ClassId} {ad : Nat → Nat} {zb : Nat → Nat} (hw : xOk (wC ad cy zb)) {σ : St} {a1 : Nat} {P : St → Prop} (h : wX7_reckon σ a1 P) : MV l yX7_reckon wsX7_reckon rmX7_reckon D cy (wC ad cy zb) [.ref (ad 32), .ref (ad a1), .ref (ad 25)] σ P := by
  unfold MV
  refine vv_met (cc := cX7_reckon) (maxL := 4) (ret := none) hw (by decide +kernel) rfl [.ref (ad 32), .ref (ad a1), .ref (ad 25)] (Nat.le_of_ble_eq_true rfl) ?_
  intro p e s m args below meth c X hr
  have X : XX p s m args meth c cX7_reckon 4 D cy (wC ad cy zb) wsX7_reckon RX7 := X
  refine vv_sub (lv' := [(0, .ref (ad 32)), (1, .ref (ad a1)), (2, .ref (ad 25))]) [0, 1, 2] rfl ?_
  rw [wX7_reckon] at h
  obtain ⟨ha1, h⟩ := h
  refine vv_aload_n (q := 1) X 0 dX7_reckon_0 rfl rfl rfl ?_
  refine vv_getf (q := 4) (ref := "HalfLadders$Sums") (C := RX7) (T := TX7) (N := 1) X 32 7 0 (Nat.le_of_ble_eq_true rfl) rfl rfl (Nat.le_of_ble_eq_true rfl) (fun _ h => List.mem_cons_of_mem _ (List.mem_append_left _ (List.mem_append_left _ (List.mem_append_right _ h)))) (List.mem_of_getElem? (i := 1) rfl) rfl rfl dX7_reckon_1 rfl ?_
  refine vv_iconst (q := 5) X (0 : Int32) dX7_reckon_4 (by decide) rfl ?_
  refine vv_iconst (q := 6) X (0 : Int32) dX7_reckon_5 (by decide) rfl ?_
  obtain ⟨hin1, h⟩ := h
  refine vv_iast (q := 7) X 33 256 (Nat.le_of_ble_eq_true rfl) (fun _ => rfl) hin1 dX7_reckon_6 rfl ?_
  refine vv_nm (fun σ2 hσ2 => ?_)
  have h := h σ2 hσ2
  refine vv_iconst (q := 8) X (1 : Int32) dX7_reckon_7 (by decide) rfl ?_
  refine vv_istore_n (lv2 := [(3, .int (1 : Int32)), (0, .ref (ad 32)), (1, .ref (ad a1)), (2, .ref (ad 25))]) (q := 9) X dX7_reckon_8 rfl (Nat.le_of_ble_eq_true rfl) rfl rfl ?_
  obtain ⟨n10, h⟩ := h
  refine vv_sub (lv' := [(0, .ref (ad 32)), (1, .ref (ad a1)), (2, .ref (ad 25)), (3, .int (1 : Int32))]) [1, 2, 3, 0] rfl ?_
  refine twLX7_reckon_9 X hr a1 ha1 _ ?_ n10 σ2 (1 : Int32) h
  intro σ9 h
  exact vv_vret X hr dX7_reckon_35 h

/-! X7_grownOverOrders: grownOverOrders(II)I -/
def rmX7_grownOverOrders : Room := { frames := 1, cells := 0, slots := 0, locals := 20 }
def wLX7_grownOverOrders_10 (f2 : Int32) (f4 : Int32) (σ : St) (K82 : Int32 → Prop) (P : Int32 → Prop) : Nat → Int32 → Int32 → Prop
  | 0, _, _ => False
  | n + 1, x3, x5 =>
    (((1 : Int32) <<< (f2 &&& 31)) ≤ x5 →
    K82 x3) ∧
    (¬ ((1 : Int32) <<< (f2 &&& 31)) ≤ x5 →
    (¬ (x5 &&& f4) = 0 →
    ∀ z4 : Int32, z4 = x5 + (1 : Int32) →
    wLX7_grownOverOrders_10 f2 f4 σ K82 P n x3 z4) ∧
    ((x5 &&& f4) = 0 →
    wJ6_bitCount_0f7a4 σ x5 (fun r5 : Int32 =>
    vp_in r5 9 ∧
    vp_in ((f2 - (1 : Int32)) - r5) 9 ∧
    ∀ z8 : Int32, z8 = ((zT 2 r5.toNatClampNeg) * (zT 2 ((f2 - (1 : Int32)) - r5).toNatClampNeg)) →
    vp_in (x5 ||| f4) 256 ∧
    vp_in x5 256 ∧
    ∀ z11 : Int32, z11 = (x3 + (z8 * ((σ.1 33 (x5 ||| f4).toNatClampNeg) - (σ.1 33 x5.toNatClampNeg)))) →
    ∀ z12 : Int32, z12 = x5 + (1 : Int32) →
    wLX7_grownOverOrders_10 f2 f4 σ K82 P n z11 z12)))

set_option maxHeartbeats 4000000 in
set_option maxRecDepth 100000 in
theorem twLX7_grownOverOrders_10 {p : Program} {l : Launch} {e : Env} {s : State} {m : MethodId} {args : Array Value} {below : List Frame} {meth : Method} {c : Code} {D : va_G} {cy : Nat → ClassId} {ad : Nat → Nat} {zb : Nat → Nat} (X : XX p s m args meth c cX7_grownOverOrders 8 D cy (wC ad cy zb) wsX7_grownOverOrders RX7) (hr : meth.sig.returnType = (some .int)) (f2 : Int32) (f4 : Int32)  (σ : St) (K82 : Int32 → Prop) {P : Int32 → Prop} (hK82 : ∀ (x3 : Int32), K82 x3 → VV p l e rmX7_grownOverOrders s m args below meth c (MQ below (va_Qi (fun r u => P r ∧ u = σ) (xPost D (wC ad cy zb)) (xA (wC ad cy zb))) args s 0 0 (xA (wC ad cy zb))) 8 D (wC ad cy zb) σ 82 [(3, .int x3)] []) : ∀ (n : Nat) (x3 : Int32) (x5 : Int32), wLX7_grownOverOrders_10 f2 f4 σ K82 P n x3 x5 → VV p l e rmX7_grownOverOrders s m args below meth c (MQ below (va_Qi (fun r u => P r ∧ u = σ) (xPost D (wC ad cy zb)) (xA (wC ad cy zb))) args s 0 0 (xA (wC ad cy zb))) 8 D (wC ad cy zb) σ 10 [(0, .ref (ad 32)), (2, .int f2), (3, .int x3), (4, .int f4), (5, .int x5)] [] := by
  intro n
  induction n with
  | zero => intro x3 x5 h; exact h.elim
  | succ n ih =>
    intro x3 x5 h
    rw [wLX7_grownOverOrders_10] at h
    refine vv_iload (q := 12) X 4 dX7_grownOverOrders_10 rfl rfl ?_
    refine vv_iconst (q := 13) X (1 : Int32) dX7_grownOverOrders_12 (by decide) rfl ?_
    refine vv_iload_n (q := 14) X 1 dX7_grownOverOrders_13 rfl rfl rfl ?_
    refine vv_ishl (q := 15) X dX7_grownOverOrders_14 rfl ?_
    refine vv_icmp_ge (q := 18) X 82 dX7_grownOverOrders_15 (by decide) rfl (fun c2 => ?_) (fun c2 => ?_)
    · have h := h.1 c2
      refine vv_sub (lv' := [(3, .int x3)]) [2] rfl ?_
      exact hK82 x3 h
    · have h := h.2 c2
      refine vv_iload (q := 20) X 4 dX7_grownOverOrders_18 rfl rfl ?_
      refine vv_iload (q := 22) X 3 dX7_grownOverOrders_20 rfl rfl ?_
      refine vv_iand (q := 23) X dX7_grownOverOrders_22 rfl ?_
      refine vv_if_ne (q := 26) X 76 dX7_grownOverOrders_23 (by decide) rfl (fun c3 => ?_) (fun c3 => ?_)
      · have h := h.1 c3
        obtain ⟨z4, hz4⟩ : ∃ y : Int32, y = x5 + (1 : Int32) := ⟨_, rfl⟩
        have h := h z4 hz4
        refine vv_iinc (v := z4) (lv2 := [(5, .int z4), (0, .ref (ad 32)), (2, .int f2), (3, .int x3), (4, .int f4)]) (q := 79) X 4 dX7_grownOverOrders_76 rfl (by rw [hz4]; rfl) (Nat.le_of_ble_eq_true rfl) rfl rfl ?_
        refine vv_goto X 10 dX7_grownOverOrders_79 (by decide) ?_
        refine vv_sub (lv' := [(0, .ref (ad 32)), (2, .int f2), (3, .int x3), (4, .int f4), (5, .int z4)]) [1, 2, 3, 4, 0] rfl ?_
        exact ih x3 z4 h
      · have h := h.2 c3
        refine vv_iload (q := 28) X 4 dX7_grownOverOrders_26 rfl rfl ?_
        refine vv_cSi (q := 31) X [.int x5] (kJ6_bitCount_0f7a4 l D X.2.2.1 h) (va_cwS 1 X.1.2.2.2.2 gX7_grownOverOrders_J6_bitCount_0f7a4 rfl rfl rfl (by decide +kernel) ⟨Nat.le_of_ble_eq_true rfl, Nat.le_of_ble_eq_true rfl⟩) rfl rfl (Nat.le_of_ble_eq_true rfl) dX7_grownOverOrders_28 rfl (fun r5 u9 h9 => ?_)
        obtain ⟨h9, hu9⟩ := h9
        subst u9
        have h := h9
        refine vv_istore (lv2 := [(6, .int r5), (0, .ref (ad 32)), (2, .int f2), (3, .int x3), (4, .int f4), (5, .int x5)]) (q := 33) X dX7_grownOverOrders_31 (Nat.le_of_ble_eq_true rfl) rfl rfl ?_
        refine vv_getsN (q := 36) X dX7_grownOverOrders_33 rfl ?_
        refine vv_iload (q := 38) X 0 dX7_grownOverOrders_36 rfl rfl ?_
        obtain ⟨hin6, h⟩ := h
        refine vv_siald (q := 39) X 2 9 (Nat.le_of_ble_eq_true rfl) rfl hin6 dX7_grownOverOrders_38 rfl ?_
        refine vv_getsN (q := 42) X dX7_grownOverOrders_39 rfl ?_
        refine vv_iload_n (q := 43) X 2 dX7_grownOverOrders_42 rfl rfl rfl ?_
        refine vv_iconst (q := 44) X (1 : Int32) dX7_grownOverOrders_43 (by decide) rfl ?_
        refine vv_isub (q := 45) X dX7_grownOverOrders_44 rfl ?_
        refine vv_iload (q := 47) X 0 dX7_grownOverOrders_45 rfl rfl ?_
        refine vv_isub (q := 48) X dX7_grownOverOrders_47 rfl ?_
        obtain ⟨hin7, h⟩ := h
        refine vv_siald (q := 49) X 2 9 (Nat.le_of_ble_eq_true rfl) rfl hin7 dX7_grownOverOrders_48 rfl ?_
        refine vv_imul (q := 50) X dX7_grownOverOrders_49 rfl ?_
        refine vv_topi (fun z8 hz8 => ?_)
        have h := h z8 hz8
        refine vv_istore (lv2 := [(7, .int z8), (6, .int r5), (0, .ref (ad 32)), (2, .int f2), (3, .int x3), (4, .int f4), (5, .int x5)]) (q := 52) X dX7_grownOverOrders_50 (Nat.le_of_ble_eq_true rfl) rfl rfl ?_
        refine vv_iload_n (q := 53) X 4 dX7_grownOverOrders_52 rfl rfl rfl ?_
        refine vv_iload (q := 55) X 0 dX7_grownOverOrders_53 rfl rfl ?_
        refine vv_aload_n (q := 56) X 2 dX7_grownOverOrders_55 rfl rfl rfl ?_
        refine vv_getf (q := 59) (ref := "HalfLadders$Sums") (C := RX7) (T := TX7) (N := 1) X 32 7 0 (Nat.le_of_ble_eq_true rfl) rfl rfl (Nat.le_of_ble_eq_true rfl) (fun _ h => List.mem_cons_of_mem _ (List.mem_append_right _ h)) (List.mem_of_getElem? (i := 1) rfl) rfl rfl dX7_grownOverOrders_56 rfl ?_
        refine vv_iload (q := 61) X 6 dX7_grownOverOrders_59 rfl rfl ?_
        refine vv_iload (q := 63) X 5 dX7_grownOverOrders_61 rfl rfl ?_
        refine vv_ior (q := 64) X dX7_grownOverOrders_63 rfl ?_
        obtain ⟨hin9, h⟩ := h
        refine vv_iald (q := 65) X 33 256 (Nat.le_of_ble_eq_true rfl) (fun _ => rfl) hin9 dX7_grownOverOrders_64 rfl ?_
        refine vv_aload_n (q := 66) X 2 dX7_grownOverOrders_65 rfl rfl rfl ?_
        refine vv_getf (q := 69) (ref := "HalfLadders$Sums") (C := RX7) (T := TX7) (N := 1) X 32 7 0 (Nat.le_of_ble_eq_true rfl) rfl rfl (Nat.le_of_ble_eq_true rfl) (fun _ h => List.mem_cons_of_mem _ (List.mem_append_right _ h)) (List.mem_of_getElem? (i := 1) rfl) rfl rfl dX7_grownOverOrders_66 rfl ?_
        refine vv_iload (q := 71) X 6 dX7_grownOverOrders_69 rfl rfl ?_
        obtain ⟨hin10, h⟩ := h
        refine vv_iald (q := 72) X 33 256 (Nat.le_of_ble_eq_true rfl) (fun _ => rfl) hin10 dX7_grownOverOrders_71 rfl ?_
        refine vv_isub (q := 73) X dX7_grownOverOrders_72 rfl ?_
        refine vv_imul (q := 74) X dX7_grownOverOrders_73 rfl ?_
        refine vv_iadd (q := 75) X dX7_grownOverOrders_74 rfl ?_
        refine vv_topi (fun z11 hz11 => ?_)
        have h := h z11 hz11
        refine vv_istore_n (lv2 := [(3, .int z11), (7, .int z8), (6, .int r5), (0, .ref (ad 32)), (2, .int f2), (4, .int f4), (5, .int x5)]) (q := 76) X dX7_grownOverOrders_75 rfl (Nat.le_of_ble_eq_true rfl) rfl rfl ?_
        obtain ⟨z12, hz12⟩ : ∃ y : Int32, y = x5 + (1 : Int32) := ⟨_, rfl⟩
        have h := h z12 hz12
        refine vv_iinc (v := z12) (lv2 := [(5, .int z12), (3, .int z11), (7, .int z8), (6, .int r5), (0, .ref (ad 32)), (2, .int f2), (4, .int f4)]) (q := 79) X 6 dX7_grownOverOrders_76 rfl (by rw [hz12]; rfl) (Nat.le_of_ble_eq_true rfl) rfl rfl ?_
        refine vv_goto X 10 dX7_grownOverOrders_79 (by decide) ?_
        refine vv_sub (lv' := [(0, .ref (ad 32)), (2, .int f2), (3, .int z11), (4, .int f4), (5, .int z12)]) [4, 5, 1, 6, 0] rfl ?_
        exact ih z11 z12 h

def wX7_grownOverOrders (σ : St) (a1 : Int32) (a2 : Int32) (P : Int32 → Prop) : Prop :=
∀ z1 : Int32, z1 = ((1 : Int32) <<< (a1 &&& 31)) →
∃ n14 : Nat, wLX7_grownOverOrders_10 a2 z1 σ (fun (y13 : Int32) =>
P y13) P n14 (0 : Int32) (0 : Int32)

set_option maxHeartbeats 8000000 in
set_option maxRecDepth 100000 in
theorem kX7_grownOverOrders (l : Launch) (D : va_G) {cy : Nat → ClassId} {ad : Nat → Nat} {zb : Nat → Nat} (hw : xOk (wC ad cy zb)) {σ : St} {a1 : Int32} {a2 : Int32} {P : Int32 → Prop} (h : wX7_grownOverOrders σ a1 a2 P) : MI l yX7_grownOverOrders wsX7_grownOverOrders rmX7_grownOverOrders D cy (wC ad cy zb) [.ref (ad 32), .int a1, .int a2] σ (fun r u => P r ∧ u = σ) := by
  unfold MI
  refine vv_met (cc := cX7_grownOverOrders) (maxL := 8) (ret := (some .int)) hw (by decide +kernel) rfl [.ref (ad 32), .int a1, .int a2] (Nat.le_of_ble_eq_true rfl) ?_
  intro p e s m args below meth c X hr
  have X : XX p s m args meth c cX7_grownOverOrders 8 D cy (wC ad cy zb) wsX7_grownOverOrders RX7 := X
  refine vv_sub (lv' := [(0, .ref (ad 32)), (1, .int a1), (2, .int a2)]) [0, 1, 2] rfl ?_
  rw [wX7_grownOverOrders] at h
  refine vv_iconst (q := 1) X (0 : Int32) dX7_grownOverOrders_0 (by decide) rfl ?_
  refine vv_istore_n (lv2 := [(3, .int (0 : Int32)), (0, .ref (ad 32)), (1, .int a1), (2, .int a2)]) (q := 2) X dX7_grownOverOrders_1 rfl (Nat.le_of_ble_eq_true rfl) rfl rfl ?_
  refine vv_iconst (q := 3) X (1 : Int32) dX7_grownOverOrders_2 (by decide) rfl ?_
  refine vv_iload_n (q := 4) X 2 dX7_grownOverOrders_3 rfl rfl rfl ?_
  refine vv_ishl (q := 5) X dX7_grownOverOrders_4 rfl ?_
  refine vv_topi (fun z1 hz1 => ?_)
  have h := h z1 hz1
  refine vv_istore (lv2 := [(4, .int z1), (3, .int (0 : Int32)), (0, .ref (ad 32)), (1, .int a1), (2, .int a2)]) (q := 7) X dX7_grownOverOrders_5 (Nat.le_of_ble_eq_true rfl) rfl rfl ?_
  refine vv_iconst (q := 8) X (0 : Int32) dX7_grownOverOrders_7 (by decide) rfl ?_
  refine vv_istore (lv2 := [(5, .int (0 : Int32)), (4, .int z1), (3, .int (0 : Int32)), (0, .ref (ad 32)), (1, .int a1), (2, .int a2)]) (q := 10) X dX7_grownOverOrders_8 (Nat.le_of_ble_eq_true rfl) rfl rfl ?_
  obtain ⟨n14, h⟩ := h
  refine vv_sub (lv' := [(0, .ref (ad 32)), (2, .int a2), (3, .int (0 : Int32)), (4, .int z1), (5, .int (0 : Int32))]) [3, 5, 2, 1, 0] rfl ?_
  refine twLX7_grownOverOrders_10 X hr a2 z1  σ _ ?_ n14 (0 : Int32) (0 : Int32) h
  intro y13 h
  refine vv_iload_n (q := 83) X 0 dX7_grownOverOrders_82 rfl rfl rfl ?_
  exact vv_iret X hr dX7_grownOverOrders_83 ⟨h, rfl⟩

