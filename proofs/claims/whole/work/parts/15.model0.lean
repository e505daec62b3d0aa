/-! X10_in: in(III)Z -/
def rmX10_in : Room := { frames := 0, cells := 0, slots := 0, locals := 0 }
def wX10_in (σ : St) (a0 : Int32) (a1 : Int32) (a2 : Int32) (P : Int32 → Prop) : Prop :=
(a0 < a1 →
P (0 : Int32)) ∧
(¬ a0 < a1 →
(a2 < a0 →
P (0 : Int32)) ∧
(¬ a2 < a0 →
P (1 : Int32)))

set_option maxHeartbeats 8000000 in
set_option maxRecDepth 100000 in
theorem kX10_in (l : Launch) (D : va_G) {cy : Nat → ClassId} {ad : Nat → Nat} (hw : xOk (wM ad cy)) {σ : St} {a0 : Int32} {a1 : Int32} {a2 : Int32} {P : Int32 → Prop} (h : wX10_in σ a0 a1 a2 P) : MI l yX10_in wsX10_in rmX10_in D cy (wM ad cy) [.int a0, .int a1, .int a2] σ (fun r u => P r ∧ u = σ) := by
  unfold MI
  refine vv_met (cc := cX10_in) (maxL := 3) (ret := (some .boolean)) hw (by decide +kernel) rfl [.int a0, .int a1, .int a2] (Nat.le_of_ble_eq_true rfl) ?_
  intro p e s m args below meth c X hr
  have X : XX p s m args meth c cX10_in 3 D cy (wM ad cy) wsX10_in RX10 := X
  refine vv_sub (lv' := [(0, .int a0), (1, .int a1), (2, .int a2)]) [0, 1, 2] rfl ?_
  rw [wX10_in] at h
  refine vv_iload_n (q := 1) X 0 dX10_in_0 rfl rfl rfl ?_
  refine vv_iload_n (q := 2) X 1 dX10_in_1 rfl rfl rfl ?_
  refine vv_icmp_lt (q := 5) X 14 dX10_in_2 (by decide) rfl (fun c1 => ?_) (fun c1 => ?_)
  · have h := h.1 c1
    refine vv_iconst (q := 15) X (0 : Int32) dX10_in_14 (by decide) rfl ?_
    exact vv_zret X hr rfl dX10_in_15 ⟨h, rfl⟩
  · have h := h.2 c1
    refine vv_iload_n (q := 6) X 0 dX10_in_5 rfl rfl rfl ?_
    refine vv_iload_n (q := 7) X 2 dX10_in_6 rfl rfl rfl ?_
    refine vv_icmp_gt (q := 10) X 14 dX10_in_7 (by decide) rfl (fun c2 => ?_) (fun c2 => ?_)
    · have h := h.1 c2
      refine vv_iconst (q := 15) X (0 : Int32) dX10_in_14 (by decide) rfl ?_
      exact vv_zret X hr rfl dX10_in_15 ⟨h, rfl⟩
    · have h := h.2 c2
      refine vv_iconst (q := 11) X (1 : Int32) dX10_in_10 (by decide) rfl ?_
      refine vv_goto X 15 dX10_in_11 (by decide) ?_
      exact vv_zret X hr rfl dX10_in_15 ⟨h, rfl⟩

/-! X10_type: type(JI)I -/
def rmX10_type : Room := { frames := 1, cells := 0, slots := 0, locals := 22 }
def wLX10_type_32 (f1 : Int64)  (K75 : St → Prop) (P : Int32 → St → Prop) : Nat → St → Int32 → Prop
  | 0, _, _ => False
  | n + 1, σ, x4 =>
    (x4 < 0 →
    K75 σ) ∧
    (¬ x4 < 0 →
    vp_in (σ.1 0 2) 300 ∧
    ∀ σ7 : St, σ7 = sI σ 1 (σ.1 0 2).toNatClampNeg (vp_nar .byte ((((f1 >>> (((8 : Int32) * x4).toInt64 &&& 63)) &&& (255 : Int64)).toInt32).toInt8.toInt32)) →
    ∀ σ8 : St, σ8 = sI σ7 0 2 ((σ7.1 0 2) + (1 : Int32)) →
    ∀ z9 : Int32, z9 = x4 + (-1 : Int32) →
    wLX10_type_32 f1 K75 P n σ8 z9)

set_option maxHeartbeats 4000000 in
set_option maxRecDepth 100000 in
theorem twLX10_type_32 {p : Program} {l : Launch} {e : Env} {s : State} {m : MethodId} {args : Array Value} {below : List Frame} {meth : Method} {c : Code} {D : va_G} {cy : Nat → ClassId} {ad : Nat → Nat} (X : XX p s m args meth c cX10_type 5 D cy (wM ad cy) wsX10_type RX10) (hr : meth.sig.returnType = (some .int)) (f1 : Int64)   (K75 : St → Prop) {P : Int32 → St → Prop} (hK75 : ∀ (σ : St), K75 σ → VV p l e rmX10_type s m args below meth c (MQ below (va_Qi P (xPost D (wM ad cy)) (xA (wM ad cy))) args s 0 0 (xA (wM ad cy))) 5 D (wM ad cy) σ 75 [(0, .ref (ad 0))] []) : ∀ (n : Nat) (σ : St) (x4 : Int32), wLX10_type_32 f1 K75 P n σ x4 → VV p l e rmX10_type s m args below meth c (MQ below (va_Qi P (xPost D (wM ad cy)) (xA (wM ad cy))) args s 0 0 (xA (wM ad cy))) 5 D (wM ad cy) σ 32 [(0, .ref (ad 0)), (1, .long f1), (4, .int x4)] [] := by
  intro n
  induction n with
  | zero => intro σ x4 h; exact h.elim
  | succ n ih =>
    intro σ x4 h
    rw [wLX10_type_32] at h
    refine vv_iload (q := 34) X 2 dX10_type_32 rfl rfl ?_
    refine vv_if_lt (q := 37) X 75 dX10_type_34 (by decide) rfl (fun c5 => ?_) (fun c5 => ?_)
    · have h := h.1 c5
      refine vv_sub (lv' := [(0, .ref (ad 0))]) [0] rfl ?_
      exact hK75 σ h
    · have h := h.2 c5
      refine vv_aload_n (q := 38) X 0 dX10_type_37 rfl rfl rfl ?_
      refine vv_getf (q := 41) (ref := "HalfLaddersModel") (C := RX10) (T := TX10) (N := 27) X 0 10 1 (Nat.le_of_ble_eq_true rfl) rfl rfl (Nat.le_of_ble_eq_true rfl) (fun _ h => List.mem_cons_of_mem _ (List.mem_append_right _ h)) (List.mem_of_getElem? (i := 2) rfl) rfl rfl dX10_type_38 rfl ?_
      refine vv_aload_n (q := 42) X 0 dX10_type_41 rfl rfl rfl ?_
      refine vv_getf (q := 45) (ref := "HalfLaddersModel") (C := RX10) (T := TX10) (N := 27) X 0 10 2 (Nat.le_of_ble_eq_true rfl) rfl rfl (Nat.le_of_ble_eq_true rfl) (fun _ h => List.mem_cons_of_mem _ (List.mem_append_right _ h)) (List.mem_of_getElem? (i := 1) rfl) rfl rfl dX10_type_42 rfl ?_
      refine vv_lload_n (q := 46) X 1 dX10_type_45 rfl rfl rfl ?_
      refine vv_bipush (q := 48) X (8 : Int32) dX10_type_46 (by decide) rfl ?_
      refine vv_iload (q := 50) X 2 dX10_type_48 rfl rfl ?_
      refine vv_imul (q := 51) X dX10_type_50 rfl ?_
      refine vv_lshr (q := 52) X dX10_type_51 rfl ?_
      refine vv_ldc2 (q := 55) X (255 : Int64) dX10_type_52 (List.mem_of_getElem? (i := 3) rfl) rfl ?_
      refine vv_land (q := 56) X dX10_type_55 rfl ?_
      refine vv_l2i (q := 57) X dX10_type_56 rfl ?_
      refine vv_i2b (q := 58) X dX10_type_57 rfl ?_
      obtain ⟨hin6, h⟩ := h
      refine vv_bast (q := 59) X 1 300 (Nat.le_of_ble_eq_true rfl) (fun _ => rfl) hin6 dX10_type_58 rfl ?_
      refine vv_nm (fun σ7 hσ7 => ?_)
      have h := h σ7 hσ7
      refine vv_aload_n (q := 60) X 0 dX10_type_59 rfl rfl rfl ?_
      refine vv_dup (q := 61) X dX10_type_60 rfl rfl ?_
      refine vv_getf (q := 64) (ref := "HalfLaddersModel") (C := RX10) (T := TX10) (N := 27) X 0 10 2 (Nat.le_of_ble_eq_true rfl) rfl rfl (Nat.le_of_ble_eq_true rfl) (fun _ h => List.mem_cons_of_mem _ (List.mem_append_right _ h)) (List.mem_of_getElem? (i := 1) rfl) rfl rfl dX10_type_61 rfl ?_
      refine vv_iconst (q := 65) X (1 : Int32) dX10_type_64 (by decide) rfl ?_
      refine vv_iadd (q := 66) X dX10_type_65 rfl ?_
      refine vv_putf (q := 69) (ref := "HalfLaddersModel") (C := RX10) (T := TX10) (N := 27) X 0 10 2 tyX10 tyX10_ok nmX10 (Nat.le_of_ble_eq_true rfl) rfl rfl rfl (Nat.le_of_ble_eq_true rfl) rfl (fun _ h => List.mem_cons_of_mem _ (List.mem_append_right _ h)) (List.mem_of_getElem? (i := 1) rfl) rfl rfl rfl dX10_type_66 rfl ?_
      refine vv_nm (fun σ8 hσ8 => ?_)
      have h := h σ8 hσ8
      obtain ⟨z9, hz9⟩ : ∃ y : Int32, y = x4 + (-1 : Int32) := ⟨_, rfl⟩
      have h := h z9 hz9
      refine vv_iinc (v := z9) (lv2 := [(4, .int z9), (0, .ref (ad 0)), (1, .long f1)]) (q := 72) X 2 dX10_type_69 rfl (by rw [hz9]; rfl) (Nat.le_of_ble_eq_true rfl) rfl rfl ?_
      refine vv_goto X 32 dX10_type_72 (by decide) ?_
      refine vv_sub (lv' := [(0, .ref (ad 0)), (1, .long f1), (4, .int z9)]) [1, 2, 0] rfl ?_
      exact ih σ8 z9 h

def wX10_type (σ : St) (a1 : Int64) (a3 : Int32) (P : Int32 → St → Prop) : Prop :=
wX10_in σ a3 (1 : Int32) (8 : Int32) (fun r1 : Int32 =>
(¬ r1 = 0 →
(((σ.1 0 2) + a3) ≤ (300 : Int32) →
∀ z4 : Int32, z4 = (a3 - (1 : Int32)) →
∃ n11 : Nat, wLX10_type_32 a1 (fun (σ10 : St) =>
P (σ10.1 0 2) σ10) P n11 σ z4) ∧
(¬ ((σ.1 0 2) + a3) ≤ (300 : Int32) →
P (-3 : Int32) σ)) ∧
(r1 = 0 →
P (-1 : Int32) σ))

set_option maxHeartbeats 8000000 in
set_option maxRecDepth 100000 in
theorem kX10_type (l : Launch) (D : va_G) {cy : Nat → ClassId} {ad : Nat → Nat} (hw : xOk (wM ad cy)) {σ : St} {a1 : Int64} {a3 : Int32} {P : Int32 → St → Prop} (h : wX10_type σ a1 a3 P) : MI l yX10_type wsX10_type rmX10_type D cy (wM ad cy) [.ref (ad 0), .long a1, .int a3] σ P := by
  unfold MI
  refine vv_met (cc := cX10_type) (maxL := 5) (ret := (some .int)) hw (by decide +kernel) rfl [.ref (ad 0), .long a1, .int a3] (Nat.le_of_ble_eq_true rfl) ?_
  intro p e s m args below meth c X hr
  have X : XX p s m args meth c cX10_type 5 D cy (wM ad cy) wsX10_type RX10 := X
  refine vv_sub (lv' := [(0, .ref (ad 0)), (1, .long a1), (3, .int a3)]) [0, 1, 2] rfl ?_
  rw [wX10_type] at h
  refine vv_iload_n (q := 1) X 2 dX10_type_0 rfl rfl rfl ?_
  refine vv_iconst (q := 2) X (1 : Int32) dX10_type_1 (by decide) rfl ?_
  refine vv_bipush (q := 4) X (8 : Int32) dX10_type_2 (by decide) rfl ?_
  refine vv_cSi (q := 7) X [.int a3, .int (1 : Int32), .int (8 : Int32)] (kX10_in l D X.2.2.1 h) (va_cwS 3 X.1.2.2.2.2 gX10_type_X10_in rfl rfl rfl (by decide +kernel) ⟨Nat.le_of_ble_eq_true rfl, Nat.le_of_ble_eq_true rfl⟩) rfl rfl (Nat.le_of_ble_eq_true rfl) dX10_type_4 rfl (fun r1 u9 h9 => ?_)
  obtain ⟨h9, hu9⟩ := h9
  subst u9
  have h := h9
  refine vv_if_ne (q := 10) X 12 dX10_type_7 (by decide) rfl (fun c2 => ?_) (fun c2 => ?_)
  · have h := h.1 c2
    refine vv_aload_n (q := 13) X 0 dX10_type_12 rfl rfl rfl ?_
    refine vv_getf (q := 16) (ref := "HalfLaddersModel") (C := RX10) (T := TX10) (N := 27) X 0 10 2 (Nat.le_of_ble_eq_true rfl) rfl rfl (Nat.le_of_ble_eq_true rfl) (fun _ h => List.mem_cons_of_mem _ (List.mem_append_right _ h)) (List.mem_of_getElem? (i := 1) rfl) rfl rfl dX10_type_13 rfl ?_
    refine vv_iload_n (q := 17) X 2 dX10_type_16 rfl rfl rfl ?_
    refine vv_iadd (q := 18) X dX10_type_17 rfl ?_
    refine vv_sipush (q := 21) X (300 : Int32) dX10_type_18 (by decide) rfl ?_
    refine vv_icmp_le (q := 24) X 27 dX10_type_21 (by decide) rfl (fun c3 => ?_) (fun c3 => ?_)
    · have h := h.1 c3
      refine vv_iload_n (q := 28) X 2 dX10_type_27 rfl rfl rfl ?_
      refine vv_iconst (q := 29) X (1 : Int32) dX10_type_28 (by decide) rfl ?_
      refine vv_isub (q := 30) X dX10_type_29 rfl ?_
      refine vv_topi (fun z4 hz4 => ?_)
      have h := h z4 hz4
      refine vv_istore (lv2 := [(4, .int z4), (0, .ref (ad 0)), (1, .long a1), (3, .int a3)]) (q := 32) X dX10_type_30 (Nat.le_of_ble_eq_true rfl) rfl rfl ?_
      obtain ⟨n11, h⟩ := h
      refine vv_sub (lv' := [(0, .ref (ad 0)), (1, .long a1), (4, .int z4)]) [1, 2, 0] rfl ?_
      refine twLX10_type_32 X hr a1  _ ?_ n11 σ z4 h
      intro σ10 h
      refine vv_aload_n (q := 76) X 0 dX10_type_75 rfl rfl rfl ?_
      refine vv_getf (q := 79) (ref := "HalfLaddersModel") (C := RX10) (T := TX10) (N := 27) X 0 10 2 (Nat.le_of_ble_eq_true rfl) rfl rfl (Nat.le_of_ble_eq_true rfl) (fun _ h => List.mem_cons_of_mem _ (List.mem_append_right _ h)) (List.mem_of_getElem? (i := 1) rfl) rfl rfl dX10_type_76 rfl ?_
      exact vv_iret X hr dX10_type_79 h
    · have h := h.2 c3
      refine vv_bipush (q := 26) X (-3 : Int32) dX10_type_24 (by decide) rfl ?_
      exact vv_iret X hr dX10_type_26 h
  · have h := h.2 c2
    refine vv_iconst (q := 11) X (-1 : Int32) dX10_type_10 (by decide) rfl ?_
    exact vv_iret X hr dX10_type_11 h

/-! X10_clear: clear()I -/
def rmX10_clear : Room := { frames := 0, cells := 0, slots := 0, locals := 0 }
def wX10_clear (σ : St)  (P : Int32 → St → Prop) : Prop :=
∀ z1 : Int32, z1 = (σ.1 0 2) →
∀ σ2 : St, σ2 = sI σ 0 2 (0 : Int32) →
P z1 σ2

set_option maxHeartbeats 8000000 in
set_option maxRecDepth 100000 in
theorem kX10_clear (l : Launch) (D : va_G) {cy : Nat → ClassId} {ad : Nat → Nat} (hw : xOk (wM ad cy)) {σ : St}  {P : Int32 → St → Prop} (h : wX10_clear σ  P) : MI l yX10_clear wsX10_clear rmX10_clear D cy (wM ad cy) [.ref (ad 0)] σ P := by
  unfold MI
  refine vv_met (cc := cX10_clear) (maxL := 2) (ret := (some .int)) hw (by decide +kernel) rfl [.ref (ad 0)] (Nat.le_of_ble_eq_true rfl) ?_
  intro p e s m args below meth c X hr
  have X : XX p s m args meth c cX10_clear 2 D cy (wM ad cy) wsX10_clear RX10 := X
  refine vv_sub (lv' := [(0, .ref (ad 0))]) [0] rfl ?_
  rw [wX10_clear] at h
  refine vv_aload_n (q := 1) X 0 dX10_clear_0 rfl rfl rfl ?_
  refine vv_getf (q := 4) (ref := "HalfLaddersModel") (C := RX10) (T := TX10) (N := 27) X 0 10 2 (Nat.le_of_ble_eq_true rfl) rfl rfl (Nat.le_of_ble_eq_true rfl) (fun _ h => List.mem_cons_of_mem _ (List.mem_append_right _ h)) (List.mem_of_getElem? (i := 1) rfl) rfl rfl dX10_clear_1 rfl ?_
  refine vv_topi (fun z1 hz1 => ?_)
  have h := h z1 hz1
  refine vv_istore_n (lv2 := [(1, .int z1), (0, .ref (ad 0))]) (q := 5) X dX10_clear_4 rfl (Nat.le_of_ble_eq_true rfl) rfl rfl ?_
  refine vv_aload_n (q := 6) X 1 dX10_clear_5 rfl rfl rfl ?_
  refine vv_iconst (q := 7) X (0 : Int32) dX10_clear_6 (by decide) rfl ?_
  refine vv_putf (q := 10) (ref := "HalfLaddersModel") (C := RX10) (T := TX10) (N := 27) X 0 10 2 tyX10 tyX10_ok nmX10 (Nat.le_of_ble_eq_true rfl) rfl rfl rfl (Nat.le_of_ble_eq_true rfl) rfl (fun _ h => List.mem_cons_of_mem _ (List.mem_append_right _ h)) (List.mem_of_getElem? (i := 1) rfl) rfl rfl rfl dX10_clear_7 rfl ?_
  refine vv_nm (fun σ2 hσ2 => ?_)
  have h := h σ2 hσ2
  refine vv_iload_n (q := 11) X 0 dX10_clear_10 rfl rfl rfl ?_
  exact vv_iret X hr dX10_clear_11 h

/-! X10_here: here()I -/
def rmX10_here : Room := { frames := 0, cells := 0, slots := 0, locals := 0 }
def wX10_here (σ : St)  (P : Int32 → Prop) : Prop :=
((σ.1 0 2) ≤ (σ.1 0 13) →
P (-1 : Int32)) ∧
(¬ (σ.1 0 2) ≤ (σ.1 0 13) →
vp_in (σ.1 0 13) 300 ∧
P ((σ.1 1 (σ.1 0 13).toNatClampNeg) &&& (255 : Int32)))

set_option maxHeartbeats 8000000 in
set_option maxRecDepth 100000 in
theorem kX10_here (l : Launch) (D : va_G) {cy : Nat → ClassId} {ad : Nat → Nat} (hw : xOk (wM ad cy)) {σ : St}  {P : Int32 → Prop} (h : wX10_here σ  P) : MI l yX10_here wsX10_here rmX10_here D cy (wM ad cy) [.ref (ad 0)] σ (fun r u => P r ∧ u = σ) := by
  unfold MI
  refine vv_met (cc := cX10_here) (maxL := 1) (ret := (some .int)) hw (by decide +kernel) rfl [.ref (ad 0)] (Nat.le_of_ble_eq_true rfl) ?_
  intro p e s m args below meth c X hr
  have X : XX p s m args meth c cX10_here 1 D cy (wM ad cy) wsX10_here RX10 := X
  refine vv_sub (lv' := [(0, .ref (ad 0))]) [0] rfl ?_
  rw [wX10_here] at h
  refine vv_aload_n (q := 1) X 0 dX10_here_0 rfl rfl rfl ?_
  refine vv_getf (q := 4) (ref := "HalfLaddersModel") (C := RX10) (T := TX10) (N := 27) X 0 10 13 (Nat.le_of_ble_eq_true rfl) rfl rfl (Nat.le_of_ble_eq_true rfl) (fun _ h => List.mem_cons_of_mem _ (List.mem_append_right _ h)) (List.mem_of_getElem? (i := 1) rfl) rfl rfl dX10_here_1 rfl ?_
  refine vv_aload_n (q := 5) X 0 dX10_here_4 rfl rfl rfl ?_
  refine vv_getf (q := 8) (ref := "HalfLaddersModel") (C := RX10) (T := TX10) (N := 27) X 0 10 2 (Nat.le_of_ble_eq_true rfl) rfl rfl (Nat.le_of_ble_eq_true rfl) (fun _ h => List.mem_cons_of_mem _ (List.mem_append_right _ h)) (List.mem_of_getElem? (i := 2) rfl) rfl rfl dX10_here_5 rfl ?_
  refine vv_icmp_ge (q := 11) X 27 dX10_here_8 (by decide) rfl (fun c1 => ?_) (fun c1 => ?_)
  · have h := h.1 c1
    refine vv_iconst (q := 28) X (-1 : Int32) dX10_here_27 (by decide) rfl ?_
    exact vv_iret X hr dX10_here_28 ⟨h, rfl⟩
  · have h := h.2 c1
    refine vv_aload_n (q := 12) X 0 dX10_here_11 rfl rfl rfl ?_
    refine vv_getf (q := 15) (ref := "HalfLaddersModel") (C := RX10) (T := TX10) (N := 27) X 0 10 1 (Nat.le_of_ble_eq_true rfl) rfl rfl (Nat.le_of_ble_eq_true rfl) (fun _ h => List.mem_cons_of_mem _ (List.mem_append_right _ h)) (List.mem_of_getElem? (i := 3) rfl) rfl rfl dX10_here_12 rfl ?_
    refine vv_aload_n (q := 16) X 0 dX10_here_15 rfl rfl rfl ?_
    refine vv_getf (q := 19) (ref := "HalfLaddersModel") (C := RX10) (T := TX10) (N := 27) X 0 10 13 (Nat.le_of_ble_eq_true rfl) rfl rfl (Nat.le_of_ble_eq_true rfl) (fun _ h => List.mem_cons_of_mem _ (List.mem_append_right _ h)) (List.mem_of_getElem? (i := 1) rfl) rfl rfl dX10_here_16 rfl ?_
    obtain ⟨hin2, h⟩ := h
    refine vv_bald (q := 20) X 1 300 (Nat.le_of_ble_eq_true rfl) (fun _ => rfl) hin2 dX10_here_19 rfl ?_
    refine vv_sipush (q := 23) X (255 : Int32) dX10_here_20 (by decide) rfl ?_
    refine vv_iand (q := 24) X dX10_here_23 rfl ?_
    refine vv_goto X 28 dX10_here_24 (by decide) ?_
    exact vv_iret X hr dX10_here_28 ⟨h, rfl⟩

/-! X10_meaning: meaning(II)I -/
def rmX10_meaning : Room := { frames := 0, cells := 0, slots := 0, locals := 0 }
def wX10_meaning (σ : St) (a0 : Int32) (a1 : Int32) (P : Int32 → Prop) : Prop :=
(a1 ≤ 0 →
(a0 = (240023 : Int32) →
P (0 : Int32)) ∧
(¬ a0 = (240023 : Int32) →
(a0 = (406922 : Int32) →
P (3 : Int32)) ∧
(¬ a0 = (406922 : Int32) →
(a0 = (9748424 : Int32) →
P (1 : Int32)) ∧
(¬ a0 = (9748424 : Int32) →
P (7 : Int32))))) ∧
(¬ a1 ≤ 0 →
(¬ a0 = (255124976 : Int32) →
P (7 : Int32)) ∧
(a0 = (255124976 : Int32) →
(¬ a1 = (12 : Int32) →
P (7 : Int32)) ∧
(a1 = (12 : Int32) →
P (2 : Int32))))

set_option maxHeartbeats 8000000 in
set_option maxRecDepth 100000 in
theorem kX10_meaning (l : Launch) (D : va_G) {cy : Nat → ClassId} {ad : Nat → Nat} (hw : xOk (wM ad cy)) {σ : St} {a0 : Int32} {a1 : Int32} {P : Int32 → Prop} (h : wX10_meaning σ a0 a1 P) : MI l yX10_meaning wsX10_meaning rmX10_meaning D cy (wM ad cy) [.int a0, .int a1] σ (fun r u => P r ∧ u = σ) := by
  unfold MI
  refine vv_met (cc := cX10_meaning) (maxL := 2) (ret := (some .int)) hw (by decide +kernel) rfl [.int a0, .int a1] (Nat.le_of_ble_eq_true rfl) ?_
  intro p e s m args below meth c X hr
  have X : XX p s m args meth c cX10_meaning 2 D cy (wM ad cy) wsX10_meaning RX10 := X
  refine vv_sub (lv' := [(0, .int a0), (1, .int a1)]) [0, 1] rfl ?_
  rw [wX10_meaning] at h
  refine vv_iload_n (q := 1) X 1 dX10_meaning_0 rfl rfl rfl ?_
  refine vv_if_le (q := 4) X 23 dX10_meaning_1 (by decide) rfl (fun c1 => ?_) (fun c1 => ?_)
  · have h := h.1 c1
    refine vv_iload_n (q := 24) X 0 dX10_meaning_23 rfl rfl rfl ?_
    by_cases c2 : a0 = (240023 : Int32)
    · have h := h.1 c2
      refine vv_lookup (off := 36) X 60 dX10_meaning_24 (by decide) (by rw [c2]; decide) (by decide) ?_
      refine vv_iconst (q := 61) X (0 : Int32) dX10_meaning_60 (by decide) rfl ?_
      exact vv_iret X hr dX10_meaning_61 ⟨h, rfl⟩
    · have h := h.2 c2
      by_cases c3 : a0 = (406922 : Int32)
      · have h := h.1 c3
        refine vv_lookup (off := 40) X 64 dX10_meaning_24 (by decide) (by rw [c3]; decide) (by decide) ?_
        refine vv_iconst (q := 65) X (3 : Int32) dX10_meaning_64 (by decide) rfl ?_
        exact vv_iret X hr dX10_meaning_65 ⟨h, rfl⟩
      · have h := h.2 c3
        by_cases c4 : a0 = (9748424 : Int32)
        · have h := h.1 c4
          refine vv_lookup (off := 38) X 62 dX10_meaning_24 (by decide) (by rw [c4]; decide) (by decide) ?_
          refine vv_iconst (q := 63) X (1 : Int32) dX10_meaning_62 (by decide) rfl ?_
          exact vv_iret X hr dX10_meaning_63 ⟨h, rfl⟩
        · have h := h.2 c4
          refine vv_lookup (off := 42) X 66 dX10_meaning_24 (by decide) (by have n0 : ¬ a0.toInt = 240023 := i32_ne c2; have n1 : ¬ a0.toInt = 406922 := i32_ne c3; have n2 : ¬ a0.toInt = 9748424 := i32_ne c4; simp [Op.lookupswitch.offset, List.find?, n0, n1, n2, Ne.symm n0, Ne.symm n1, Ne.symm n2]) (by decide) ?_
          refine vv_bipush (q := 68) X (7 : Int32) dX10_meaning_66 (by decide) rfl ?_
          exact vv_iret X hr dX10_meaning_68 ⟨h, rfl⟩
  · have h := h.2 c1
    refine vv_iload_n (q := 5) X 0 dX10_meaning_4 rfl rfl rfl ?_
    refine vv_ldc (q := 7) X (255124976 : Int32) dX10_meaning_5 (List.mem_of_getElem? (i := 1) rfl) rfl ?_
    refine vv_icmp_ne (q := 10) X 20 dX10_meaning_7 (by decide) rfl (fun c5 => ?_) (fun c5 => ?_)
    · have h := h.1 c5
      refine vv_bipush (q := 22) X (7 : Int32) dX10_meaning_20 (by decide) rfl ?_
      exact vv_iret X hr dX10_meaning_22 ⟨h, rfl⟩
    · have h := h.2 c5
      refine vv_iload_n (q := 11) X 1 dX10_meaning_10 rfl rfl rfl ?_
      refine vv_bipush (q := 13) X (12 : Int32) dX10_meaning_11 (by decide) rfl ?_
      refine vv_icmp_ne (q := 16) X 20 dX10_meaning_13 (by decide) rfl (fun c6 => ?_) (fun c6 => ?_)
      · have h := h.1 c6
        refine vv_bipush (q := 22) X (7 : Int32) dX10_meaning_20 (by decide) rfl ?_
        exact vv_iret X hr dX10_meaning_22 ⟨h, rfl⟩
      · have h := h.2 c6
        refine vv_iconst (q := 17) X (2 : Int32) dX10_meaning_16 (by decide) rfl ?_
        refine vv_goto X 22 dX10_meaning_17 (by decide) ?_
        exact vv_iret X hr dX10_meaning_22 ⟨h, rfl⟩

/-! X10_next: next()V -/
def rmX10_next : Room := { frames := 1, cells := 0, slots := 0, locals := 22 }
def wLX10_next_0   (K22 : St → Prop) (P : St → Prop) : Nat → St → Prop
  | 0, _ => False
  | n + 1, σ =>
    wX10_here σ  (fun r1 : Int32 =>
    (¬ r1 = (32 : Int32) →
    K22 σ) ∧
    (r1 = (32 : Int32) →
    ∀ σ3 : St, σ3 = sI σ 0 13 ((σ.1 0 13) + (1 : Int32)) →
    wLX10_next_0 K22 P n σ3))

set_option maxHeartbeats 4000000 in
set_option maxRecDepth 100000 in
theorem twLX10_next_0 {p : Program} {l : Launch} {e : Env} {s : State} {m : MethodId} {args : Array Value} {below : List Frame} {meth : Method} {c : Code} {D : va_G} {cy : Nat → ClassId} {ad : Nat → Nat} (X : XX p s m args meth c cX10_next 5 D cy (wM ad cy) wsX10_next RX10) (hr : meth.sig.returnType = none)    (K22 : St → Prop) {P : St → Prop} (hK22 : ∀ (σ : St), K22 σ → VV p l e rmX10_next s m args below meth c (MQ below (va_Qv P (xPost D (wM ad cy)) (xA (wM ad cy))) args s 0 0 (xA (wM ad cy))) 5 D (wM ad cy) σ 22 [(0, .ref (ad 0))] []) : ∀ (n : Nat) (σ : St), wLX10_next_0 K22 P n σ → VV p l e rmX10_next s m args below meth c (MQ below (va_Qv P (xPost D (wM ad cy)) (xA (wM ad cy))) args s 0 0 (xA (wM ad cy))) 5 D (wM ad cy) σ 0 [(0, .ref (ad 0))] [] := by
  intro n
  induction n with
  | zero => intro σ h; exact h.elim
  | succ n ih =>
    intro σ h
    rw [wLX10_next_0] at h
    refine vv_aload_n (q := 1) X 0 dX10_next_0 rfl rfl rfl ?_
    refine vv_cVi (q := 4) (C := RX10) X 0 10 [] (kX10_here l D X.2.2.1 h) (cwV 0 X.1.2.2.2.2 gX10_next_X10_here rfl rfl rfl (by decide +kernel) ⟨Nat.le_of_ble_eq_true rfl, Nat.le_of_ble_eq_true rfl⟩) (Nat.le_of_ble_eq_true rfl) rfl rfl rfl rfl (Nat.le_of_ble_eq_true rfl) dX10_next_1 rfl (fun r1 u9 h9 => ?_)
    obtain ⟨h9, hu9⟩ := h9
    subst u9
    have h := h9
    refine vv_bipush (q := 6) X (32 : Int32) dX10_next_4 (by decide) rfl ?_
    refine vv_icmp_ne (q := 9) X 22 dX10_next_6 (by decide) rfl (fun c2 => ?_) (fun c2 => ?_)
    · have h := h.1 c2
      exact hK22 σ h
    · have h := h.2 c2
      refine vv_aload_n (q := 10) X 0 dX10_next_9 rfl rfl rfl ?_
      refine vv_dup (q := 11) X dX10_next_10 rfl rfl ?_
      refine vv_getf (q := 14) (ref := "HalfLaddersModel") (C := RX10) (T := TX10) (N := 27) X 0 10 13 (Nat.le_of_ble_eq_true rfl) rfl rfl (Nat.le_of_ble_eq_true rfl) (fun _ h => List.mem_cons_of_mem _ (List.mem_append_right _ h)) (List.mem_of_getElem? (i := 1) rfl) rfl rfl dX10_next_11 rfl ?_
      refine vv_iconst (q := 15) X (1 : Int32) dX10_next_14 (by decide) rfl ?_
      refine vv_iadd (q := 16) X dX10_next_15 rfl ?_
      refine vv_putf (q := 19) (ref := "HalfLaddersModel") (C := RX10) (T := TX10) (N := 27) X 0 10 13 tyX10 tyX10_ok nmX10 (Nat.le_of_ble_eq_true rfl) rfl rfl rfl (Nat.le_of_ble_eq_true rfl) rfl (fun _ h => List.mem_cons_of_mem _ (List.mem_append_right _ h)) (List.mem_of_getElem? (i := 1) rfl) rfl rfl rfl dX10_next_16 rfl ?_
      refine vv_nm (fun σ3 hσ3 => ?_)
      have h := h σ3 hσ3
      refine vv_goto X 0 dX10_next_19 (by decide) ?_
      exact ih σ3 h

def wLX10_next_183 (f1 : Int32)  (K245 : St → Prop) (P : St → Prop) : Nat → St → Prop
  | 0, _ => False
  | n + 1, σ =>
    wX10_here σ  (fun r18 : Int32 =>
    wX10_in σ r18 (48 : Int32) (57 : Int32) (fun r19 : Int32 =>
    (r19 = 0 →
    K245 σ) ∧
    (¬ r19 = 0 →
    jn (fun (v22 : Int32) =>
    ∀ σ23 : St, σ23 = sI σ 0 16 v22 →
    ∀ σ24 : St, σ24 = sI σ23 0 13 ((σ23.1 0 13) + (1 : Int32)) →
    wLX10_next_183 f1 K245 P n σ24) (fun J21 : Int32 → Prop =>
    ((σ.1 0 16) ≤ (99 : Int32) →
    wX10_here σ  (fun r26 : Int32 =>
    J21 ((((10 : Int32) * (σ.1 0 16)) + r26) - (48 : Int32)))) ∧
    (¬ (σ.1 0 16) ≤ (99 : Int32) →
    J21 (σ.1 0 16))))))

set_option maxHeartbeats 4000000 in
set_option maxRecDepth 100000 in
theorem twLX10_next_183 {p : Program} {l : Launch} {e : Env} {s : State} {m : MethodId} {args : Array Value} {below : List Frame} {meth : Method} {c : Code} {D : va_G} {cy : Nat → ClassId} {ad : Nat → Nat} (X : XX p s m args meth c cX10_next 5 D cy (wM ad cy) wsX10_next RX10) (hr : meth.sig.returnType = none) (f1 : Int32)   (K245 : St → Prop) {P : St → Prop} (hK245 : ∀ (σ : St), K245 σ → VV p l e rmX10_next s m args below meth c (MQ below (va_Qv P (xPost D (wM ad cy)) (xA (wM ad cy))) args s 0 0 (xA (wM ad cy))) 5 D (wM ad cy) σ 245 [(0, .ref (ad 0)), (1, .int f1)] []) : ∀ (n : Nat) (σ : St), wLX10_next_183 f1 K245 P n σ → VV p l e rmX10_next s m args below meth c (MQ below (va_Qv P (xPost D (wM ad cy)) (xA (wM ad cy))) args s 0 0 (xA (wM ad cy))) 5 D (wM ad cy) σ 183 [(0, .ref (ad 0)), (1, .int f1)] [] := by
  intro n
  induction n with
  | zero => intro σ h; exact h.elim
  | succ n ih =>
    intro σ h
    rw [wLX10_next_183] at h
    refine vv_aload_n (q := 184) X 0 dX10_next_183 rfl rfl rfl ?_
    refine vv_cVi (q := 187) (C := RX10) X 0 10 [] (kX10_here l D X.2.2.1 h) (cwV 0 X.1.2.2.2.2 gX10_next_X10_here rfl rfl rfl (by decide +kernel) ⟨Nat.le_of_ble_eq_true rfl, Nat.le_of_ble_eq_true rfl⟩) (Nat.le_of_ble_eq_true rfl) rfl rfl rfl rfl (Nat.le_of_ble_eq_true rfl) dX10_next_184 rfl (fun r18 u9 h9 => ?_)
    obtain ⟨h9, hu9⟩ := h9
    subst u9
    have h := h9
    refine vv_bipush (q := 189) X (48 : Int32) dX10_next_187 (by decide) rfl ?_
    refine vv_bipush (q := 191) X (57 : Int32) dX10_next_189 (by decide) rfl ?_
    refine vv_cSi (q := 194) X [.int r18, .int (48 : Int32), .int (57 : Int32)] (kX10_in l D X.2.2.1 h) (va_cwS 3 X.1.2.2.2.2 gX10_next_X10_in rfl rfl rfl (by decide +kernel) ⟨Nat.le_of_ble_eq_true rfl, Nat.le_of_ble_eq_true rfl⟩) rfl rfl (Nat.le_of_ble_eq_true rfl) dX10_next_191 rfl (fun r19 u9 h9 => ?_)
    obtain ⟨h9, hu9⟩ := h9
    subst u9
    have h := h9
    refine vv_if_eq (q := 197) X 245 dX10_next_194 (by decide) rfl (fun c20 => ?_) (fun c20 => ?_)
    · have h := h.1 c20
      exact hK245 σ h
    · have h := h.2 c20
      refine vv_aload_n (q := 198) X 0 dX10_next_197 rfl rfl rfl ?_
      refine vv_aload_n (q := 199) X 0 dX10_next_198 rfl rfl rfl ?_
      refine vv_getf (q := 202) (ref := "HalfLaddersModel") (C := RX10) (T := TX10) (N := 27) X 0 10 16 (Nat.le_of_ble_eq_true rfl) rfl rfl (Nat.le_of_ble_eq_true rfl) (fun _ h => List.mem_cons_of_mem _ (List.mem_append_right _ h)) (List.mem_of_getElem? (i := 3) rfl) rfl rfl dX10_next_199 rfl ?_
      refine vv_bipush (q := 204) X (99 : Int32) dX10_next_202 (by decide) rfl ?_
      obtain ⟨J21, hJ21, h⟩ := jn_el h
      have tJ21 : ∀ (v22 : Int32), J21 v22 → VV p l e rmX10_next s m args below meth c (MQ below (va_Qv P (xPost D (wM ad cy)) (xA (wM ad cy))) args s 0 0 (xA (wM ad cy))) 5 D (wM ad cy) σ 229 [(0, .ref (ad 0)), (1, .int f1)] [.int v22, .ref (ad 0)] := by
        intro v22 h
        rw [hJ21] at h
        refine vv_putf (q := 232) (ref := "HalfLaddersModel") (C := RX10) (T := TX10) (N := 27) X 0 10 16 tyX10 tyX10_ok nmX10 (Nat.le_of_ble_eq_true rfl) rfl rfl rfl (Nat.le_of_ble_eq_true rfl) rfl (fun _ h => List.mem_cons_of_mem _ (List.mem_append_right _ h)) (List.mem_of_getElem? (i := 3) rfl) rfl rfl rfl dX10_next_229 rfl ?_
        refine vv_nm (fun σ23 hσ23 => ?_)
        have h := h σ23 hσ23
        refine vv_aload_n (q := 233) X 0 dX10_next_232 rfl rfl rfl ?_
        refine vv_dup (q := 234) X dX10_next_233 rfl rfl ?_
        refine vv_getf (q := 237) (ref := "HalfLaddersModel") (C := RX10) (T := TX10) (N := 27) X 0 10 13 (Nat.le_of_ble_eq_true rfl) rfl rfl (Nat.le_of_ble_eq_true rfl) (fun _ h => List.mem_cons_of_mem _ (List.mem_append_right _ h)) (List.mem_of_getElem? (i := 1) rfl) rfl rfl dX10_next_234 rfl ?_
        refine vv_iconst (q := 238) X (1 : Int32) dX10_next_237 (by decide) rfl ?_
        refine vv_iadd (q := 239) X dX10_next_238 rfl ?_
        refine vv_putf (q := 242) (ref := "HalfLaddersModel") (C := RX10) (T := TX10) (N := 27) X 0 10 13 tyX10 tyX10_ok nmX10 (Nat.le_of_ble_eq_true rfl) rfl rfl rfl (Nat.le_of_ble_eq_true rfl) rfl (fun _ h => List.mem_cons_of_mem _ (List.mem_append_right _ h)) (List.mem_of_getElem? (i := 1) rfl) rfl rfl rfl dX10_next_239 rfl ?_
        refine vv_nm (fun σ24 hσ24 => ?_)
        have h := h σ24 hσ24
        refine vv_goto X 183 dX10_next_242 (by decide) ?_
        exact ih σ24 h
      refine vv_icmp_le (q := 207) X 214 dX10_next_204 (by decide) rfl (fun c25 => ?_) (fun c25 => ?_)
      · have h := h.1 c25
        refine vv_bipush (q := 216) X (10 : Int32) dX10_next_214 (by decide) rfl ?_
        refine vv_aload_n (q := 217) X 0 dX10_next_216 rfl rfl rfl ?_
        refine vv_getf (q := 220) (ref := "HalfLaddersModel") (C := RX10) (T := TX10) (N := 27) X 0 10 16 (Nat.le_of_ble_eq_true rfl) rfl rfl (Nat.le_of_ble_eq_true rfl) (fun _ h => List.mem_cons_of_mem _ (List.mem_append_right _ h)) (List.mem_of_getElem? (i := 3) rfl) rfl rfl dX10_next_217 rfl ?_
        refine vv_imul (q := 221) X dX10_next_220 rfl ?_
        refine vv_aload_n (q := 222) X 0 dX10_next_221 rfl rfl rfl ?_
        refine vv_cVi (q := 225) (C := RX10) X 0 10 [] (kX10_here l D X.2.2.1 h) (cwV 0 X.1.2.2.2.2 gX10_next_X10_here rfl rfl rfl (by decide +kernel) ⟨Nat.le_of_ble_eq_true rfl, Nat.le_of_ble_eq_true rfl⟩) (Nat.le_of_ble_eq_true rfl) rfl rfl rfl rfl (Nat.le_of_ble_eq_true rfl) dX10_next_222 rfl (fun r26 u9 h9 => ?_)
        obtain ⟨h9, hu9⟩ := h9
        subst u9
        have h := h9
        refine vv_iadd (q := 226) X dX10_next_225 rfl ?_
        refine vv_bipush (q := 228) X (48 : Int32) dX10_next_226 (by decide) rfl ?_
        refine vv_isub (q := 229) X dX10_next_228 rfl ?_
        exact tJ21 ((((10 : Int32) * (σ.1 0 16)) + r26) - (48 : Int32)) h
      · have h := h.2 c25
        refine vv_aload_n (q := 208) X 0 dX10_next_207 rfl rfl rfl ?_
        refine vv_getf (q := 211) (ref := "HalfLaddersModel") (C := RX10) (T := TX10) (N := 27) X 0 10 16 (Nat.le_of_ble_eq_true rfl) rfl rfl (Nat.le_of_ble_eq_true rfl) (fun _ h => List.mem_cons_of_mem _ (List.mem_append_right _ h)) (List.mem_of_getElem? (i := 3) rfl) rfl rfl dX10_next_208 rfl ?_
        refine vv_goto X 229 dX10_next_211 (by decide) ?_
        exact tJ21 (σ.1 0 16) h

def wLX10_next_67   (K160 : St → Int32 → Int32 → Prop) (P : St → Prop) : Nat → St → Int32 → Int32 → Prop
  | 0, _, _, _ => False
  | n + 1, σ, x2, x3 =>
    wX10_here σ  (fun r35 : Int32 =>
    wX10_in σ r35 (97 : Int32) (122 : Int32) (fun r36 : Int32 =>
    (r36 = 0 →
    K160 σ x2 x3) ∧
    (¬ r36 = 0 →
    ∀ z38 : Int32, z38 = ((σ.1 0 13) - (σ.1 0 14)) →
    jn (fun (v40 : Int32) =>
    jn (fun (v42 : Int32) =>
    ∀ σ43 : St, σ43 = sI σ 0 13 ((σ.1 0 13) + (1 : Int32)) →
    wLX10_next_67 K160 P n σ43 v40 v42) (fun J41 : Int32 → Prop =>
    (¬ z38 = (6 : Int32) →
    (z38 ≤ (6 : Int32) →
    J41 x3) ∧
    (¬ z38 ≤ (6 : Int32) →
    J41 (99 : Int32))) ∧
    (z38 = (6 : Int32) →
    wX10_here σ  (fun r46 : Int32 =>
    J41 (r46 - (96 : Int32)))))) (fun J39 : Int32 → Prop =>
    ((6 : Int32) ≤ z38 →
    J39 x2) ∧
    (¬ (6 : Int32) ≤ z38 →
    wX10_here σ  (fun r48 : Int32 =>
    J39 ((((27 : Int32) * x2) + r48) - (96 : Int32))))))))

set_option maxHeartbeats 4000000 in
set_option maxRecDepth 100000 in
theorem twLX10_next_67 {p : Program} {l : Launch} {e : Env} {s : State} {m : MethodId} {args : Array Value} {below : List Frame} {meth : Method} {c : Code} {D : va_G} {cy : Nat → ClassId} {ad : Nat → Nat} (X : XX p s m args meth c cX10_next 5 D cy (wM ad cy) wsX10_next RX10) (hr : meth.sig.returnType = none)    (K160 : St → Int32 → Int32 → Prop) {P : St → Prop} (hK160 : ∀ (σ : St) (x2 : Int32) (x3 : Int32), K160 σ x2 x3 → VV p l e rmX10_next s m args below meth c (MQ below (va_Qv P (xPost D (wM ad cy)) (xA (wM ad cy))) args s 0 0 (xA (wM ad cy))) 5 D (wM ad cy) σ 160 [(0, .ref (ad 0)), (2, .int x2), (3, .int x3)] []) : ∀ (n : Nat) (σ : St) (x2 : Int32) (x3 : Int32), wLX10_next_67 K160 P n σ x2 x3 → VV p l e rmX10_next s m args below meth c (MQ below (va_Qv P (xPost D (wM ad cy)) (xA (wM ad cy))) args s 0 0 (xA (wM ad cy))) 5 D (wM ad cy) σ 67 [(0, .ref (ad 0)), (2, .int x2), (3, .int x3)] [] := by
  intro n
  induction n with
  | zero => intro σ x2 x3 h; exact h.elim
  | succ n ih =>
    intro σ x2 x3 h
    rw [wLX10_next_67] at h
    refine vv_aload_n (q := 68) X 0 dX10_next_67 rfl rfl rfl ?_
    refine vv_cVi (q := 71) (C := RX10) X 0 10 [] (kX10_here l D X.2.2.1 h) (cwV 0 X.1.2.2.2.2 gX10_next_X10_here rfl rfl rfl (by decide +kernel) ⟨Nat.le_of_ble_eq_true rfl, Nat.le_of_ble_eq_true rfl⟩) (Nat.le_of_ble_eq_true rfl) rfl rfl rfl rfl (Nat.le_of_ble_eq_true rfl) dX10_next_68 rfl (fun r35 u9 h9 => ?_)
    obtain ⟨h9, hu9⟩ := h9
    subst u9
    have h := h9
    refine vv_bipush (q := 73) X (97 : Int32) dX10_next_71 (by decide) rfl ?_
    refine vv_bipush (q := 75) X (122 : Int32) dX10_next_73 (by decide) rfl ?_
    refine vv_cSi (q := 78) X [.int r35, .int (97 : Int32), .int (122 : Int32)] (kX10_in l D X.2.2.1 h) (va_cwS 3 X.1.2.2.2.2 gX10_next_X10_in rfl rfl rfl (by decide +kernel) ⟨Nat.le_of_ble_eq_true rfl, Nat.le_of_ble_eq_true rfl⟩) rfl rfl (Nat.le_of_ble_eq_true rfl) dX10_next_75 rfl (fun r36 u9 h9 => ?_)
    obtain ⟨h9, hu9⟩ := h9
    subst u9
    have h := h9
    refine vv_if_eq (q := 81) X 160 dX10_next_78 (by decide) rfl (fun c37 => ?_) (fun c37 => ?_)
    · have h := h.1 c37
      exact hK160 σ x2 x3 h
    · have h := h.2 c37
      refine vv_aload_n (q := 82) X 0 dX10_next_81 rfl rfl rfl ?_
      refine vv_getf (q := 85) (ref := "HalfLaddersModel") (C := RX10) (T := TX10) (N := 27) X 0 10 13 (Nat.le_of_ble_eq_true rfl) rfl rfl (Nat.le_of_ble_eq_true rfl) (fun _ h => List.mem_cons_of_mem _ (List.mem_append_right _ h)) (List.mem_of_getElem? (i := 1) rfl) rfl rfl dX10_next_82 rfl ?_
      refine vv_aload_n (q := 86) X 0 dX10_next_85 rfl rfl rfl ?_
      refine vv_getf (q := 89) (ref := "HalfLaddersModel") (C := RX10) (T := TX10) (N := 27) X 0 10 14 (Nat.le_of_ble_eq_true rfl) rfl rfl (Nat.le_of_ble_eq_true rfl) (fun _ h => List.mem_cons_of_mem _ (List.mem_append_right _ h)) (List.mem_of_getElem? (i := 2) rfl) rfl rfl dX10_next_86 rfl ?_
      refine vv_isub (q := 90) X dX10_next_89 rfl ?_
      refine vv_topi (fun z38 hz38 => ?_)
      have h := h z38 hz38
      refine vv_istore (lv2 := [(4, .int z38), (0, .ref (ad 0)), (2, .int x2), (3, .int x3)]) (q := 92) X dX10_next_90 (Nat.le_of_ble_eq_true rfl) rfl rfl ?_
      refine vv_iload (q := 94) X 0 dX10_next_92 rfl rfl ?_
      refine vv_bipush (q := 96) X (6 : Int32) dX10_next_94 (by decide) rfl ?_
      obtain ⟨J39, hJ39, h⟩ := jn_el h
      have tJ39 : ∀ (v40 : Int32), J39 v40 → VV p l e rmX10_next s m args below meth c (MQ below (va_Qv P (xPost D (wM ad cy)) (xA (wM ad cy))) args s 0 0 (xA (wM ad cy))) 5 D (wM ad cy) σ 115 [(0, .ref (ad 0)), (3, .int x3), (4, .int z38)] [.int v40] := by
        intro v40 h
        rw [hJ39] at h
        refine vv_istore_n (lv2 := [(2, .int v40), (0, .ref (ad 0)), (3, .int x3), (4, .int z38)]) (q := 116) X dX10_next_115 rfl (Nat.le_of_ble_eq_true rfl) rfl rfl ?_
        refine vv_iload (q := 118) X 3 dX10_next_116 rfl rfl ?_
        refine vv_bipush (q := 120) X (6 : Int32) dX10_next_118 (by decide) rfl ?_
        obtain ⟨J41, hJ41, h⟩ := jn_el h
        have tJ41 : ∀ (v42 : Int32), J41 v42 → VV p l e rmX10_next s m args below meth c (MQ below (va_Qv P (xPost D (wM ad cy)) (xA (wM ad cy))) args s 0 0 (xA (wM ad cy))) 5 D (wM ad cy) σ 146 [(0, .ref (ad 0)), (2, .int v40)] [.int v42] := by
          intro v42 h
          rw [hJ41] at h
          refine vv_istore_n (lv2 := [(3, .int v42), (0, .ref (ad 0)), (2, .int v40)]) (q := 147) X dX10_next_146 rfl (Nat.le_of_ble_eq_true rfl) rfl rfl ?_
          refine vv_aload_n (q := 148) X 1 dX10_next_147 rfl rfl rfl ?_
          refine vv_dup (q := 149) X dX10_next_148 rfl rfl ?_
          refine vv_getf (q := 152) (ref := "HalfLaddersModel") (C := RX10) (T := TX10) (N := 27) X 0 10 13 (Nat.le_of_ble_eq_true rfl) rfl rfl (Nat.le_of_ble_eq_true rfl) (fun _ h => List.mem_cons_of_mem _ (List.mem_append_right _ h)) (List.mem_of_getElem? (i := 1) rfl) rfl rfl dX10_next_149 rfl ?_
          refine vv_iconst (q := 153) X (1 : Int32) dX10_next_152 (by decide) rfl ?_
          refine vv_iadd (q := 154) X dX10_next_153 rfl ?_
          refine vv_putf (q := 157) (ref := "HalfLaddersModel") (C := RX10) (T := TX10) (N := 27) X 0 10 13 tyX10 tyX10_ok nmX10 (Nat.le_of_ble_eq_true rfl) rfl rfl rfl (Nat.le_of_ble_eq_true rfl) rfl (fun _ h => List.mem_cons_of_mem _ (List.mem_append_right _ h)) (List.mem_of_getElem? (i := 1) rfl) rfl rfl rfl dX10_next_154 rfl ?_
          refine vv_nm (fun σ43 hσ43 => ?_)
          have h := h σ43 hσ43
          refine vv_goto X 67 dX10_next_157 (by decide) ?_
          refine vv_sub (lv' := [(0, .ref (ad 0)), (2, .int v40), (3, .int v42)]) [1, 2, 0] rfl ?_
          exact ih σ43 v40 v42 h
        refine vv_icmp_ne (q := 123) X 133 dX10_next_120 (by decide) rfl (fun c44 => ?_) (fun c44 => ?_)
        · have h := h.1 c44
          refine vv_iload (q := 135) X 3 dX10_next_133 rfl rfl ?_
          refine vv_bipush (q := 137) X (6 : Int32) dX10_next_135 (by decide) rfl ?_
          refine vv_icmp_le (q := 140) X 145 dX10_next_137 (by decide) rfl (fun c45 => ?_) (fun c45 => ?_)
          · have h := h.1 c45
            refine vv_iload_n (q := 146) X 2 dX10_next_145 rfl rfl rfl ?_
            refine vv_sub (lv' := [(0, .ref (ad 0)), (2, .int v40)]) [1, 0] rfl ?_
            exact tJ41 x3 h
          · have h := h.2 c45
            refine vv_bipush (q := 142) X (99 : Int32) dX10_next_140 (by decide) rfl ?_
            refine vv_goto X 146 dX10_next_142 (by decide) ?_
            refine vv_sub (lv' := [(0, .ref (ad 0)), (2, .int v40)]) [1, 0] rfl ?_
            exact tJ41 (99 : Int32) h
        · have h := h.2 c44
          refine vv_aload_n (q := 124) X 1 dX10_next_123 rfl rfl rfl ?_
          refine vv_cVi (q := 127) (C := RX10) X 0 10 [] (kX10_here l D X.2.2.1 h) (cwV 0 X.1.2.2.2.2 gX10_next_X10_here rfl rfl rfl (by decide +kernel) ⟨Nat.le_of_ble_eq_true rfl, Nat.le_of_ble_eq_true rfl⟩) (Nat.le_of_ble_eq_true rfl) rfl rfl rfl rfl (Nat.le_of_ble_eq_true rfl) dX10_next_124 rfl (fun r46 u9 h9 => ?_)
          obtain ⟨h9, hu9⟩ := h9
          subst u9
          have h := h9
          refine vv_bipush (q := 129) X (96 : Int32) dX10_next_127 (by decide) rfl ?_
          refine vv_isub (q := 130) X dX10_next_129 rfl ?_
          refine vv_goto X 146 dX10_next_130 (by decide) ?_
          refine vv_sub (lv' := [(0, .ref (ad 0)), (2, .int v40)]) [1, 0] rfl ?_
          exact tJ41 (r46 - (96 : Int32)) h
      refine vv_icmp_ge (q := 99) X 114 dX10_next_96 (by decide) rfl (fun c47 => ?_) (fun c47 => ?_)
      · have h := h.1 c47
        refine vv_iload_n (q := 115) X 2 dX10_next_114 rfl rfl rfl ?_
        refine vv_sub (lv' := [(0, .ref (ad 0)), (3, .int x3), (4, .int z38)]) [1, 3, 0] rfl ?_
        exact tJ39 x2 h
      · have h := h.2 c47
        refine vv_bipush (q := 101) X (27 : Int32) dX10_next_99 (by decide) rfl ?_
        refine vv_iload_n (q := 102) X 2 dX10_next_101 rfl rfl rfl ?_
        refine vv_imul (q := 103) X dX10_next_102 rfl ?_
        refine vv_aload_n (q := 104) X 1 dX10_next_103 rfl rfl rfl ?_
        refine vv_cVi (q := 107) (C := RX10) X 0 10 [] (kX10_here l D X.2.2.1 h) (cwV 0 X.1.2.2.2.2 gX10_next_X10_here rfl rfl rfl (by decide +kernel) ⟨Nat.le_of_ble_eq_true rfl, Nat.le_of_ble_eq_true rfl⟩) (Nat.le_of_ble_eq_true rfl) rfl rfl rfl rfl (Nat.le_of_ble_eq_true rfl) dX10_next_104 rfl (fun r48 u9 h9 => ?_)
        obtain ⟨h9, hu9⟩ := h9
        subst u9
        have h := h9
        refine vv_iadd (q := 108) X dX10_next_107 rfl ?_
        refine vv_bipush (q := 110) X (96 : Int32) dX10_next_108 (by decide) rfl ?_
        refine vv_isub (q := 111) X dX10_next_110 rfl ?_
        refine vv_goto X 115 dX10_next_111 (by decide) ?_
        refine vv_sub (lv' := [(0, .ref (ad 0)), (3, .int x3), (4, .int z38)]) [1, 3, 0] rfl ?_
        exact tJ39 ((((27 : Int32) * x2) + r48) - (96 : Int32)) h

def wX10_next (σ : St)  (P : St → Prop) : Prop :=
∃ n56 : Nat, wLX10_next_0 (fun (σ4 : St) =>
∀ σ5 : St, σ5 = sI σ4 0 14 (σ4.1 0 13) →
∀ σ6 : St, σ6 = sI σ5 0 16 (0 : Int32) →
wX10_here σ6  (fun r7 : Int32 =>
(0 ≤ r7 →
wX10_in σ6 r7 (97 : Int32) (122 : Int32) (fun r9 : Int32 =>
(r9 = 0 →
wX10_in σ6 r7 (48 : Int32) (57 : Int32) (fun r11 : Int32 =>
(r11 = 0 →
∀ σ13 : St, σ13 = sI σ6 0 13 ((σ6.1 0 13) + (1 : Int32)) →
jn (fun (v15 : Int32) =>
∀ σ16 : St, σ16 = sI σ13 0 15 v15 →
P σ16) (fun J14 : Int32 → Prop =>
(¬ r7 = (59 : Int32) →
J14 (7 : Int32)) ∧
(r7 = (59 : Int32) →
J14 (6 : Int32)))) ∧
(¬ r11 = 0 →
∃ n34 : Nat, wLX10_next_183 r7 (fun (σ27 : St) =>
jn (fun (v29 : Int32) =>
∀ σ30 : St, σ30 = sI σ27 0 15 v29 →
P σ30) (fun J28 : Int32 → Prop =>
((99 : Int32) < (σ27.1 0 16) →
J28 (7 : Int32)) ∧
(¬ (99 : Int32) < (σ27.1 0 16) →
(¬ r7 = (48 : Int32) →
J28 (5 : Int32)) ∧
(r7 = (48 : Int32) →
(((σ27.1 0 13) - (σ27.1 0 14)) ≤ (1 : Int32) →
J28 (5 : Int32)) ∧
(¬ ((σ27.1 0 13) - (σ27.1 0 14)) ≤ (1 : Int32) →
J28 (7 : Int32)))))) P n34 σ6))) ∧
(¬ r9 = 0 →
∃ n54 : Nat, wLX10_next_67 (fun (σ51 : St) (y49 : Int32) (y50 : Int32) =>
wX10_meaning σ51 y49 y50 (fun r52 : Int32 =>
∀ σ53 : St, σ53 = sI σ51 0 15 r52 →
P σ53)) P n54 σ6 (0 : Int32) (0 : Int32)))) ∧
(¬ 0 ≤ r7 →
∀ σ55 : St, σ55 = sI σ6 0 15 (4 : Int32) →
P σ55))) P n56 σ

set_option maxHeartbeats 8000000 in
set_option maxRecDepth 100000 in
theorem kX10_next (l : Launch) (D : va_G) {cy : Nat → ClassId} {ad : Nat → Nat} (hw : xOk (wM ad cy)) {σ : St}  {P : St → Prop} (h : wX10_next σ  P) : MV l yX10_next wsX10_next rmX10_next D cy (wM ad cy) [.ref (ad 0)] σ P := by
  unfold MV
  refine vv_met (cc := cX10_next) (maxL := 5) (ret := none) hw (by decide +kernel) rfl [.ref (ad 0)] (Nat.le_of_ble_eq_true rfl) ?_
  intro p e s m args below meth c X hr
  have X : XX p s m args meth c cX10_next 5 D cy (wM ad cy) wsX10_next RX10 := X
  refine vv_sub (lv' := [(0, .ref (ad 0))]) [0] rfl ?_
  rw [wX10_next] at h
  obtain ⟨n56, h⟩ := h
  refine twLX10_next_0 X hr  _ ?_ n56 σ h
  intro σ4 h
  refine vv_aload_n (q := 23) X 0 dX10_next_22 rfl rfl rfl ?_
  refine vv_aload_n (q := 24) X 0 dX10_next_23 rfl rfl rfl ?_
  refine vv_getf (q := 27) (ref := "HalfLaddersModel") (C := RX10) (T := TX10) (N := 27) X 0 10 13 (Nat.le_of_ble_eq_true rfl) rfl rfl (Nat.le_of_ble_eq_true rfl) (fun _ h => List.mem_cons_of_mem _ (List.mem_append_right _ h)) (List.mem_of_getElem? (i := 1) rfl) rfl rfl dX10_next_24 rfl ?_
  refine vv_putf (q := 30) (ref := "HalfLaddersModel") (C := RX10) (T := TX10) (N := 27) X 0 10 14 tyX10 tyX10_ok nmX10 (Nat.le_of_ble_eq_true rfl) rfl rfl rfl (Nat.le_of_ble_eq_true rfl) rfl (fun _ h => List.mem_cons_of_mem _ (List.mem_append_right _ h)) (List.mem_of_getElem? (i := 2) rfl) rfl rfl rfl dX10_next_27 rfl ?_
  refine vv_nm (fun σ5 hσ5 => ?_)
  have h := h σ5 hσ5
  refine vv_aload_n (q := 31) X 0 dX10_next_30 rfl rfl rfl ?_
  refine vv_iconst (q := 32) X (0 : Int32) dX10_next_31 (by decide) rfl ?_
  refine vv_putf (q := 35) (ref := "HalfLaddersModel") (C := RX10) (T := TX10) (N := 27) X 0 10 16 tyX10 tyX10_ok nmX10 (Nat.le_of_ble_eq_true rfl) rfl rfl rfl (Nat.le_of_ble_eq_true rfl) rfl (fun _ h => List.mem_cons_of_mem _ (List.mem_append_right _ h)) (List.mem_of_getElem? (i := 3) rfl) rfl rfl rfl dX10_next_32 rfl ?_
  refine vv_nm (fun σ6 hσ6 => ?_)
  have h := h σ6 hσ6
  refine vv_aload_n (q := 36) X 0 dX10_next_35 rfl rfl rfl ?_
  refine vv_cVi (q := 39) (C := RX10) X 0 10 [] (kX10_here l D X.2.2.1 h) (cwV 0 X.1.2.2.2.2 gX10_next_X10_here rfl rfl rfl (by decide +kernel) ⟨Nat.le_of_ble_eq_true rfl, Nat.le_of_ble_eq_true rfl⟩) (Nat.le_of_ble_eq_true rfl) rfl rfl rfl rfl (Nat.le_of_ble_eq_true rfl) dX10_next_36 rfl (fun r7 u9 h9 => ?_)
  obtain ⟨h9, hu9⟩ := h9
  subst u9
  have h := h9
  refine vv_istore_n (lv2 := [(1, .int r7), (0, .ref (ad 0))]) (q := 40) X dX10_next_39 rfl (Nat.le_of_ble_eq_true rfl) rfl rfl ?_
  refine vv_iload_n (q := 41) X 0 dX10_next_40 rfl rfl rfl ?_
  refine vv_if_ge (q := 44) X 52 dX10_next_41 (by decide) rfl (fun c8 => ?_) (fun c8 => ?_)
  · have h := h.1 c8
    refine vv_iload_n (q := 53) X 0 dX10_next_52 rfl rfl rfl ?_
    refine vv_bipush (q := 55) X (97 : Int32) dX10_next_53 (by decide) rfl ?_
    refine vv_bipush (q := 57) X (122 : Int32) dX10_next_55 (by decide) rfl ?_
    refine vv_cSi (q := 60) X [.int r7, .int (97 : Int32), .int (122 : Int32)] (kX10_in l D X.2.2.1 h) (va_cwS 3 X.1.2.2.2.2 gX10_next_X10_in rfl rfl rfl (by decide +kernel) ⟨Nat.le_of_ble_eq_true rfl, Nat.le_of_ble_eq_true rfl⟩) rfl rfl (Nat.le_of_ble_eq_true rfl) dX10_next_57 rfl (fun r9 u9 h9 => ?_)
    obtain ⟨h9, hu9⟩ := h9
    subst u9
    have h := h9
    refine vv_if_eq (q := 63) X 172 dX10_next_60 (by decide) rfl (fun c10 => ?_) (fun c10 => ?_)
    · have h := h.1 c10
      refine vv_iload_n (q := 173) X 0 dX10_next_172 rfl rfl rfl ?_
      refine vv_bipush (q := 175) X (48 : Int32) dX10_next_173 (by decide) rfl ?_
      refine vv_bipush (q := 177) X (57 : Int32) dX10_next_175 (by decide) rfl ?_
      refine vv_cSi (q := 180) X [.int r7, .int (48 : Int32), .int (57 : Int32)] (kX10_in l D X.2.2.1 h) (va_cwS 3 X.1.2.2.2.2 gX10_next_X10_in rfl rfl rfl (by decide +kernel) ⟨Nat.le_of_ble_eq_true rfl, Nat.le_of_ble_eq_true rfl⟩) rfl rfl (Nat.le_of_ble_eq_true rfl) dX10_next_177 rfl (fun r11 u9 h9 => ?_)
      obtain ⟨h9, hu9⟩ := h9
      subst u9
      have h := h9
      refine vv_if_eq (q := 183) X 286 dX10_next_180 (by decide) rfl (fun c12 => ?_) (fun c12 => ?_)
      · have h := h.1 c12
        refine vv_aload_n (q := 287) X 1 dX10_next_286 rfl rfl rfl ?_
        refine vv_dup (q := 288) X dX10_next_287 rfl rfl ?_
        refine vv_getf (q := 291) (ref := "HalfLaddersModel") (C := RX10) (T := TX10) (N := 27) X 0 10 13 (Nat.le_of_ble_eq_true rfl) rfl rfl (Nat.le_of_ble_eq_true rfl) (fun _ h => List.mem_cons_of_mem _ (List.mem_append_right _ h)) (List.mem_of_getElem? (i := 1) rfl) rfl rfl dX10_next_288 rfl ?_
        refine vv_iconst (q := 292) X (1 : Int32) dX10_next_291 (by decide) rfl ?_
        refine vv_iadd (q := 293) X dX10_next_292 rfl ?_
        refine vv_putf (q := 296) (ref := "HalfLaddersModel") (C := RX10) (T := TX10) (N := 27) X 0 10 13 tyX10 tyX10_ok nmX10 (Nat.le_of_ble_eq_true rfl) rfl rfl rfl (Nat.le_of_ble_eq_true rfl) rfl (fun _ h => List.mem_cons_of_mem _ (List.mem_append_right _ h)) (List.mem_of_getElem? (i := 1) rfl) rfl rfl rfl dX10_next_293 rfl ?_
        refine vv_nm (fun σ13 hσ13 => ?_)
        have h := h σ13 hσ13
        refine vv_aload_n (q := 297) X 1 dX10_next_296 rfl rfl rfl ?_
        refine vv_iload_n (q := 298) X 0 dX10_next_297 rfl rfl rfl ?_
        refine vv_bipush (q := 300) X (59 : Int32) dX10_next_298 (by decide) rfl ?_
        obtain ⟨J14, hJ14, h⟩ := jn_el h
        have tJ14 : ∀ (v15 : Int32), J14 v15 → VV p l e rmX10_next s m args below meth c (MQ below (va_Qv P (xPost D (wM ad cy)) (xA (wM ad cy))) args s 0 0 (xA (wM ad cy))) 5 D (wM ad cy) σ13 310 [] [.int v15, .ref (ad 0)] := by
          intro v15 h
          rw [hJ14] at h
          refine vv_putf (q := 313) (ref := "HalfLaddersModel") (C := RX10) (T := TX10) (N := 27) X 0 10 15 tyX10 tyX10_ok nmX10 (Nat.le_of_ble_eq_true rfl) rfl rfl rfl (Nat.le_of_ble_eq_true rfl) rfl (fun _ h => List.mem_cons_of_mem _ (List.mem_append_right _ h)) (List.mem_of_getElem? (i := 4) rfl) rfl rfl rfl dX10_next_310 rfl ?_
          refine vv_nm (fun σ16 hσ16 => ?_)
          have h := h σ16 hσ16
          exact vv_vret X hr dX10_next_313 h
        refine vv_icmp_ne (q := 303) X 308 dX10_next_300 (by decide) rfl (fun c17 => ?_) (fun c17 => ?_)
        · have h := h.1 c17
          refine vv_bipush (q := 310) X (7 : Int32) dX10_next_308 (by decide) rfl ?_
          refine vv_sub (lv' := []) [] rfl ?_
          exact tJ14 (7 : Int32) h
        · have h := h.2 c17
          refine vv_bipush (q := 305) X (6 : Int32) dX10_next_303 (by decide) rfl ?_
          refine vv_goto X 310 dX10_next_305 (by decide) ?_
          refine vv_sub (lv' := []) [] rfl ?_
          exact tJ14 (6 : Int32) h
      · have h := h.2 c12
        obtain ⟨n34, h⟩ := h
        refine vv_sub (lv' := [(0, .ref (ad 0)), (1, .int r7)]) [1, 0] rfl ?_
        refine twLX10_next_183 X hr r7  _ ?_ n34 σ6 h
        intro σ27 h
        refine vv_aload_n (q := 246) X 0 dX10_next_245 rfl rfl rfl ?_
        refine vv_aload_n (q := 247) X 0 dX10_next_246 rfl rfl rfl ?_
        refine vv_getf (q := 250) (ref := "HalfLaddersModel") (C := RX10) (T := TX10) (N := 27) X 0 10 16 (Nat.le_of_ble_eq_true rfl) rfl rfl (Nat.le_of_ble_eq_true rfl) (fun _ h => List.mem_cons_of_mem _ (List.mem_append_right _ h)) (List.mem_of_getElem? (i := 3) rfl) rfl rfl dX10_next_247 rfl ?_
        refine vv_bipush (q := 252) X (99 : Int32) dX10_next_250 (by decide) rfl ?_
        obtain ⟨J28, hJ28, h⟩ := jn_el h
        have tJ28 : ∀ (v29 : Int32), J28 v29 → VV p l e rmX10_next s m args below meth c (MQ below (va_Qv P (xPost D (wM ad cy)) (xA (wM ad cy))) args s 0 0 (xA (wM ad cy))) 5 D (wM ad cy) σ27 280 [] [.int v29, .ref (ad 0)] := by
          intro v29 h
          rw [hJ28] at h
          refine vv_putf (q := 283) (ref := "HalfLaddersModel") (C := RX10) (T := TX10) (N := 27) X 0 10 15 tyX10 tyX10_ok nmX10 (Nat.le_of_ble_eq_true rfl) rfl rfl rfl (Nat.le_of_ble_eq_true rfl) rfl (fun _ h => List.mem_cons_of_mem _ (List.mem_append_right _ h)) (List.mem_of_getElem? (i := 4) rfl) rfl rfl rfl dX10_next_280 rfl ?_
          refine vv_nm (fun σ30 hσ30 => ?_)
          have h := h σ30 hσ30
          refine vv_goto X 313 dX10_next_283 (by decide) ?_
          exact vv_vret X hr dX10_next_313 h
        refine vv_icmp_gt (q := 255) X 274 dX10_next_252 (by decide) rfl (fun c31 => ?_) (fun c31 => ?_)
        · have h := h.1 c31
          refine vv_bipush (q := 276) X (7 : Int32) dX10_next_274 (by decide) rfl ?_
          refine vv_goto X 280 dX10_next_276 (by decide) ?_
          refine vv_sub (lv' := []) [] rfl ?_
          exact tJ28 (7 : Int32) h
        · have h := h.2 c31
          refine vv_iload_n (q := 256) X 1 dX10_next_255 rfl rfl rfl ?_
          refine vv_bipush (q := 258) X (48 : Int32) dX10_next_256 (by decide) rfl ?_
          refine vv_icmp_ne (q := 261) X 279 dX10_next_258 (by decide) rfl (fun c32 => ?_) (fun c32 => ?_)
          · have h := h.1 c32
            refine vv_iconst (q := 280) X (5 : Int32) dX10_next_279 (by decide) rfl ?_
            refine vv_sub (lv' := []) [] rfl ?_
            exact tJ28 (5 : Int32) h
          · have h := h.2 c32
            refine vv_aload_n (q := 262) X 0 dX10_next_261 rfl rfl rfl ?_
            refine vv_getf (q := 265) (ref := "HalfLaddersModel") (C := RX10) (T := TX10) (N := 27) X 0 10 13 (Nat.le_of_ble_eq_true rfl) rfl rfl (Nat.le_of_ble_eq_true rfl) (fun _ h => List.mem_cons_of_mem _ (List.mem_append_right _ h)) (List.mem_of_getElem? (i := 1) rfl) rfl rfl dX10_next_262 rfl ?_
            refine vv_aload_n (q := 266) X 0 dX10_next_265 rfl rfl rfl ?_
            refine vv_getf (q := 269) (ref := "HalfLaddersModel") (C := RX10) (T := TX10) (N := 27) X 0 10 14 (Nat.le_of_ble_eq_true rfl) rfl rfl (Nat.le_of_ble_eq_true rfl) (fun _ h => List.mem_cons_of_mem _ (List.mem_append_right _ h)) (List.mem_of_getElem? (i := 2) rfl) rfl rfl dX10_next_266 rfl ?_
            refine vv_isub (q := 270) X dX10_next_269 rfl ?_
            refine vv_iconst (q := 271) X (1 : Int32) dX10_next_270 (by decide) rfl ?_
            refine vv_icmp_le (q := 274) X 279 dX10_next_271 (by decide) rfl (fun c33 => ?_) (fun c33 => ?_)
            · have h := h.1 c33
              refine vv_iconst (q := 280) X (5 : Int32) dX10_next_279 (by decide) rfl ?_
              refine vv_sub (lv' := []) [] rfl ?_
              exact tJ28 (5 : Int32) h
            · have h := h.2 c33
              refine vv_bipush (q := 276) X (7 : Int32) dX10_next_274 (by decide) rfl ?_
              refine vv_goto X 280 dX10_next_276 (by decide) ?_
              refine vv_sub (lv' := []) [] rfl ?_
              exact tJ28 (7 : Int32) h
    · have h := h.2 c10
      refine vv_iconst (q := 64) X (0 : Int32) dX10_next_63 (by decide) rfl ?_
      refine vv_istore_n (lv2 := [(2, .int (0 : Int32)), (1, .int r7), (0, .ref (ad 0))]) (q := 65) X dX10_next_64 rfl (Nat.le_of_ble_eq_true rfl) rfl rfl ?_
      refine vv_iconst (q := 66) X (0 : Int32) dX10_next_65 (by decide) rfl ?_
      refine vv_istore_n (lv2 := [(3, .int (0 : Int32)), (2, .int (0 : Int32)), (1, .int r7), (0, .ref (ad 0))]) (q := 67) X dX10_next_66 rfl (Nat.le_of_ble_eq_true rfl) rfl rfl ?_
      obtain ⟨n54, h⟩ := h
      refine vv_sub (lv' := [(0, .ref (ad 0)), (2, .int (0 : Int32)), (3, .int (0 : Int32))]) [3, 1, 0] rfl ?_
      refine twLX10_next_67 X hr  _ ?_ n54 σ6 (0 : Int32) (0 : Int32) h
      intro σ51 y49 y50 h
      refine vv_aload_n (q := 161) X 0 dX10_next_160 rfl rfl rfl ?_
      refine vv_iload_n (q := 162) X 1 dX10_next_161 rfl rfl rfl ?_
      refine vv_iload_n (q := 163) X 2 dX10_next_162 rfl rfl rfl ?_
      refine vv_cSi (q := 166) X [.int y49, .int y50] (kX10_meaning l D X.2.2.1 h) (va_cwS 2 X.1.2.2.2.2 gX10_next_X10_meaning rfl rfl rfl (by decide +kernel) ⟨Nat.le_of_ble_eq_true rfl, Nat.le_of_ble_eq_true rfl⟩) rfl rfl (Nat.le_of_ble_eq_true rfl) dX10_next_163 rfl (fun r52 u9 h9 => ?_)
      obtain ⟨h9, hu9⟩ := h9
      subst u9
      have h := h9
      refine vv_putf (q := 169) (ref := "HalfLaddersModel") (C := RX10) (T := TX10) (N := 27) X 0 10 15 tyX10 tyX10_ok nmX10 (Nat.le_of_ble_eq_true rfl) rfl rfl rfl (Nat.le_of_ble_eq_true rfl) rfl (fun _ h => List.mem_cons_of_mem _ (List.mem_append_right _ h)) (List.mem_of_getElem? (i := 4) rfl) rfl rfl rfl dX10_next_166 rfl ?_
      refine vv_nm (fun σ53 hσ53 => ?_)
      have h := h σ53 hσ53
      refine vv_goto X 313 dX10_next_169 (by decide) ?_
      exact vv_vret X hr dX10_next_313 h
  · have h := h.2 c8
    refine vv_aload_n (q := 45) X 1 dX10_next_44 rfl rfl rfl ?_
    refine vv_iconst (q := 46) X (4 : Int32) dX10_next_45 (by decide) rfl ?_
    refine vv_putf (q := 49) (ref := "HalfLaddersModel") (C := RX10) (T := TX10) (N := 27) X 0 10 15 tyX10 tyX10_ok nmX10 (Nat.le_of_ble_eq_true rfl) rfl rfl rfl (Nat.le_of_ble_eq_true rfl) rfl (fun _ h => List.mem_cons_of_mem _ (List.mem_append_right _ h)) (List.mem_of_getElem? (i := 4) rfl) rfl rfl rfl dX10_next_46 rfl ?_
    refine vv_nm (fun σ55 hσ55 => ?_)
    have h := h σ55 hσ55
    refine vv_goto X 313 dX10_next_49 (by decide) ?_
    exact vv_vret X hr dX10_next_313 h

/-! X10_due: due(Z)I -/
def rmX10_due : Room := { frames := 2, cells := 0, slots := 0, locals := 46 }
def wX10_due (σ : St) (a1 : Int32) (P : Int32 → St → Prop) : Prop :=
∀ z1 : Int32, z1 = (σ.1 0 16) →
(¬ (σ.1 0 17) = (-9 : Int32) →
P z1 σ) ∧
((σ.1 0 17) = (-9 : Int32) →
(a1 = 0 →
∀ σ4 : St, σ4 = sI σ 0 17 (σ.1 0 14) →
P z1 σ4) ∧
(¬ a1 = 0 →
wX10_next σ  (fun σ5 : St =>
P z1 σ5)))

set_option maxHeartbeats 8000000 in
set_option maxRecDepth 100000 in
theorem kX10_due (l : Launch) (D : va_G) {cy : Nat → ClassId} {ad : Nat → Nat} (hw : xOk (wM ad cy)) {σ : St} {a1 : Int32} {P : Int32 → St → Prop} (h : wX10_due σ a1 P) : MI l yX10_due wsX10_due rmX10_due D cy (wM ad cy) [.ref (ad 0), .int a1] σ P := by
  unfold MI
  refine vv_met (cc := cX10_due) (maxL := 3) (ret := (some .int)) hw (by decide +kernel) rfl [.ref (ad 0), .int a1] (Nat.le_of_ble_eq_true rfl) ?_
  intro p e s m args below meth c X hr
  have X : XX p s m args meth c cX10_due 3 D cy (wM ad cy) wsX10_due RX10 := X
  refine vv_sub (lv' := [(0, .ref (ad 0)), (1, .int a1)]) [0, 1] rfl ?_
  rw [wX10_due] at h
  refine vv_aload_n (q := 1) X 0 dX10_due_0 rfl rfl rfl ?_
  refine vv_getf (q := 4) (ref := "HalfLaddersModel") (C := RX10) (T := TX10) (N := 27) X 0 10 16 (Nat.le_of_ble_eq_true rfl) rfl rfl (Nat.le_of_ble_eq_true rfl) (fun _ h => List.mem_cons_of_mem _ (List.mem_append_right _ h)) (List.mem_of_getElem? (i := 1) rfl) rfl rfl dX10_due_1 rfl ?_
  refine vv_topi (fun z1 hz1 => ?_)
  have h := h z1 hz1
  refine vv_istore_n (lv2 := [(2, .int z1), (0, .ref (ad 0)), (1, .int a1)]) (q := 5) X dX10_due_4 rfl (Nat.le_of_ble_eq_true rfl) rfl rfl ?_
  refine vv_aload_n (q := 6) X 1 dX10_due_5 rfl rfl rfl ?_
  refine vv_getf (q := 9) (ref := "HalfLaddersModel") (C := RX10) (T := TX10) (N := 27) X 0 10 17 (Nat.le_of_ble_eq_true rfl) rfl rfl (Nat.le_of_ble_eq_true rfl) (fun _ h => List.mem_cons_of_mem _ (List.mem_append_right _ h)) (List.mem_of_getElem? (i := 2) rfl) rfl rfl dX10_due_6 rfl ?_
  refine vv_bipush (q := 11) X (-9 : Int32) dX10_due_9 (by decide) rfl ?_
  refine vv_icmp_ne (q := 14) X 33 dX10_due_11 (by decide) rfl (fun c2 => ?_) (fun c2 => ?_)
  · have h := h.1 c2
    refine vv_iload_n (q := 34) X 0 dX10_due_33 rfl rfl rfl ?_
    exact vv_iret X hr dX10_due_34 h
  · have h := h.2 c2
    refine vv_iload_n (q := 15) X 2 dX10_due_14 rfl rfl rfl ?_
    refine vv_if_eq (q := 18) X 25 dX10_due_15 (by decide) rfl (fun c3 => ?_) (fun c3 => ?_)
    · have h := h.1 c3
      refine vv_aload_n (q := 26) X 1 dX10_due_25 rfl rfl rfl ?_
      refine vv_aload_n (q := 27) X 1 dX10_due_26 rfl rfl rfl ?_
      refine vv_getf (q := 30) (ref := "HalfLaddersModel") (C := RX10) (T := TX10) (N := 27) X 0 10 14 (Nat.le_of_ble_eq_true rfl) rfl rfl (Nat.le_of_ble_eq_true rfl) (fun _ h => List.mem_cons_of_mem _ (List.mem_append_right _ h)) (List.mem_of_getElem? (i := 3) rfl) rfl rfl dX10_due_27 rfl ?_
      refine vv_putf (q := 33) (ref := "HalfLaddersModel") (C := RX10) (T := TX10) (N := 27) X 0 10 17 tyX10 tyX10_ok nmX10 (Nat.le_of_ble_eq_true rfl) rfl rfl rfl (Nat.le_of_ble_eq_true rfl) rfl (fun _ h => List.mem_cons_of_mem _ (List.mem_append_right _ h)) (List.mem_of_getElem? (i := 2) rfl) rfl rfl rfl dX10_due_30 rfl ?_
      refine vv_nm (fun σ4 hσ4 => ?_)
      have h := h σ4 hσ4
      refine vv_iload_n (q := 34) X 0 dX10_due_33 rfl rfl rfl ?_
      exact vv_iret X hr dX10_due_34 h
    · have h := h.2 c3
      refine vv_aload_n (q := 19) X 1 dX10_due_18 rfl rfl rfl ?_
      refine vv_cVv (q := 22) (C := RX10) X 0 10 [] (kX10_next l D X.2.2.1 h) (cwV 0 X.1.2.2.2.2 gX10_due_X10_next rfl rfl rfl (by decide +kernel) ⟨Nat.le_of_ble_eq_true rfl, Nat.le_of_ble_eq_true rfl⟩) (Nat.le_of_ble_eq_true rfl) rfl rfl rfl rfl (Nat.le_of_ble_eq_true rfl) dX10_due_19 rfl (fun σ5 h => ?_)
      refine vv_goto X 33 dX10_due_22 (by decide) ?_
      refine vv_iload_n (q := 34) X 0 dX10_due_33 rfl rfl rfl ?_
      exact vv_iret X hr dX10_due_34 h

/-! X10_number: number(II)I -/
def rmX10_number : Room := { frames := 3, cells := 0, slots := 0, locals := 68 }
def wX10_number (σ : St) (a1 : Int32) (a2 : Int32) (P : Int32 → St → Prop) : Prop :=
jn (fun (v2 : Int32) =>
wX10_due σ v2 (fun (r3 : Int32) (σ4 : St) =>
P r3 σ4)) (fun J1 : Int32 → Prop =>
(¬ (σ.1 0 15) = (5 : Int32) →
J1 (0 : Int32)) ∧
((σ.1 0 15) = (5 : Int32) →
wX10_in σ (σ.1 0 16) a1 a2 (fun r6 : Int32 =>
(r6 = 0 →
J1 (0 : Int32)) ∧
(¬ r6 = 0 →
J1 (1 : Int32)))))

set_option maxHeartbeats 8000000 in
set_option maxRecDepth 100000 in
theorem kX10_number (l : Launch) (D : va_G) {cy : Nat → ClassId} {ad : Nat → Nat} (hw : xOk (wM ad cy)) {σ : St} {a1 : Int32} {a2 : Int32} {P : Int32 → St → Prop} (h : wX10_number σ a1 a2 P) : MI l yX10_number wsX10_number rmX10_number D cy (wM ad cy) [.ref (ad 0), .int a1, .int a2] σ P := by
  unfold MI
  refine vv_met (cc := cX10_number) (maxL := 3) (ret := (some .int)) hw (by decide +kernel) rfl [.ref (ad 0), .int a1, .int a2] (Nat.le_of_ble_eq_true rfl) ?_
  intro p e s m args below meth c X hr
  have X : XX p s m args meth c cX10_number 3 D cy (wM ad cy) wsX10_number RX10 := X
  refine vv_sub (lv' := [(0, .ref (ad 0)), (1, .int a1), (2, .int a2)]) [0, 1, 2] rfl ?_
  rw [wX10_number] at h
  refine vv_aload_n (q := 1) X 0 dX10_number_0 rfl rfl rfl ?_
  refine vv_aload_n (q := 2) X 0 dX10_number_1 rfl rfl rfl ?_
  refine vv_getf (q := 5) (ref := "HalfLaddersModel") (C := RX10) (T := TX10) (N := 27) X 0 10 15 (Nat.le_of_ble_eq_true rfl) rfl rfl (Nat.le_of_ble_eq_true rfl) (fun _ h => List.mem_cons_of_mem _ (List.mem_append_right _ h)) (List.mem_of_getElem? (i := 1) rfl) rfl rfl dX10_number_2 rfl ?_
  refine vv_iconst (q := 6) X (5 : Int32) dX10_number_5 (by decide) rfl ?_
  obtain ⟨J1, hJ1, h⟩ := jn_el h
  have tJ1 : ∀ (v2 : Int32), J1 v2 → VV p l e rmX10_number s m args below meth c (MQ below (va_Qi P (xPost D (wM ad cy)) (xA (wM ad cy))) args s 0 0 (xA (wM ad cy))) 3 D (wM ad cy) σ 26 [] [.int v2, .ref (ad 0)] := by
    intro v2 h
    rw [hJ1] at h
    refine vv_cVi (q := 29) (C := RX10) X 0 10 [.int v2] (kX10_due l D X.2.2.1 h) (cwV 1 X.1.2.2.2.2 gX10_number_X10_due rfl rfl rfl (by decide +kernel) ⟨Nat.le_of_ble_eq_true rfl, Nat.le_of_ble_eq_true rfl⟩) (Nat.le_of_ble_eq_true rfl) rfl rfl rfl rfl (Nat.le_of_ble_eq_true rfl) dX10_number_26 rfl (fun r3 σ4 h => ?_)
    exact vv_iret X hr dX10_number_29 h
  refine vv_icmp_ne (q := 9) X 25 dX10_number_6 (by decide) rfl (fun c5 => ?_) (fun c5 => ?_)
  · have h := h.1 c5
    refine vv_iconst (q := 26) X (0 : Int32) dX10_number_25 (by decide) rfl ?_
    refine vv_sub (lv' := []) [] rfl ?_
    exact tJ1 (0 : Int32) h
  · have h := h.2 c5
    refine vv_aload_n (q := 10) X 0 dX10_number_9 rfl rfl rfl ?_
    refine vv_getf (q := 13) (ref := "HalfLaddersModel") (C := RX10) (T := TX10) (N := 27) X 0 10 16 (Nat.le_of_ble_eq_true rfl) rfl rfl (Nat.le_of_ble_eq_true rfl) (fun _ h => List.mem_cons_of_mem _ (List.mem_append_right _ h)) (List.mem_of_getElem? (i := 2) rfl) rfl rfl dX10_number_10 rfl ?_
    refine vv_iload_n (q := 14) X 1 dX10_number_13 rfl rfl rfl ?_
    refine vv_iload_n (q := 15) X 2 dX10_number_14 rfl rfl rfl ?_
    refine vv_cSi (q := 18) X [.int (σ.1 0 16), .int a1, .int a2] (kX10_in l D X.2.2.1 h) (va_cwS 3 X.1.2.2.2.2 gX10_number_X10_in rfl rfl rfl (by decide +kernel) ⟨Nat.le_of_ble_eq_true rfl, Nat.le_of_ble_eq_true rfl⟩) rfl rfl (Nat.le_of_ble_eq_true rfl) dX10_number_15 rfl (fun r6 u9 h9 => ?_)
    obtain ⟨h9, hu9⟩ := h9
    subst u9
    have h := h9
    refine vv_if_eq (q := 21) X 25 dX10_number_18 (by decide) rfl (fun c7 => ?_) (fun c7 => ?_)
    · have h := h.1 c7
      refine vv_iconst (q := 26) X (0 : Int32) dX10_number_25 (by decide) rfl ?_
      refine vv_sub (lv' := []) [] rfl ?_
      exact tJ1 (0 : Int32) h
    · have h := h.2 c7
      refine vv_iconst (q := 22) X (1 : Int32) dX10_number_21 (by decide) rfl ?_
      refine vv_goto X 26 dX10_number_22 (by decide) ?_
      refine vv_sub (lv' := []) [] rfl ?_
      exact tJ1 (1 : Int32) h

/-! X10_readItem: readItem()V -/
def rmX10_readItem : Room := { frames := 4, cells := 0, slots := 0, locals := 90 }
def wX10_readItem (σ : St)  (P : St → Prop) : Prop :=
∀ z1 : Int32, z1 = (σ.1 0 15) →
jn (fun (v3 : Int32) =>
jn (fun (v5 : Int32) =>
wX10_due σ v5 (fun (r6 : Int32) (σ7 : St) =>
((σ7.1 0 17) = (-9 : Int32) →
jn (fun (σ10 : St) =>
jn (fun (v12 : Int32) =>
wX10_due σ10 v12 (fun (r13 : Int32) (σ14 : St) =>
P σ14)) (fun J11 : Int32 → Prop =>
(¬ (σ10.1 0 15) = (6 : Int32) →
J11 (0 : Int32)) ∧
((σ10.1 0 15) = (6 : Int32) →
J11 (1 : Int32)))) (fun J9 : St → Prop =>
(v3 = 0 →
(¬ z1 = (2 : Int32) →
vp_in (1 : Int32) 2 ∧
∀ z19 : Int32, z19 = ((5 : Int32) + (σ7.1 8 (1 : Int32).toNatClampNeg)) →
wX10_number σ7 (1 : Int32) (9 : Int32) (fun (r20 : Int32) (σ21 : St) =>
vp_in z19 10 ∧
∀ σ23 : St, σ23 = sI σ21 9 z19.toNatClampNeg r20 →
wX10_number σ23 (0 : Int32) (20 : Int32) (fun (r24 : Int32) (σ25 : St) =>
vp_in z19 10 ∧
∀ σ27 : St, σ27 = sI σ25 10 z19.toNatClampNeg r24 →
wX10_number σ27 (0 : Int32) (99 : Int32) (fun (r28 : Int32) (σ29 : St) =>
vp_in z19 10 ∧
∀ σ31 : St, σ31 = sI σ29 11 z19.toNatClampNeg r28 →
vp_in (1 : Int32) 2 ∧
vp_in (1 : Int32) 2 ∧
∀ σ34 : St, σ34 = sI σ31 8 (1 : Int32).toNatClampNeg ((σ31.1 8 (1 : Int32).toNatClampNeg) + (1 : Int32)) →
J9 σ34)))) ∧
(z1 = (2 : Int32) →
vp_in (1 : Int32) 2 ∧
wX10_number σ7 (0 : Int32) ((σ7.1 2 (1 : Int32).toNatClampNeg) - (1 : Int32)) (fun (r36 : Int32) (σ37 : St) =>
jn (fun (v39 : Int32) =>
wX10_due σ37 v39 (fun (r40 : Int32) (σ41 : St) =>
(¬ (σ41.1 0 17) = (-9 : Int32) →
J9 σ41) ∧
((σ41.1 0 17) = (-9 : Int32) →
vp_in (((64 : Int32) + ((8 : Int32) * r36)) + r40) 128 ∧
∀ σ44 : St, σ44 = sI σ41 7 (((64 : Int32) + ((8 : Int32) * r36)) + r40).toNatClampNeg (vp_nar .boolean (1 : Int32)) →
vp_in (((64 : Int32) + ((8 : Int32) * r40)) + r36) 128 ∧
∀ σ46 : St, σ46 = sI σ44 7 (((64 : Int32) + ((8 : Int32) * r40)) + r36).toNatClampNeg (vp_nar .boolean (1 : Int32)) →
J9 σ46))) (fun J38 : Int32 → Prop =>
(¬ (σ37.1 0 15) = (5 : Int32) →
J38 (0 : Int32)) ∧
((σ37.1 0 15) = (5 : Int32) →
vp_in (1 : Int32) 2 ∧
wX10_in σ37 (σ37.1 0 16) (0 : Int32) ((σ37.1 2 (1 : Int32).toNatClampNeg) - (1 : Int32)) (fun r49 : Int32 =>
(r49 = 0 →
J38 (0 : Int32)) ∧
(¬ r49 = 0 →
((σ37.1 0 16) = r36 →
J38 (0 : Int32)) ∧
(¬ (σ37.1 0 16) = r36 →
J38 (1 : Int32))))))))) ∧
(¬ v3 = 0 →
vp_in (1 : Int32) 2 ∧
∀ z53 : Int32, z53 = ((8 : Int32) + (σ7.1 2 (1 : Int32).toNatClampNeg)) →
jn (fun (v55 : Int32) =>
vp_in z53 16 ∧
∀ σ57 : St, σ57 = sI σ7 3 z53.toNatClampNeg v55 →
wX10_number σ57 (1 : Int32) (9 : Int32) (fun (r58 : Int32) (σ59 : St) =>
vp_in z53 16 ∧
∀ σ61 : St, σ61 = sI σ59 4 z53.toNatClampNeg r58 →
wX10_number σ61 (1 : Int32) (9 : Int32) (fun (r62 : Int32) (σ63 : St) =>
vp_in z53 16 ∧
∀ σ65 : St, σ65 = sI σ63 5 z53.toNatClampNeg r62 →
wX10_number σ65 (1 : Int32) (9 : Int32) (fun (r66 : Int32) (σ67 : St) =>
vp_in z53 16 ∧
∀ σ69 : St, σ69 = sI σ67 6 z53.toNatClampNeg r66 →
vp_in (1 : Int32) 2 ∧
vp_in (1 : Int32) 2 ∧
∀ σ72 : St, σ72 = sI σ69 2 (1 : Int32).toNatClampNeg ((σ69.1 2 (1 : Int32).toNatClampNeg) + (1 : Int32)) →
J9 σ72)))) (fun J54 : Int32 → Prop =>
(¬ z1 = (1 : Int32) →
J54 (0 : Int32)) ∧
(z1 = (1 : Int32) →
J54 (1 : Int32)))))) ∧
(¬ (σ7.1 0 17) = (-9 : Int32) →
P σ7))) (fun J4 : Int32 → Prop =>
jn ((z1 = (2 : Int32) →
J4 (1 : Int32)) ∧
(¬ z1 = (2 : Int32) →
(¬ z1 = (3 : Int32) →
J4 (0 : Int32)) ∧
(z1 = (3 : Int32) →
vp_in (1 : Int32) 2 ∧
((5 : Int32) ≤ (σ.1 8 (1 : Int32).toNatClampNeg) →
J4 (0 : Int32)) ∧
(¬ (5 : Int32) ≤ (σ.1 8 (1 : Int32).toNatClampNeg) →
J4 (1 : Int32))))) (fun J74 : Prop =>
(v3 = 0 →
J74) ∧
(¬ v3 = 0 →
vp_in (1 : Int32) 2 ∧
((σ.1 2 (1 : Int32).toNatClampNeg) < (8 : Int32) →
J4 (1 : Int32)) ∧
(¬ (σ.1 2 (1 : Int32).toNatClampNeg) < (8 : Int32) →
J74))))) (fun J2 : Int32 → Prop =>
(z1 = 0 →
J2 (1 : Int32)) ∧
(¬ z1 = 0 →
(¬ z1 = (1 : Int32) →
J2 (0 : Int32)) ∧
(z1 = (1 : Int32) →
J2 (1 : Int32))))

set_option maxHeartbeats 8000000 in
set_option maxRecDepth 100000 in
theorem kX10_readItem (l : Launch) (D : va_G) {cy : Nat → ClassId} {ad : Nat → Nat} (hw : xOk (wM ad cy)) {σ : St}  {P : St → Prop} (h : wX10_readItem σ  P) : MV l yX10_readItem wsX10_readItem rmX10_readItem D cy (wM ad cy) [.ref (ad 0)] σ P := by
  unfold MV
  refine vv_met (cc := cX10_readItem) (maxL := 6) (ret := none) hw (by decide +kernel) rfl [.ref (ad 0)] (Nat.le_of_ble_eq_true rfl) ?_
  intro p e s m args below meth c X hr
  have X : XX p s m args meth c cX10_readItem 6 D cy (wM ad cy) wsX10_readItem RX10 := X
  refine vv_sub (lv' := [(0, .ref (ad 0))]) [0] rfl ?_
  rw [wX10_readItem] at h
  refine vv_aload_n (q := 1) X 0 dX10_readItem_0 rfl rfl rfl ?_
  refine vv_getf (q := 4) (ref := "HalfLaddersModel") (C := RX10) (T := TX10) (N := 27) X 0 10 15 (Nat.le_of_ble_eq_true rfl) rfl rfl (Nat.le_of_ble_eq_true rfl) (fun _ h => List.mem_cons_of_mem _ (List.mem_append_right _ h)) (List.mem_of_getElem? (i := 1) rfl) rfl rfl dX10_readItem_1 rfl ?_
  refine vv_topi (fun z1 hz1 => ?_)
  have h := h z1 hz1
  refine vv_istore_n (lv2 := [(1, .int z1), (0, .ref (ad 0))]) (q := 5) X dX10_readItem_4 rfl (Nat.le_of_ble_eq_true rfl) rfl rfl ?_
  refine vv_iload_n (q := 6) X 0 dX10_readItem_5 rfl rfl rfl ?_
  obtain ⟨J2, hJ2, h⟩ := jn_el h
  have tJ2 : ∀ (v3 : Int32), J2 v3 → VV p l e rmX10_readItem s m args below meth c (MQ below (va_Qv P (xPost D (wM ad cy)) (xA (wM ad cy))) args s 0 0 (xA (wM ad cy))) 6 D (wM ad cy) σ 19 [(0, .ref (ad 0)), (1, .int z1)] [.int v3] := by
    intro v3 h
    rw [hJ2] at h
    refine vv_istore_n (lv2 := [(2, .int v3), (0, .ref (ad 0)), (1, .int z1)]) (q := 20) X dX10_readItem_19 rfl (Nat.le_of_ble_eq_true rfl) rfl rfl ?_
    refine vv_aload_n (q := 21) X 1 dX10_readItem_20 rfl rfl rfl ?_
    refine vv_iload_n (q := 22) X 0 dX10_readItem_21 rfl rfl rfl ?_
    obtain ⟨J4, hJ4, h⟩ := jn_el h
    have tJ4 : ∀ (v5 : Int32), J4 v5 → VV p l e rmX10_readItem s m args below meth c (MQ below (va_Qv P (xPost D (wM ad cy)) (xA (wM ad cy))) args s 0 0 (xA (wM ad cy))) 6 D (wM ad cy) σ 61 [(0, .ref (ad 0)), (1, .int z1), (2, .int v3)] [.int v5, .ref (ad 0)] := by
      intro v5 h
      rw [hJ4] at h
      refine vv_cVi (q := 64) (C := RX10) X 0 10 [.int v5] (kX10_due l D X.2.2.1 h) (cwV 1 X.1.2.2.2.2 gX10_readItem_X10_due rfl rfl rfl (by decide +kernel) ⟨Nat.le_of_ble_eq_true rfl, Nat.le_of_ble_eq_true rfl⟩) (Nat.le_of_ble_eq_true rfl) rfl rfl rfl rfl (Nat.le_of_ble_eq_true rfl) dX10_readItem_61 rfl (fun r6 σ7 h => ?_)
      refine vv_pop (q := 65) X dX10_readItem_64 rfl rfl ?_
      refine vv_aload_n (q := 66) X 0 dX10_readItem_65 rfl rfl rfl ?_
      refine vv_getf (q := 69) (ref := "HalfLaddersModel") (C := RX10) (T := TX10) (N := 27) X 0 10 17 (Nat.le_of_ble_eq_true rfl) rfl rfl (Nat.le_of_ble_eq_true rfl) (fun _ h => List.mem_cons_of_mem _ (List.mem_append_right _ h)) (List.mem_of_getElem? (i := 4) rfl) rfl rfl dX10_readItem_66 rfl ?_
      refine vv_bipush (q := 71) X (-9 : Int32) dX10_readItem_69 (by decide) rfl ?_
      refine vv_icmp_eq (q := 74) X 75 dX10_readItem_71 (by decide) rfl (fun c8 => ?_) (fun c8 => ?_)
      · have h := h.1 c8
        refine vv_iload_n (q := 76) X 2 dX10_readItem_75 rfl rfl rfl ?_
        obtain ⟨J9, hJ9, h⟩ := jn_el h
        have tJ9 : ∀ (σ10 : St), J9 σ10 → VV p l e rmX10_readItem s m args below meth c (MQ below (va_Qv P (xPost D (wM ad cy)) (xA (wM ad cy))) args s 0 0 (xA (wM ad cy))) 6 D (wM ad cy) σ10 328 [(0, .ref (ad 0))] [] := by
          intro σ10 h
          rw [hJ9] at h
          refine vv_aload_n (q := 329) X 0 dX10_readItem_328 rfl rfl rfl ?_
          refine vv_aload_n (q := 330) X 0 dX10_readItem_329 rfl rfl rfl ?_
          refine vv_getf (q := 333) (ref := "HalfLaddersModel") (C := RX10) (T := TX10) (N := 27) X 0 10 15 (Nat.le_of_ble_eq_true rfl) rfl rfl (Nat.le_of_ble_eq_true rfl) (fun _ h => List.mem_cons_of_mem _ (List.mem_append_right _ h)) (List.mem_of_getElem? (i := 1) rfl) rfl rfl dX10_readItem_330 rfl ?_
          refine vv_bipush (q := 335) X (6 : Int32) dX10_readItem_333 (by decide) rfl ?_
          obtain ⟨J11, hJ11, h⟩ := jn_el h
          have tJ11 : ∀ (v12 : Int32), J11 v12 → VV p l e rmX10_readItem s m args below meth c (MQ below (va_Qv P (xPost D (wM ad cy)) (xA (wM ad cy))) args s 0 0 (xA (wM ad cy))) 6 D (wM ad cy) σ10 343 [] [.int v12, .ref (ad 0)] := by
            intro v12 h
            rw [hJ11] at h
            refine vv_cVi (q := 346) (C := RX10) X 0 10 [.int v12] (kX10_due l D X.2.2.1 h) (cwV 1 X.1.2.2.2.2 gX10_readItem_X10_due rfl rfl rfl (by decide +kernel) ⟨Nat.le_of_ble_eq_true rfl, Nat.le_of_ble_eq_true rfl⟩) (Nat.le_of_ble_eq_true rfl) rfl rfl rfl rfl (Nat.le_of_ble_eq_true rfl) dX10_readItem_343 rfl (fun r13 σ14 h => ?_)
            refine vv_pop (q := 347) X dX10_readItem_346 rfl rfl ?_
            exact vv_vret X hr dX10_readItem_347 h
          refine vv_icmp_ne (q := 338) X 342 dX10_readItem_335 (by decide) rfl (fun c15 => ?_) (fun c15 => ?_)
          · have h := h.1 c15
            refine vv_iconst (q := 343) X (0 : Int32) dX10_readItem_342 (by decide) rfl ?_
            refine vv_sub (lv' := []) [] rfl ?_
            exact tJ11 (0 : Int32) h
          · have h := h.2 c15
            refine vv_iconst (q := 339) X (1 : Int32) dX10_readItem_338 (by decide) rfl ?_
            refine vv_goto X 343 dX10_readItem_339 (by decide) ?_
            refine vv_sub (lv' := []) [] rfl ?_
            exact tJ11 (1 : Int32) h
        refine vv_if_eq (q := 79) X 157 dX10_readItem_76 (by decide) rfl (fun c16 => ?_) (fun c16 => ?_)
        · have h := h.1 c16
          refine vv_iload_n (q := 158) X 1 dX10_readItem_157 rfl rfl rfl ?_
          refine vv_iconst (q := 159) X (2 : Int32) dX10_readItem_158 (by decide) rfl ?_
          refine vv_icmp_ne (q := 162) X 270 dX10_readItem_159 (by decide) rfl (fun c17 => ?_) (fun c17 => ?_)
          · have h := h.1 c17
            refine vv_iconst (q := 271) X (5 : Int32) dX10_readItem_270 (by decide) rfl ?_
            refine vv_aload_n (q := 272) X 0 dX10_readItem_271 rfl rfl rfl ?_
            refine vv_getf (q := 275) (ref := "HalfLaddersModel") (C := RX10) (T := TX10) (N := 27) X 0 10 9 (Nat.le_of_ble_eq_true rfl) rfl rfl (Nat.le_of_ble_eq_true rfl) (fun _ h => List.mem_cons_of_mem _ (List.mem_append_right _ h)) (List.mem_of_getElem? (i := 3) rfl) rfl rfl dX10_readItem_272 rfl ?_
            refine vv_iconst (q := 276) X (1 : Int32) dX10_readItem_275 (by decide) rfl ?_
            obtain ⟨hin18, h⟩ := h
            refine vv_iald (q := 277) X 8 2 (Nat.le_of_ble_eq_true rfl) (fun _ => rfl) hin18 dX10_readItem_276 rfl ?_
            refine vv_iadd (q := 278) X dX10_readItem_277 rfl ?_
            refine vv_topi (fun z19 hz19 => ?_)
            have h := h z19 hz19
            refine vv_istore_n (lv2 := [(3, .int z19), (0, .ref (ad 0)), (1, .int z1), (2, .int v3)]) (q := 279) X dX10_readItem_278 rfl (Nat.le_of_ble_eq_true rfl) rfl rfl ?_
            refine vv_aload_n (q := 280) X 1 dX10_readItem_279 rfl rfl rfl ?_
            refine vv_getf (q := 283) (ref := "HalfLaddersModel") (C := RX10) (T := TX10) (N := 27) X 0 10 10 (Nat.le_of_ble_eq_true rfl) rfl rfl (Nat.le_of_ble_eq_true rfl) (fun _ h => List.mem_cons_of_mem _ (List.mem_append_right _ h)) (List.mem_of_getElem? (i := 11) rfl) rfl rfl dX10_readItem_280 rfl ?_
            refine vv_iload_n (q := 284) X 0 dX10_readItem_283 rfl rfl rfl ?_
            refine vv_aload_n (q := 285) X 1 dX10_readItem_284 rfl rfl rfl ?_
            refine vv_iconst (q := 286) X (1 : Int32) dX10_readItem_285 (by decide) rfl ?_
            refine vv_bipush (q := 288) X (9 : Int32) dX10_readItem_286 (by decide) rfl ?_
            refine vv_cVi (q := 291) (C := RX10) X 0 10 [.int (1 : Int32), .int (9 : Int32)] (kX10_number l D X.2.2.1 h) (cwV 2 X.1.2.2.2.2 gX10_readItem_X10_number rfl rfl rfl (by decide +kernel) ⟨Nat.le_of_ble_eq_true rfl, Nat.le_of_ble_eq_true rfl⟩) (Nat.le_of_ble_eq_true rfl) rfl rfl rfl rfl (Nat.le_of_ble_eq_true rfl) dX10_readItem_288 rfl (fun r20 σ21 h => ?_)
            obtain ⟨hin22, h⟩ := h
            refine vv_iast (q := 292) X 9 10 (Nat.le_of_ble_eq_true rfl) (fun _ => rfl) hin22 dX10_readItem_291 rfl ?_
            refine vv_nm (fun σ23 hσ23 => ?_)
            have h := h σ23 hσ23
            refine vv_aload_n (q := 293) X 1 dX10_readItem_292 rfl rfl rfl ?_
            refine vv_getf (q := 296) (ref := "HalfLaddersModel") (C := RX10) (T := TX10) (N := 27) X 0 10 11 (Nat.le_of_ble_eq_true rfl) rfl rfl (Nat.le_of_ble_eq_true rfl) (fun _ h => List.mem_cons_of_mem _ (List.mem_append_right _ h)) (List.mem_of_getElem? (i := 12) rfl) rfl rfl dX10_readItem_293 rfl ?_
            refine vv_iload_n (q := 297) X 0 dX10_readItem_296 rfl rfl rfl ?_
            refine vv_aload_n (q := 298) X 1 dX10_readItem_297 rfl rfl rfl ?_
            refine vv_iconst (q := 299) X (0 : Int32) dX10_readItem_298 (by decide) rfl ?_
            refine vv_bipush (q := 301) X (20 : Int32) dX10_readItem_299 (by decide) rfl ?_
            refine vv_cVi (q := 304) (C := RX10) X 0 10 [.int (0 : Int32), .int (20 : Int32)] (kX10_number l D X.2.2.1 h) (cwV 2 X.1.2.2.2.2 gX10_readItem_X10_number rfl rfl rfl (by decide +kernel) ⟨Nat.le_of_ble_eq_true rfl, Nat.le_of_ble_eq_true rfl⟩) (Nat.le_of_ble_eq_true rfl) rfl rfl rfl rfl (Nat.le_of_ble_eq_true rfl) dX10_readItem_301 rfl (fun r24 σ25 h => ?_)
            obtain ⟨hin26, h⟩ := h
            refine vv_iast (q := 305) X 10 10 (Nat.le_of_ble_eq_true rfl) (fun _ => rfl) hin26 dX10_readItem_304 rfl ?_
            refine vv_nm (fun σ27 hσ27 => ?_)
            have h := h σ27 hσ27
            refine vv_aload_n (q := 306) X 1 dX10_readItem_305 rfl rfl rfl ?_
            refine vv_getf (q := 309) (ref := "HalfLaddersModel") (C := RX10) (T := TX10) (N := 27) X 0 10 12 (Nat.le_of_ble_eq_true rfl) rfl rfl (Nat.le_of_ble_eq_true rfl) (fun _ h => List.mem_cons_of_mem _ (List.mem_append_right _ h)) (List.mem_of_getElem? (i := 13) rfl) rfl rfl dX10_readItem_306 rfl ?_
            refine vv_iload_n (q := 310) X 0 dX10_readItem_309 rfl rfl rfl ?_
            refine vv_aload_n (q := 311) X 1 dX10_readItem_310 rfl rfl rfl ?_
            refine vv_iconst (q := 312) X (0 : Int32) dX10_readItem_311 (by decide) rfl ?_
            refine vv_bipush (q := 314) X (99 : Int32) dX10_readItem_312 (by decide) rfl ?_
            refine vv_cVi (q := 317) (C := RX10) X 0 10 [.int (0 : Int32), .int (99 : Int32)] (kX10_number l D X.2.2.1 h) (cwV 2 X.1.2.2.2.2 gX10_readItem_X10_number rfl rfl rfl (by decide +kernel) ⟨Nat.le_of_ble_eq_true rfl, Nat.le_of_ble_eq_true rfl⟩) (Nat.le_of_ble_eq_true rfl) rfl rfl rfl rfl (Nat.le_of_ble_eq_true rfl) dX10_readItem_314 rfl (fun r28 σ29 h => ?_)
            obtain ⟨hin30, h⟩ := h
            refine vv_iast (q := 318) X 11 10 (Nat.le_of_ble_eq_true rfl) (fun _ => rfl) hin30 dX10_readItem_317 rfl ?_
            refine vv_nm (fun σ31 hσ31 => ?_)
            have h := h σ31 hσ31
            refine vv_aload_n (q := 319) X 1 dX10_readItem_318 rfl rfl rfl ?_
            refine vv_getf (q := 322) (ref := "HalfLaddersModel") (C := RX10) (T := TX10) (N := 27) X 0 10 9 (Nat.le_of_ble_eq_true rfl) rfl rfl (Nat.le_of_ble_eq_true rfl) (fun _ h => List.mem_cons_of_mem _ (List.mem_append_right _ h)) (List.mem_of_getElem? (i := 3) rfl) rfl rfl dX10_readItem_319 rfl ?_
            refine vv_iconst (q := 323) X (1 : Int32) dX10_readItem_322 (by decide) rfl ?_
            refine vv_dup2 (q := 324) X dX10_readItem_323 rfl rfl rfl ?_
            obtain ⟨hin32, h⟩ := h
            refine vv_iald (q := 325) X 8 2 (Nat.le_of_ble_eq_true rfl) (fun _ => rfl) hin32 dX10_readItem_324 rfl ?_
            refine vv_iconst (q := 326) X (1 : Int32) dX10_readItem_325 (by decide) rfl ?_
            refine vv_iadd (q := 327) X dX10_readItem_326 rfl ?_
            obtain ⟨hin33, h⟩ := h
            refine vv_iast (q := 328) X 8 2 (Nat.le_of_ble_eq_true rfl) (fun _ => rfl) hin33 dX10_readItem_327 rfl ?_
            refine vv_nm (fun σ34 hσ34 => ?_)
            have h := h σ34 hσ34
            refine vv_sub (lv' := [(0, .ref (ad 0))]) [1] rfl ?_
            exact tJ9 σ34 h
          · have h := h.2 c17
            refine vv_aload_n (q := 163) X 0 dX10_readItem_162 rfl rfl rfl ?_
            refine vv_iconst (q := 164) X (0 : Int32) dX10_readItem_163 (by decide) rfl ?_
            refine vv_aload_n (q := 165) X 0 dX10_readItem_164 rfl rfl rfl ?_
            refine vv_getf (q := 168) (ref := "HalfLaddersModel") (C := RX10) (T := TX10) (N := 27) X 0 10 3 (Nat.le_of_ble_eq_true rfl) rfl rfl (Nat.le_of_ble_eq_true rfl) (fun _ h => List.mem_cons_of_mem _ (List.mem_append_right _ h)) (List.mem_of_getElem? (i := 2) rfl) rfl rfl dX10_readItem_165 rfl ?_
            refine vv_iconst (q := 169) X (1 : Int32) dX10_readItem_168 (by decide) rfl ?_
            obtain ⟨hin35, h⟩ := h
            refine vv_iald (q := 170) X 2 2 (Nat.le_of_ble_eq_true rfl) (fun _ => rfl) hin35 dX10_readItem_169 rfl ?_
            refine vv_iconst (q := 171) X (1 : Int32) dX10_readItem_170 (by decide) rfl ?_
            refine vv_isub (q := 172) X dX10_readItem_171 rfl ?_
            refine vv_cVi (q := 175) (C := RX10) X 0 10 [.int (0 : Int32), .int ((σ7.1 2 (1 : Int32).toNatClampNeg) - (1 : Int32))] (kX10_number l D X.2.2.1 h) (cwV 2 X.1.2.2.2.2 gX10_readItem_X10_number rfl rfl rfl (by decide +kernel) ⟨Nat.le_of_ble_eq_true rfl, Nat.le_of_ble_eq_true rfl⟩) (Nat.le_of_ble_eq_true rfl) rfl rfl rfl rfl (Nat.le_of_ble_eq_true rfl) dX10_readItem_172 rfl (fun r36 σ37 h => ?_)
            refine vv_istore_n (lv2 := [(3, .int r36), (0, .ref (ad 0)), (1, .int z1), (2, .int v3)]) (q := 176) X dX10_readItem_175 rfl (Nat.le_of_ble_eq_true rfl) rfl rfl ?_
            refine vv_aload_n (q := 177) X 1 dX10_readItem_176 rfl rfl rfl ?_
            refine vv_getf (q := 180) (ref := "HalfLaddersModel") (C := RX10) (T := TX10) (N := 27) X 0 10 15 (Nat.le_of_ble_eq_true rfl) rfl rfl (Nat.le_of_ble_eq_true rfl) (fun _ h => List.mem_cons_of_mem _ (List.mem_append_right _ h)) (List.mem_of_getElem? (i := 1) rfl) rfl rfl dX10_readItem_177 rfl ?_
            refine vv_iconst (q := 181) X (5 : Int32) dX10_readItem_180 (by decide) rfl ?_
            obtain ⟨J38, hJ38, h⟩ := jn_el h
            have tJ38 : ∀ (v39 : Int32), J38 v39 → VV p l e rmX10_readItem s m args below meth c (MQ below (va_Qv P (xPost D (wM ad cy)) (xA (wM ad cy))) args s 0 0 (xA (wM ad cy))) 6 D (wM ad cy) σ37 216 [(0, .ref (ad 0)), (3, .int r36)] [.int v39] := by
              intro v39 h
              rw [hJ38] at h
              refine vv_istore (lv2 := [(4, .int v39), (0, .ref (ad 0)), (3, .int r36)]) (q := 218) X dX10_readItem_216 (Nat.le_of_ble_eq_true rfl) rfl rfl ?_
              refine vv_aload_n (q := 219) X 1 dX10_readItem_218 rfl rfl rfl ?_
              refine vv_iload (q := 221) X 0 dX10_readItem_219 rfl rfl ?_
              refine vv_cVi (q := 224) (C := RX10) X 0 10 [.int v39] (kX10_due l D X.2.2.1 h) (cwV 1 X.1.2.2.2.2 gX10_readItem_X10_due rfl rfl rfl (by decide +kernel) ⟨Nat.le_of_ble_eq_true rfl, Nat.le_of_ble_eq_true rfl⟩) (Nat.le_of_ble_eq_true rfl) rfl rfl rfl rfl (Nat.le_of_ble_eq_true rfl) dX10_readItem_221 rfl (fun r40 σ41 h => ?_)
              refine vv_istore (lv2 := [(5, .int r40), (4, .int v39), (0, .ref (ad 0)), (3, .int r36)]) (q := 226) X dX10_readItem_224 (Nat.le_of_ble_eq_true rfl) rfl rfl ?_
              refine vv_aload_n (q := 227) X 2 dX10_readItem_226 rfl rfl rfl ?_
              refine vv_getf (q := 230) (ref := "HalfLaddersModel") (C := RX10) (T := TX10) (N := 27) X 0 10 17 (Nat.le_of_ble_eq_true rfl) rfl rfl (Nat.le_of_ble_eq_true rfl) (fun _ h => List.mem_cons_of_mem _ (List.mem_append_right _ h)) (List.mem_of_getElem? (i := 4) rfl) rfl rfl dX10_readItem_227 rfl ?_
              refine vv_bipush (q := 232) X (-9 : Int32) dX10_readItem_230 (by decide) rfl ?_
              refine vv_icmp_ne (q := 235) X 267 dX10_readItem_232 (by decide) rfl (fun c42 => ?_) (fun c42 => ?_)
              · have h := h.1 c42
                refine vv_goto X 328 dX10_readItem_267 (by decide) ?_
                refine vv_sub (lv' := [(0, .ref (ad 0))]) [2] rfl ?_
                exact tJ9 σ41 h
              · have h := h.2 c42
                refine vv_aload_n (q := 236) X 2 dX10_readItem_235 rfl rfl rfl ?_
                refine vv_getf (q := 239) (ref := "HalfLaddersModel") (C := RX10) (T := TX10) (N := 27) X 0 10 8 (Nat.le_of_ble_eq_true rfl) rfl rfl (Nat.le_of_ble_eq_true rfl) (fun _ h => List.mem_cons_of_mem _ (List.mem_append_right _ h)) (List.mem_of_getElem? (i := 10) rfl) rfl rfl dX10_readItem_236 rfl ?_
                refine vv_bipush (q := 241) X (64 : Int32) dX10_readItem_239 (by decide) rfl ?_
                refine vv_bipush (q := 243) X (8 : Int32) dX10_readItem_241 (by decide) rfl ?_
                refine vv_iload_n (q := 244) X 3 dX10_readItem_243 rfl rfl rfl ?_
                refine vv_imul (q := 245) X dX10_readItem_244 rfl ?_
                refine vv_iadd (q := 246) X dX10_readItem_245 rfl ?_
                refine vv_iload (q := 248) X 0 dX10_readItem_246 rfl rfl ?_
                refine vv_iadd (q := 249) X dX10_readItem_248 rfl ?_
                refine vv_iconst (q := 250) X (1 : Int32) dX10_readItem_249 (by decide) rfl ?_
                obtain ⟨hin43, h⟩ := h
                refine vv_zast (q := 251) X 7 128 (Nat.le_of_ble_eq_true rfl) (fun _ => rfl) hin43 dX10_readItem_250 rfl ?_
                refine vv_nm (fun σ44 hσ44 => ?_)
                have h := h σ44 hσ44
                refine vv_aload_n (q := 252) X 2 dX10_readItem_251 rfl rfl rfl ?_
                refine vv_getf (q := 255) (ref := "HalfLaddersModel") (C := RX10) (T := TX10) (N := 27) X 0 10 8 (Nat.le_of_ble_eq_true rfl) rfl rfl (Nat.le_of_ble_eq_true rfl) (fun _ h => List.mem_cons_of_mem _ (List.mem_append_right _ h)) (List.mem_of_getElem? (i := 10) rfl) rfl rfl dX10_readItem_252 rfl ?_
                refine vv_bipush (q := 257) X (64 : Int32) dX10_readItem_255 (by decide) rfl ?_
                refine vv_bipush (q := 259) X (8 : Int32) dX10_readItem_257 (by decide) rfl ?_
                refine vv_iload (q := 261) X 0 dX10_readItem_259 rfl rfl ?_
                refine vv_imul (q := 262) X dX10_readItem_261 rfl ?_
                refine vv_iadd (q := 263) X dX10_readItem_262 rfl ?_
                refine vv_iload_n (q := 264) X 3 dX10_readItem_263 rfl rfl rfl ?_
                refine vv_iadd (q := 265) X dX10_readItem_264 rfl ?_
                refine vv_iconst (q := 266) X (1 : Int32) dX10_readItem_265 (by decide) rfl ?_
                obtain ⟨hin45, h⟩ := h
                refine vv_zast (q := 267) X 7 128 (Nat.le_of_ble_eq_true rfl) (fun _ => rfl) hin45 dX10_readItem_266 rfl ?_
                refine vv_nm (fun σ46 hσ46 => ?_)
                have h := h σ46 hσ46
                refine vv_goto X 328 dX10_readItem_267 (by decide) ?_
                refine vv_sub (lv' := [(0, .ref (ad 0))]) [2] rfl ?_
                exact tJ9 σ46 h
            refine vv_icmp_ne (q := 184) X 215 dX10_readItem_181 (by decide) rfl (fun c47 => ?_) (fun c47 => ?_)
            · have h := h.1 c47
              refine vv_iconst (q := 216) X (0 : Int32) dX10_readItem_215 (by decide) rfl ?_
              refine vv_sub (lv' := [(0, .ref (ad 0)), (3, .int r36)]) [1, 0] rfl ?_
              exact tJ38 (0 : Int32) h
            · have h := h.2 c47
              refine vv_aload_n (q := 185) X 1 dX10_readItem_184 rfl rfl rfl ?_
              refine vv_getf (q := 188) (ref := "HalfLaddersModel") (C := RX10) (T := TX10) (N := 27) X 0 10 16 (Nat.le_of_ble_eq_true rfl) rfl rfl (Nat.le_of_ble_eq_true rfl) (fun _ h => List.mem_cons_of_mem _ (List.mem_append_right _ h)) (List.mem_of_getElem? (i := 9) rfl) rfl rfl dX10_readItem_185 rfl ?_
              refine vv_iconst (q := 189) X (0 : Int32) dX10_readItem_188 (by decide) rfl ?_
              refine vv_aload_n (q := 190) X 1 dX10_readItem_189 rfl rfl rfl ?_
              refine vv_getf (q := 193) (ref := "HalfLaddersModel") (C := RX10) (T := TX10) (N := 27) X 0 10 3 (Nat.le_of_ble_eq_true rfl) rfl rfl (Nat.le_of_ble_eq_true rfl) (fun _ h => List.mem_cons_of_mem _ (List.mem_append_right _ h)) (List.mem_of_getElem? (i := 2) rfl) rfl rfl dX10_readItem_190 rfl ?_
              refine vv_iconst (q := 194) X (1 : Int32) dX10_readItem_193 (by decide) rfl ?_
              obtain ⟨hin48, h⟩ := h
              refine vv_iald (q := 195) X 2 2 (Nat.le_of_ble_eq_true rfl) (fun _ => rfl) hin48 dX10_readItem_194 rfl ?_
              refine vv_iconst (q := 196) X (1 : Int32) dX10_readItem_195 (by decide) rfl ?_
              refine vv_isub (q := 197) X dX10_readItem_196 rfl ?_
              refine vv_cSi (q := 200) X [.int (σ37.1 0 16), .int (0 : Int32), .int ((σ37.1 2 (1 : Int32).toNatClampNeg) - (1 : Int32))] (kX10_in l D X.2.2.1 h) (va_cwS 3 X.1.2.2.2.2 gX10_readItem_X10_in rfl rfl rfl (by decide +kernel) ⟨Nat.le_of_ble_eq_true rfl, Nat.le_of_ble_eq_true rfl⟩) rfl rfl (Nat.le_of_ble_eq_true rfl) dX10_readItem_197 rfl (fun r49 u9 h9 => ?_)
              obtain ⟨h9, hu9⟩ := h9
              subst u9
              have h := h9
              refine vv_if_eq (q := 203) X 215 dX10_readItem_200 (by decide) rfl (fun c50 => ?_) (fun c50 => ?_)
              · have h := h.1 c50
                refine vv_iconst (q := 216) X (0 : Int32) dX10_readItem_215 (by decide) rfl ?_
                refine vv_sub (lv' := [(0, .ref (ad 0)), (3, .int r36)]) [1, 0] rfl ?_
                exact tJ38 (0 : Int32) h
              · have h := h.2 c50
                refine vv_aload_n (q := 204) X 1 dX10_readItem_203 rfl rfl rfl ?_
                refine vv_getf (q := 207) (ref := "HalfLaddersModel") (C := RX10) (T := TX10) (N := 27) X 0 10 16 (Nat.le_of_ble_eq_true rfl) rfl rfl (Nat.le_of_ble_eq_true rfl) (fun _ h => List.mem_cons_of_mem _ (List.mem_append_right _ h)) (List.mem_of_getElem? (i := 9) rfl) rfl rfl dX10_readItem_204 rfl ?_
                refine vv_iload_n (q := 208) X 0 dX10_readItem_207 rfl rfl rfl ?_
                refine vv_icmp_eq (q := 211) X 215 dX10_readItem_208 (by decide) rfl (fun c51 => ?_) (fun c51 => ?_)
                · have h := h.1 c51
                  refine vv_iconst (q := 216) X (0 : Int32) dX10_readItem_215 (by decide) rfl ?_
                  refine vv_sub (lv' := [(0, .ref (ad 0)), (3, .int r36)]) [1, 0] rfl ?_
                  exact tJ38 (0 : Int32) h
                · have h := h.2 c51
                  refine vv_iconst (q := 212) X (1 : Int32) dX10_readItem_211 (by decide) rfl ?_
                  refine vv_goto X 216 dX10_readItem_212 (by decide) ?_
                  refine vv_sub (lv' := [(0, .ref (ad 0)), (3, .int r36)]) [1, 0] rfl ?_
                  exact tJ38 (1 : Int32) h
        · have h := h.2 c16
          refine vv_bipush (q := 81) X (8 : Int32) dX10_readItem_79 (by decide) rfl ?_
          refine vv_aload_n (q := 82) X 0 dX10_readItem_81 rfl rfl rfl ?_
          refine vv_getf (q := 85) (ref := "HalfLaddersModel") (C := RX10) (T := TX10) (N := 27) X 0 10 3 (Nat.le_of_ble_eq_true rfl) rfl rfl (Nat.le_of_ble_eq_true rfl) (fun _ h => List.mem_cons_of_mem _ (List.mem_append_right _ h)) (List.mem_of_getElem? (i := 2) rfl) rfl rfl dX10_readItem_82 rfl ?_
          refine vv_iconst (q := 86) X (1 : Int32) dX10_readItem_85 (by decide) rfl ?_
          obtain ⟨hin52, h⟩ := h
          refine vv_iald (q := 87) X 2 2 (Nat.le_of_ble_eq_true rfl) (fun _ => rfl) hin52 dX10_readItem_86 rfl ?_
          refine vv_iadd (q := 88) X dX10_readItem_87 rfl ?_
          refine vv_topi (fun z53 hz53 => ?_)
          have h := h z53 hz53
          refine vv_istore_n (lv2 := [(3, .int z53), (0, .ref (ad 0)), (1, .int z1), (2, .int v3)]) (q := 89) X dX10_readItem_88 rfl (Nat.le_of_ble_eq_true rfl) rfl rfl ?_
          refine vv_aload_n (q := 90) X 1 dX10_readItem_89 rfl rfl rfl ?_
          refine vv_getf (q := 93) (ref := "HalfLaddersModel") (C := RX10) (T := TX10) (N := 27) X 0 10 4 (Nat.le_of_ble_eq_true rfl) rfl rfl (Nat.le_of_ble_eq_true rfl) (fun _ h => List.mem_cons_of_mem _ (List.mem_append_right _ h)) (List.mem_of_getElem? (i := 5) rfl) rfl rfl dX10_readItem_90 rfl ?_
          refine vv_iload_n (q := 94) X 0 dX10_readItem_93 rfl rfl rfl ?_
          refine vv_iload_n (q := 95) X 2 dX10_readItem_94 rfl rfl rfl ?_
          refine vv_iconst (q := 96) X (1 : Int32) dX10_readItem_95 (by decide) rfl ?_
          obtain ⟨J54, hJ54, h⟩ := jn_el h
          have tJ54 : ∀ (v55 : Int32), J54 v55 → VV p l e rmX10_readItem s m args below meth c (MQ below (va_Qv P (xPost D (wM ad cy)) (xA (wM ad cy))) args s 0 0 (xA (wM ad cy))) 6 D (wM ad cy) σ7 104 [(0, .ref (ad 0)), (3, .int z53)] [.int v55, .int z53, .ref (ad 3)] := by
            intro v55 h
            rw [hJ54] at h
            obtain ⟨hin56, h⟩ := h
            refine vv_iast (q := 105) X 3 16 (Nat.le_of_ble_eq_true rfl) (fun _ => rfl) hin56 dX10_readItem_104 rfl ?_
            refine vv_nm (fun σ57 hσ57 => ?_)
            have h := h σ57 hσ57
            refine vv_aload_n (q := 106) X 0 dX10_readItem_105 rfl rfl rfl ?_
            refine vv_getf (q := 109) (ref := "HalfLaddersModel") (C := RX10) (T := TX10) (N := 27) X 0 10 5 (Nat.le_of_ble_eq_true rfl) rfl rfl (Nat.le_of_ble_eq_true rfl) (fun _ h => List.mem_cons_of_mem _ (List.mem_append_right _ h)) (List.mem_of_getElem? (i := 6) rfl) rfl rfl dX10_readItem_106 rfl ?_
            refine vv_iload_n (q := 110) X 1 dX10_readItem_109 rfl rfl rfl ?_
            refine vv_aload_n (q := 111) X 0 dX10_readItem_110 rfl rfl rfl ?_
            refine vv_iconst (q := 112) X (1 : Int32) dX10_readItem_111 (by decide) rfl ?_
            refine vv_bipush (q := 114) X (9 : Int32) dX10_readItem_112 (by decide) rfl ?_
            refine vv_cVi (q := 117) (C := RX10) X 0 10 [.int (1 : Int32), .int (9 : Int32)] (kX10_number l D X.2.2.1 h) (cwV 2 X.1.2.2.2.2 gX10_readItem_X10_number rfl rfl rfl (by decide +kernel) ⟨Nat.le_of_ble_eq_true rfl, Nat.le_of_ble_eq_true rfl⟩) (Nat.le_of_ble_eq_true rfl) rfl rfl rfl rfl (Nat.le_of_ble_eq_true rfl) dX10_readItem_114 rfl (fun r58 σ59 h => ?_)
            obtain ⟨hin60, h⟩ := h
            refine vv_iast (q := 118) X 4 16 (Nat.le_of_ble_eq_true rfl) (fun _ => rfl) hin60 dX10_readItem_117 rfl ?_
            refine vv_nm (fun σ61 hσ61 => ?_)
            have h := h σ61 hσ61
            refine vv_aload_n (q := 119) X 0 dX10_readItem_118 rfl rfl rfl ?_
            refine vv_getf (q := 122) (ref := "HalfLaddersModel") (C := RX10) (T := TX10) (N := 27) X 0 10 6 (Nat.le_of_ble_eq_true rfl) rfl rfl (Nat.le_of_ble_eq_true rfl) (fun _ h => List.mem_cons_of_mem _ (List.mem_append_right _ h)) (List.mem_of_getElem? (i := 7) rfl) rfl rfl dX10_readItem_119 rfl ?_
            refine vv_iload_n (q := 123) X 1 dX10_readItem_122 rfl rfl rfl ?_
            refine vv_aload_n (q := 124) X 0 dX10_readItem_123 rfl rfl rfl ?_
            refine vv_iconst (q := 125) X (1 : Int32) dX10_readItem_124 (by decide) rfl ?_
            refine vv_bipush (q := 127) X (9 : Int32) dX10_readItem_125 (by decide) rfl ?_
            refine vv_cVi (q := 130) (C := RX10) X 0 10 [.int (1 : Int32), .int (9 : Int32)] (kX10_number l D X.2.2.1 h) (cwV 2 X.1.2.2.2.2 gX10_readItem_X10_number rfl rfl rfl (by decide +kernel) ⟨Nat.le_of_ble_eq_true rfl, Nat.le_of_ble_eq_true rfl⟩) (Nat.le_of_ble_eq_true rfl) rfl rfl rfl rfl (Nat.le_of_ble_eq_true rfl) dX10_readItem_127 rfl (fun r62 σ63 h => ?_)
            obtain ⟨hin64, h⟩ := h
            refine vv_iast (q := 131) X 5 16 (Nat.le_of_ble_eq_true rfl) (fun _ => rfl) hin64 dX10_readItem_130 rfl ?_
            refine vv_nm (fun σ65 hσ65 => ?_)
            have h := h σ65 hσ65
            refine vv_aload_n (q := 132) X 0 dX10_readItem_131 rfl rfl rfl ?_
            refine vv_getf (q := 135) (ref := "HalfLaddersModel") (C := RX10) (T := TX10) (N := 27) X 0 10 7 (Nat.le_of_ble_eq_true rfl) rfl rfl (Nat.le_of_ble_eq_true rfl) (fun _ h => List.mem_cons_of_mem _ (List.mem_append_right _ h)) (List.mem_of_getElem? (i := 8) rfl) rfl rfl dX10_readItem_132 rfl ?_
            refine vv_iload_n (q := 136) X 1 dX10_readItem_135 rfl rfl rfl ?_
            refine vv_aload_n (q := 137) X 0 dX10_readItem_136 rfl rfl rfl ?_
            refine vv_iconst (q := 138) X (1 : Int32) dX10_readItem_137 (by decide) rfl ?_
            refine vv_bipush (q := 140) X (9 : Int32) dX10_readItem_138 (by decide) rfl ?_
            refine vv_cVi (q := 143) (C := RX10) X 0 10 [.int (1 : Int32), .int (9 : Int32)] (kX10_number l D X.2.2.1 h) (cwV 2 X.1.2.2.2.2 gX10_readItem_X10_number rfl rfl rfl (by decide +kernel) ⟨Nat.le_of_ble_eq_true rfl, Nat.le_of_ble_eq_true rfl⟩) (Nat.le_of_ble_eq_true rfl) rfl rfl rfl rfl (Nat.le_of_ble_eq_true rfl) dX10_readItem_140 rfl (fun r66 σ67 h => ?_)
            obtain ⟨hin68, h⟩ := h
            refine vv_iast (q := 144) X 6 16 (Nat.le_of_ble_eq_true rfl) (fun _ => rfl) hin68 dX10_readItem_143 rfl ?_
            refine vv_nm (fun σ69 hσ69 => ?_)
            have h := h σ69 hσ69
            refine vv_aload_n (q := 145) X 0 dX10_readItem_144 rfl rfl rfl ?_
            refine vv_getf (q := 148) (ref := "HalfLaddersModel") (C := RX10) (T := TX10) (N := 27) X 0 10 3 (Nat.le_of_ble_eq_true rfl) rfl rfl (Nat.le_of_ble_eq_true rfl) (fun _ h => List.mem_cons_of_mem _ (List.mem_append_right _ h)) (List.mem_of_getElem? (i := 2) rfl) rfl rfl dX10_readItem_145 rfl ?_
            refine vv_iconst (q := 149) X (1 : Int32) dX10_readItem_148 (by decide) rfl ?_
            refine vv_dup2 (q := 150) X dX10_readItem_149 rfl rfl rfl ?_
            obtain ⟨hin70, h⟩ := h
            refine vv_iald (q := 151) X 2 2 (Nat.le_of_ble_eq_true rfl) (fun _ => rfl) hin70 dX10_readItem_150 rfl ?_
            refine vv_iconst (q := 152) X (1 : Int32) dX10_readItem_151 (by decide) rfl ?_
            refine vv_iadd (q := 153) X dX10_readItem_152 rfl ?_
            obtain ⟨hin71, h⟩ := h
            refine vv_iast (q := 154) X 2 2 (Nat.le_of_ble_eq_true rfl) (fun _ => rfl) hin71 dX10_readItem_153 rfl ?_
            refine vv_nm (fun σ72 hσ72 => ?_)
            have h := h σ72 hσ72
            refine vv_goto X 328 dX10_readItem_154 (by decide) ?_
            refine vv_sub (lv' := [(0, .ref (ad 0))]) [0] rfl ?_
            exact tJ9 σ72 h
          refine vv_icmp_ne (q := 99) X 103 dX10_readItem_96 (by decide) rfl (fun c73 => ?_) (fun c73 => ?_)
          · have h := h.1 c73
            refine vv_iconst (q := 104) X (0 : Int32) dX10_readItem_103 (by decide) rfl ?_
            refine vv_sub (lv' := [(0, .ref (ad 0)), (3, .int z53)]) [1, 0] rfl ?_
            exact tJ54 (0 : Int32) h
          · have h := h.2 c73
            refine vv_iconst (q := 100) X (1 : Int32) dX10_readItem_99 (by decide) rfl ?_
            refine vv_goto X 104 dX10_readItem_100 (by decide) ?_
            refine vv_sub (lv' := [(0, .ref (ad 0)), (3, .int z53)]) [1, 0] rfl ?_
            exact tJ54 (1 : Int32) h
      · have h := h.2 c8
        exact vv_vret X hr dX10_readItem_74 h
    obtain ⟨J74, hJ74, h⟩ := jn_el h
    have tJ74 : J74 → VV p l e rmX10_readItem s m args below meth c (MQ below (va_Qv P (xPost D (wM ad cy)) (xA (wM ad cy))) args s 0 0 (xA (wM ad cy))) 6 D (wM ad cy) σ 36 [(0, .ref (ad 0)), (1, .int z1), (2, .int v3)] [.ref (ad 0)] := by
      intro h
      rw [hJ74] at h
      refine vv_iload_n (q := 37) X 1 dX10_readItem_36 rfl rfl rfl ?_
      refine vv_iconst (q := 38) X (2 : Int32) dX10_readItem_37 (by decide) rfl ?_
      refine vv_icmp_eq (q := 41) X 56 dX10_readItem_38 (by decide) rfl (fun c75 => ?_) (fun c75 => ?_)
      · have h := h.1 c75
        refine vv_iconst (q := 57) X (1 : Int32) dX10_readItem_56 (by decide) rfl ?_
        refine vv_goto X 61 dX10_readItem_57 (by decide) ?_
        exact tJ4 (1 : Int32) h
      · have h := h.2 c75
        refine vv_iload_n (q := 42) X 1 dX10_readItem_41 rfl rfl rfl ?_
        refine vv_iconst (q := 43) X (3 : Int32) dX10_readItem_42 (by decide) rfl ?_
        refine vv_icmp_ne (q := 46) X 60 dX10_readItem_43 (by decide) rfl (fun c76 => ?_) (fun c76 => ?_)
        · have h := h.1 c76
          refine vv_iconst (q := 61) X (0 : Int32) dX10_readItem_60 (by decide) rfl ?_
          exact tJ4 (0 : Int32) h
        · have h := h.2 c76
          refine vv_aload_n (q := 47) X 0 dX10_readItem_46 rfl rfl rfl ?_
          refine vv_getf (q := 50) (ref := "HalfLaddersModel") (C := RX10) (T := TX10) (N := 27) X 0 10 9 (Nat.le_of_ble_eq_true rfl) rfl rfl (Nat.le_of_ble_eq_true rfl) (fun _ h => List.mem_cons_of_mem _ (List.mem_append_right _ h)) (List.mem_of_getElem? (i := 3) rfl) rfl rfl dX10_readItem_47 rfl ?_
          refine vv_iconst (q := 51) X (1 : Int32) dX10_readItem_50 (by decide) rfl ?_
          obtain ⟨hin77, h⟩ := h
          refine vv_iald (q := 52) X 8 2 (Nat.le_of_ble_eq_true rfl) (fun _ => rfl) hin77 dX10_readItem_51 rfl ?_
          refine vv_iconst (q := 53) X (5 : Int32) dX10_readItem_52 (by decide) rfl ?_
          refine vv_icmp_ge (q := 56) X 60 dX10_readItem_53 (by decide) rfl (fun c78 => ?_) (fun c78 => ?_)
          · have h := h.1 c78
            refine vv_iconst (q := 61) X (0 : Int32) dX10_readItem_60 (by decide) rfl ?_
            exact tJ4 (0 : Int32) h
          · have h := h.2 c78
            refine vv_iconst (q := 57) X (1 : Int32) dX10_readItem_56 (by decide) rfl ?_
            refine vv_goto X 61 dX10_readItem_57 (by decide) ?_
            exact tJ4 (1 : Int32) h
    refine vv_if_eq (q := 25) X 36 dX10_readItem_22 (by decide) rfl (fun c79 => ?_) (fun c79 => ?_)
    · have h := h.1 c79
      refine vv_sub (lv' := [(0, .ref (ad 0)), (1, .int z1), (2, .int v3)]) [1, 2, 0] rfl ?_
      exact tJ74  h
    · have h := h.2 c79
      refine vv_aload_n (q := 26) X 1 dX10_readItem_25 rfl rfl rfl ?_
      refine vv_getf (q := 29) (ref := "HalfLaddersModel") (C := RX10) (T := TX10) (N := 27) X 0 10 3 (Nat.le_of_ble_eq_true rfl) rfl rfl (Nat.le_of_ble_eq_true rfl) (fun _ h => List.mem_cons_of_mem _ (List.mem_append_right _ h)) (List.mem_of_getElem? (i := 2) rfl) rfl rfl dX10_readItem_26 rfl ?_
      refine vv_iconst (q := 30) X (1 : Int32) dX10_readItem_29 (by decide) rfl ?_
      obtain ⟨hin80, h⟩ := h
      refine vv_iald (q := 31) X 2 2 (Nat.le_of_ble_eq_true rfl) (fun _ => rfl) hin80 dX10_readItem_30 rfl ?_
      refine vv_bipush (q := 33) X (8 : Int32) dX10_readItem_31 (by decide) rfl ?_
      refine vv_icmp_lt (q := 36) X 56 dX10_readItem_33 (by decide) rfl (fun c81 => ?_) (fun c81 => ?_)
      · have h := h.1 c81
        refine vv_iconst (q := 57) X (1 : Int32) dX10_readItem_56 (by decide) rfl ?_
        refine vv_goto X 61 dX10_readItem_57 (by decide) ?_
        refine vv_sub (lv' := [(0, .ref (ad 0)), (1, .int z1), (2, .int v3)]) [1, 2, 0] rfl ?_
        exact tJ4 (1 : Int32) h
      · have h := h.2 c81
        refine vv_sub (lv' := [(0, .ref (ad 0)), (1, .int z1), (2, .int v3)]) [1, 2, 0] rfl ?_
        exact tJ74  h
  refine vv_if_eq (q := 9) X 14 dX10_readItem_6 (by decide) rfl (fun c82 => ?_) (fun c82 => ?_)
  · have h := h.1 c82
    refine vv_iconst (q := 15) X (1 : Int32) dX10_readItem_14 (by decide) rfl ?_
    refine vv_goto X 19 dX10_readItem_15 (by decide) ?_
    refine vv_sub (lv' := [(0, .ref (ad 0)), (1, .int z1)]) [1, 0] rfl ?_
    exact tJ2 (1 : Int32) h
  · have h := h.2 c82
    refine vv_iload_n (q := 10) X 0 dX10_readItem_9 rfl rfl rfl ?_
    refine vv_iconst (q := 11) X (1 : Int32) dX10_readItem_10 (by decide) rfl ?_
    refine vv_icmp_ne (q := 14) X 18 dX10_readItem_11 (by decide) rfl (fun c83 => ?_) (fun c83 => ?_)
    · have h := h.1 c83
      refine vv_iconst (q := 19) X (0 : Int32) dX10_readItem_18 (by decide) rfl ?_
      refine vv_sub (lv' := [(0, .ref (ad 0)), (1, .int z1)]) [1, 0] rfl ?_
      exact tJ2 (0 : Int32) h
    · have h := h.2 c83
      refine vv_iconst (q := 15) X (1 : Int32) dX10_readItem_14 (by decide) rfl ?_
      refine vv_goto X 19 dX10_readItem_15 (by decide) ?_
      refine vv_sub (lv' := [(0, .ref (ad 0)), (1, .int z1)]) [1, 0] rfl ?_
      exact tJ2 (1 : Int32) h

/-! X10_begin: begin()V -/
def rmX10_begin : Room := { frames := 0, cells := 0, slots := 0, locals := 0 }
def wX10_begin (σ : St)  (P : St → Prop) : Prop :=
vp_in (0 : Int32) 48 ∧
∀ σ2 : St, σ2 = sI σ 12 (0 : Int32).toNatClampNeg (0 : Int32) →
vp_in (1 : Int32) 48 ∧
∀ σ4 : St, σ4 = sI σ2 12 (1 : Int32).toNatClampNeg (0 : Int32) →
vp_in (2 : Int32) 48 ∧
∀ σ6 : St, σ6 = sI σ4 12 (2 : Int32).toNatClampNeg (0 : Int32) →
vp_in (3 : Int32) 48 ∧
∀ σ8 : St, σ8 = sI σ6 12 (3 : Int32).toNatClampNeg (0 : Int32) →
vp_in (4 : Int32) 48 ∧
∀ σ10 : St, σ10 = sI σ8 12 (4 : Int32).toNatClampNeg (0 : Int32) →
P σ10

set_option maxHeartbeats 8000000 in
set_option maxRecDepth 100000 in
theorem kX10_begin (l : Launch) (D : va_G) {cy : Nat → ClassId} {ad : Nat → Nat} (hw : xOk (wM ad cy)) {σ : St}  {P : St → Prop} (h : wX10_begin σ  P) : MV l yX10_begin wsX10_begin rmX10_begin D cy (wM ad cy) [.ref (ad 0)] σ P := by
  unfold MV
  refine vv_met (cc := cX10_begin) (maxL := 1) (ret := none) hw (by decide +kernel) rfl [.ref (ad 0)] (Nat.le_of_ble_eq_true rfl) ?_
  intro p e s m args below meth c X hr
  have X : XX p s m args meth c cX10_begin 1 D cy (wM ad cy) wsX10_begin RX10 := X
  refine vv_sub (lv' := [(0, .ref (ad 0))]) [0] rfl ?_
  rw [wX10_begin] at h
  refine vv_aload_n (q := 1) X 0 dX10_begin_0 rfl rfl rfl ?_
  refine vv_getf (q := 4) (ref := "HalfLaddersModel") (C := RX10) (T := TX10) (N := 27) X 0 10 18 (Nat.le_of_ble_eq_true rfl) rfl rfl (Nat.le_of_ble_eq_true rfl) (fun _ h => List.mem_cons_of_mem _ (List.mem_append_right _ h)) (List.mem_of_getElem? (i := 1) rfl) rfl rfl dX10_begin_1 rfl ?_
  refine vv_iconst (q := 5) X (0 : Int32) dX10_begin_4 (by decide) rfl ?_
  refine vv_iconst (q := 6) X (0 : Int32) dX10_begin_5 (by decide) rfl ?_
  obtain ⟨hin1, h⟩ := h
  refine vv_iast (q := 7) X 12 48 (Nat.le_of_ble_eq_true rfl) (fun _ => rfl) hin1 dX10_begin_6 rfl ?_
  refine vv_nm (fun σ2 hσ2 => ?_)
  have h := h σ2 hσ2
  refine vv_aload_n (q := 8) X 0 dX10_begin_7 rfl rfl rfl ?_
  refine vv_getf (q := 11) (ref := "HalfLaddersModel") (C := RX10) (T := TX10) (N := 27) X 0 10 18 (Nat.le_of_ble_eq_true rfl) rfl rfl (Nat.le_of_ble_eq_true rfl) (fun _ h => List.mem_cons_of_mem _ (List.mem_append_right _ h)) (List.mem_of_getElem? (i := 1) rfl) rfl rfl dX10_begin_8 rfl ?_
  refine vv_iconst (q := 12) X (1 : Int32) dX10_begin_11 (by decide) rfl ?_
  refine vv_iconst (q := 13) X (0 : Int32) dX10_begin_12 (by decide) rfl ?_
  obtain ⟨hin3, h⟩ := h
  refine vv_iast (q := 14) X 12 48 (Nat.le_of_ble_eq_true rfl) (fun _ => rfl) hin3 dX10_begin_13 rfl ?_
  refine vv_nm (fun σ4 hσ4 => ?_)
  have h := h σ4 hσ4
  refine vv_aload_n (q := 15) X 0 dX10_begin_14 rfl rfl rfl ?_
  refine vv_getf (q := 18) (ref := "HalfLaddersModel") (C := RX10) (T := TX10) (N := 27) X 0 10 18 (Nat.le_of_ble_eq_true rfl) rfl rfl (Nat.le_of_ble_eq_true rfl) (fun _ h => List.mem_cons_of_mem _ (List.mem_append_right _ h)) (List.mem_of_getElem? (i := 1) rfl) rfl rfl dX10_begin_15 rfl ?_
  refine vv_iconst (q := 19) X (2 : Int32) dX10_begin_18 (by decide) rfl ?_
  refine vv_iconst (q := 20) X (0 : Int32) dX10_begin_19 (by decide) rfl ?_
  obtain ⟨hin5, h⟩ := h
  refine vv_iast (q := 21) X 12 48 (Nat.le_of_ble_eq_true rfl) (fun _ => rfl) hin5 dX10_begin_20 rfl ?_
  refine vv_nm (fun σ6 hσ6 => ?_)
  have h := h σ6 hσ6
  refine vv_aload_n (q := 22) X 0 dX10_begin_21 rfl rfl rfl ?_
  refine vv_getf (q := 25) (ref := "HalfLaddersModel") (C := RX10) (T := TX10) (N := 27) X 0 10 18 (Nat.le_of_ble_eq_true rfl) rfl rfl (Nat.le_of_ble_eq_true rfl) (fun _ h => List.mem_cons_of_mem _ (List.mem_append_right _ h)) (List.mem_of_getElem? (i := 1) rfl) rfl rfl dX10_begin_22 rfl ?_
  refine vv_iconst (q := 26) X (3 : Int32) dX10_begin_25 (by decide) rfl ?_
  refine vv_iconst (q := 27) X (0 : Int32) dX10_begin_26 (by decide) rfl ?_
  obtain ⟨hin7, h⟩ := h
  refine vv_iast (q := 28) X 12 48 (Nat.le_of_ble_eq_true rfl) (fun _ => rfl) hin7 dX10_begin_27 rfl ?_
  refine vv_nm (fun σ8 hσ8 => ?_)
  have h := h σ8 hσ8
  refine vv_aload_n (q := 29) X 0 dX10_begin_28 rfl rfl rfl ?_
  refine vv_getf (q := 32) (ref := "HalfLaddersModel") (C := RX10) (T := TX10) (N := 27) X 0 10 18 (Nat.le_of_ble_eq_true rfl) rfl rfl (Nat.le_of_ble_eq_true rfl) (fun _ h => List.mem_cons_of_mem _ (List.mem_append_right _ h)) (List.mem_of_getElem? (i := 1) rfl) rfl rfl dX10_begin_29 rfl ?_
  refine vv_iconst (q := 33) X (4 : Int32) dX10_begin_32 (by decide) rfl ?_
  refine vv_iconst (q := 34) X (0 : Int32) dX10_begin_33 (by decide) rfl ?_
  obtain ⟨hin9, h⟩ := h
  refine vv_iast (q := 35) X 12 48 (Nat.le_of_ble_eq_true rfl) (fun _ => rfl) hin9 dX10_begin_34 rfl ?_
  refine vv_nm (fun σ10 hσ10 => ?_)
  have h := h σ10 hσ10
  exact vv_vret X hr dX10_begin_35 h

/-! X10_orchard: orchard()I -/
def rmX10_orchard : Room := { frames := 5, cells := 0, slots := 0, locals := 115 }
def wLX10_orchard_28   (K48 : St → Prop) (P : Int32 → St → Prop) : Nat → St → Int32 → Prop
  | 0, _, _ => False
  | n + 1, σ, x1 =>
    ((128 : Int32) ≤ x1 →
    K48 σ) ∧
    (¬ (128 : Int32) ≤ x1 →
    vp_in x1 128 ∧
    ∀ σ9 : St, σ9 = sI σ 7 x1.toNatClampNeg (vp_nar .boolean (0 : Int32)) →
    ∀ z10 : Int32, z10 = x1 + (1 : Int32) →
    wLX10_orchard_28 K48 P n σ9 z10)

set_option maxHeartbeats 4000000 in
set_option maxRecDepth 100000 in
theorem twLX10_orchard_28 {p : Program} {l : Launch} {e : Env} {s : State} {m : MethodId} {args : Array Value} {below : List Frame} {meth : Method} {c : Code} {D : va_G} {cy : Nat → ClassId} {ad : Nat → Nat} (X : XX p s m args meth c cX10_orchard 3 D cy (wM ad cy) wsX10_orchard RX10) (hr : meth.sig.returnType = (some .int))    (K48 : St → Prop) {P : Int32 → St → Prop} (hK48 : ∀ (σ : St), K48 σ → VV p l e rmX10_orchard s m args below meth c (MQ below (va_Qi P (xPost D (wM ad cy)) (xA (wM ad cy))) args s 0 0 (xA (wM ad cy))) 3 D (wM ad cy) σ 48 [(0, .ref (ad 0))] []) : ∀ (n : Nat) (σ : St) (x1 : Int32), wLX10_orchard_28 K48 P n σ x1 → VV p l e rmX10_orchard s m args below meth c (MQ below (va_Qi P (xPost D (wM ad cy)) (xA (wM ad cy))) args s 0 0 (xA (wM ad cy))) 3 D (wM ad cy) σ 28 [(0, .ref (ad 0)), (1, .int x1)] [] := by
  intro n
  induction n with
  | zero => intro σ x1 h; exact h.elim
  | succ n ih =>
    intro σ x1 h
    rw [wLX10_orchard_28] at h
    refine vv_iload_n (q := 29) X 1 dX10_orchard_28 rfl rfl rfl ?_
    refine vv_sipush (q := 32) X (128 : Int32) dX10_orchard_29 (by decide) rfl ?_
    refine vv_icmp_ge (q := 35) X 48 dX10_orchard_32 (by decide) rfl (fun c7 => ?_) (fun c7 => ?_)
    · have h := h.1 c7
      refine vv_sub (lv' := [(0, .ref (ad 0))]) [0] rfl ?_
      exact hK48 σ h
    · have h := h.2 c7
      refine vv_aload_n (q := 36) X 0 dX10_orchard_35 rfl rfl rfl ?_
      refine vv_getf (q := 39) (ref := "HalfLaddersModel") (C := RX10) (T := TX10) (N := 27) X 0 10 8 (Nat.le_of_ble_eq_true rfl) rfl rfl (Nat.le_of_ble_eq_true rfl) (fun _ h => List.mem_cons_of_mem _ (List.mem_append_right _ h)) (List.mem_of_getElem? (i := 5) rfl) rfl rfl dX10_orchard_36 rfl ?_
      refine vv_iload_n (q := 40) X 1 dX10_orchard_39 rfl rfl rfl ?_
      refine vv_iconst (q := 41) X (0 : Int32) dX10_orchard_40 (by decide) rfl ?_
      obtain ⟨hin8, h⟩ := h
      refine vv_zast (q := 42) X 7 128 (Nat.le_of_ble_eq_true rfl) (fun _ => rfl) hin8 dX10_orchard_41 rfl ?_
      refine vv_nm (fun σ9 hσ9 => ?_)
      have h := h σ9 hσ9
      obtain ⟨z10, hz10⟩ : ∃ y : Int32, y = x1 + (1 : Int32) := ⟨_, rfl⟩
      have h := h z10 hz10
      refine vv_iinc (v := z10) (lv2 := [(1, .int z10), (0, .ref (ad 0))]) (q := 45) X 1 dX10_orchard_42 rfl (by rw [hz10]; rfl) (Nat.le_of_ble_eq_true rfl) rfl rfl ?_
      refine vv_goto X 28 dX10_orchard_45 (by decide) ?_
      refine vv_sub (lv' := [(0, .ref (ad 0)), (1, .int z10)]) [1, 0] rfl ?_
      exact ih σ9 z10 h

def wLX10_orchard_54   (K81 : St → Int32 → Prop) (P : Int32 → St → Prop) : Nat → St → Int32 → Prop
  | 0, _, _ => False
  | n + 1, σ, x1 =>
    (¬ (σ.1 0 17) = (-9 : Int32) →
    K81 σ x1) ∧
    ((σ.1 0 17) = (-9 : Int32) →
    ((σ.1 0 15) = (4 : Int32) →
    K81 σ x1) ∧
    (¬ (σ.1 0 15) = (4 : Int32) →
    wX10_readItem σ  (fun σ15 : St =>
    ∀ z16 : Int32, z16 = x1 + (1 : Int32) →
    wLX10_orchard_54 K81 P n σ15 z16)))

set_option maxHeartbeats 4000000 in
set_option maxRecDepth 100000 in
theorem twLX10_orchard_54 {p : Program} {l : Launch} {e : Env} {s : State} {m : MethodId} {args : Array Value} {below : List Frame} {meth : Method} {c : Code} {D : va_G} {cy : Nat → ClassId} {ad : Nat → Nat} (X : XX p s m args meth c cX10_orchard 3 D cy (wM ad cy) wsX10_orchard RX10) (hr : meth.sig.returnType = (some .int))    (K81 : St → Int32 → Prop) {P : Int32 → St → Prop} (hK81 : ∀ (σ : St) (x1 : Int32), K81 σ x1 → VV p l e rmX10_orchard s m args below meth c (MQ below (va_Qi P (xPost D (wM ad cy)) (xA (wM ad cy))) args s 0 0 (xA (wM ad cy))) 3 D (wM ad cy) σ 81 [(0, .ref (ad 0)), (1, .int x1)] []) : ∀ (n : Nat) (σ : St) (x1 : Int32), wLX10_orchard_54 K81 P n σ x1 → VV p l e rmX10_orchard s m args below meth c (MQ below (va_Qi P (xPost D (wM ad cy)) (xA (wM ad cy))) args s 0 0 (xA (wM ad cy))) 3 D (wM ad cy) σ 54 [(0, .ref (ad 0)), (1, .int x1)] [] := by
  intro n
  induction n with
  | zero => intro σ x1 h; exact h.elim
  | succ n ih =>
    intro σ x1 h
    rw [wLX10_orchard_54] at h
    refine vv_aload_n (q := 55) X 0 dX10_orchard_54 rfl rfl rfl ?_
    refine vv_getf (q := 58) (ref := "HalfLaddersModel") (C := RX10) (T := TX10) (N := 27) X 0 10 17 (Nat.le_of_ble_eq_true rfl) rfl rfl (Nat.le_of_ble_eq_true rfl) (fun _ h => List.mem_cons_of_mem _ (List.mem_append_right _ h)) (List.mem_of_getElem? (i := 2) rfl) rfl rfl dX10_orchard_55 rfl ?_
    refine vv_bipush (q := 60) X (-9 : Int32) dX10_orchard_58 (by decide) rfl ?_
    refine vv_icmp_ne (q := 63) X 81 dX10_orchard_60 (by decide) rfl (fun c13 => ?_) (fun c13 => ?_)
    · have h := h.1 c13
      exact hK81 σ x1 h
    · have h := h.2 c13
      refine vv_aload_n (q := 64) X 0 dX10_orchard_63 rfl rfl rfl ?_
      refine vv_getf (q := 67) (ref := "HalfLaddersModel") (C := RX10) (T := TX10) (N := 27) X 0 10 15 (Nat.le_of_ble_eq_true rfl) rfl rfl (Nat.le_of_ble_eq_true rfl) (fun _ h => List.mem_cons_of_mem _ (List.mem_append_right _ h)) (List.mem_of_getElem? (i := 6) rfl) rfl rfl dX10_orchard_64 rfl ?_
      refine vv_iconst (q := 68) X (4 : Int32) dX10_orchard_67 (by decide) rfl ?_
      refine vv_icmp_eq (q := 71) X 81 dX10_orchard_68 (by decide) rfl (fun c14 => ?_) (fun c14 => ?_)
      · have h := h.1 c14
        exact hK81 σ x1 h
      · have h := h.2 c14
        refine vv_aload_n (q := 72) X 0 dX10_orchard_71 rfl rfl rfl ?_
        refine vv_cVv (q := 75) (C := RX10) X 0 10 [] (kX10_readItem l D X.2.2.1 h) (cwV 0 X.1.2.2.2.2 gX10_orchard_X10_readItem rfl rfl rfl (by decide +kernel) ⟨Nat.le_of_ble_eq_true rfl, Nat.le_of_ble_eq_true rfl⟩) (Nat.le_of_ble_eq_true rfl) rfl rfl rfl rfl (Nat.le_of_ble_eq_true rfl) dX10_orchard_72 rfl (fun σ15 h => ?_)
        obtain ⟨z16, hz16⟩ : ∃ y : Int32, y = x1 + (1 : Int32) := ⟨_, rfl⟩
        have h := h z16 hz16
        refine vv_iinc (v := z16) (lv2 := [(1, .int z16), (0, .ref (ad 0))]) (q := 78) X 1 dX10_orchard_75 rfl (by rw [hz16]; rfl) (Nat.le_of_ble_eq_true rfl) rfl rfl ?_
        refine vv_goto X 54 dX10_orchard_78 (by decide) ?_
        refine vv_sub (lv' := [(0, .ref (ad 0)), (1, .int z16)]) [1, 0] rfl ?_
        exact ih σ15 z16 h

def wLX10_orchard_124 (f1 : Int32)  (K196 : St → Prop) (P : Int32 → St → Prop) : Nat → St → Int32 → Prop
  | 0, _, _ => False
  | n + 1, σ, x2 =>
    ((8 : Int32) ≤ x2 →
    K196 σ) ∧
    (¬ (8 : Int32) ≤ x2 →
    vp_in ((8 : Int32) + x2) 16 ∧
    vp_in x2 16 ∧
    ∀ σ29 : St, σ29 = sI σ 3 x2.toNatClampNeg (σ.1 3 ((8 : Int32) + x2).toNatClampNeg) →
    vp_in ((8 : Int32) + x2) 16 ∧
    vp_in x2 16 ∧
    ∀ σ32 : St, σ32 = sI σ29 4 x2.toNatClampNeg (σ29.1 4 ((8 : Int32) + x2).toNatClampNeg) →
    vp_in ((8 : Int32) + x2) 16 ∧
    vp_in x2 16 ∧
    ∀ σ35 : St, σ35 = sI σ32 5 x2.toNatClampNeg (σ32.1 5 ((8 : Int32) + x2).toNatClampNeg) →
    vp_in ((8 : Int32) + x2) 16 ∧
    vp_in x2 16 ∧
    ∀ σ38 : St, σ38 = sI σ35 6 x2.toNatClampNeg (σ35.1 6 ((8 : Int32) + x2).toNatClampNeg) →
    ∀ z39 : Int32, z39 = x2 + (1 : Int32) →
    wLX10_orchard_124 f1 K196 P n σ38 z39)

set_option maxHeartbeats 4000000 in
set_option maxRecDepth 100000 in
theorem twLX10_orchard_124 {p : Program} {l : Launch} {e : Env} {s : State} {m : MethodId} {args : Array Value} {below : List Frame} {meth : Method} {c : Code} {D : va_G} {cy : Nat → ClassId} {ad : Nat → Nat} (X : XX p s m args meth c cX10_orchard 3 D cy (wM ad cy) wsX10_orchard RX10) (hr : meth.sig.returnType = (some .int)) (f1 : Int32)   (K196 : St → Prop) {P : Int32 → St → Prop} (hK196 : ∀ (σ : St), K196 σ → VV p l e rmX10_orchard s m args below meth c (MQ below (va_Qi P (xPost D (wM ad cy)) (xA (wM ad cy))) args s 0 0 (xA (wM ad cy))) 3 D (wM ad cy) σ 196 [(0, .ref (ad 0)), (1, .int f1)] []) : ∀ (n : Nat) (σ : St) (x2 : Int32), wLX10_orchard_124 f1 K196 P n σ x2 → VV p l e rmX10_orchard s m args below meth c (MQ below (va_Qi P (xPost D (wM ad cy)) (xA (wM ad cy))) args s 0 0 (xA (wM ad cy))) 3 D (wM ad cy) σ 124 [(0, .ref (ad 0)), (1, .int f1), (2, .int x2)] [] := by
  intro n
  induction n with
  | zero => intro σ x2 h; exact h.elim
  | succ n ih =>
    intro σ x2 h
    rw [wLX10_orchard_124] at h
    refine vv_iload_n (q := 125) X 2 dX10_orchard_124 rfl rfl rfl ?_
    refine vv_bipush (q := 127) X (8 : Int32) dX10_orchard_125 (by decide) rfl ?_
    refine vv_icmp_ge (q := 130) X 196 dX10_orchard_127 (by decide) rfl (fun c26 => ?_) (fun c26 => ?_)
    · have h := h.1 c26
      refine vv_sub (lv' := [(0, .ref (ad 0)), (1, .int f1)]) [0, 1] rfl ?_
      exact hK196 σ h
    · have h := h.2 c26
      refine vv_aload_n (q := 131) X 0 dX10_orchard_130 rfl rfl rfl ?_
      refine vv_getf (q := 134) (ref := "HalfLaddersModel") (C := RX10) (T := TX10) (N := 27) X 0 10 4 (Nat.le_of_ble_eq_true rfl) rfl rfl (Nat.le_of_ble_eq_true rfl) (fun _ h => List.mem_cons_of_mem _ (List.mem_append_right _ h)) (List.mem_of_getElem? (i := 7) rfl) rfl rfl dX10_orchard_131 rfl ?_
      refine vv_iload_n (q := 135) X 2 dX10_orchard_134 rfl rfl rfl ?_
      refine vv_aload_n (q := 136) X 0 dX10_orchard_135 rfl rfl rfl ?_
      refine vv_getf (q := 139) (ref := "HalfLaddersModel") (C := RX10) (T := TX10) (N := 27) X 0 10 4 (Nat.le_of_ble_eq_true rfl) rfl rfl (Nat.le_of_ble_eq_true rfl) (fun _ h => List.mem_cons_of_mem _ (List.mem_append_right _ h)) (List.mem_of_getElem? (i := 7) rfl) rfl rfl dX10_orchard_136 rfl ?_
      refine vv_bipush (q := 141) X (8 : Int32) dX10_orchard_139 (by decide) rfl ?_
      refine vv_iload_n (q := 142) X 2 dX10_orchard_141 rfl rfl rfl ?_
      refine vv_iadd (q := 143) X dX10_orchard_142 rfl ?_
      obtain ⟨hin27, h⟩ := h
      refine vv_iald (q := 144) X 3 16 (Nat.le_of_ble_eq_true rfl) (fun _ => rfl) hin27 dX10_orchard_143 rfl ?_
      obtain ⟨hin28, h⟩ := h
      refine vv_iast (q := 145) X 3 16 (Nat.le_of_ble_eq_true rfl) (fun _ => rfl) hin28 dX10_orchard_144 rfl ?_
      refine vv_nm (fun σ29 hσ29 => ?_)
      have h := h σ29 hσ29
      refine vv_aload_n (q := 146) X 0 dX10_orchard_145 rfl rfl rfl ?_
      refine vv_getf (q := 149) (ref := "HalfLaddersModel") (C := RX10) (T := TX10) (N := 27) X 0 10 5 (Nat.le_of_ble_eq_true rfl) rfl rfl (Nat.le_of_ble_eq_true rfl) (fun _ h => List.mem_cons_of_mem _ (List.mem_append_right _ h)) (List.mem_of_getElem? (i := 8) rfl) rfl rfl dX10_orchard_146 rfl ?_
      refine vv_iload_n (q := 150) X 2 dX10_orchard_149 rfl rfl rfl ?_
      refine vv_aload_n (q := 151) X 0 dX10_orchard_150 rfl rfl rfl ?_
      refine vv_getf (q := 154) (ref := "HalfLaddersModel") (C := RX10) (T := TX10) (N := 27) X 0 10 5 (Nat.le_of_ble_eq_true rfl) rfl rfl (Nat.le_of_ble_eq_true rfl) (fun _ h => List.mem_cons_of_mem _ (List.mem_append_right _ h)) (List.mem_of_getElem? (i := 8) rfl) rfl rfl dX10_orchard_151 rfl ?_
      refine vv_bipush (q := 156) X (8 : Int32) dX10_orchard_154 (by decide) rfl ?_
      refine vv_iload_n (q := 157) X 2 dX10_orchard_156 rfl rfl rfl ?_
      refine vv_iadd (q := 158) X dX10_orchard_157 rfl ?_
      obtain ⟨hin30, h⟩ := h
      refine vv_iald (q := 159) X 4 16 (Nat.le_of_ble_eq_true rfl) (fun _ => rfl) hin30 dX10_orchard_158 rfl ?_
      obtain ⟨hin31, h⟩ := h
      refine vv_iast (q := 160) X 4 16 (Nat.le_of_ble_eq_true rfl) (fun _ => rfl) hin31 dX10_orchard_159 rfl ?_
      refine vv_nm (fun σ32 hσ32 => ?_)
      have h := h σ32 hσ32
      refine vv_aload_n (q := 161) X 0 dX10_orchard_160 rfl rfl rfl ?_
      refine vv_getf (q := 164) (ref := "HalfLaddersModel") (C := RX10) (T := TX10) (N := 27) X 0 10 6 (Nat.le_of_ble_eq_true rfl) rfl rfl (Nat.le_of_ble_eq_true rfl) (fun _ h => List.mem_cons_of_mem _ (List.mem_append_right _ h)) (List.mem_of_getElem? (i := 9) rfl) rfl rfl dX10_orchard_161 rfl ?_
      refine vv_iload_n (q := 165) X 2 dX10_orchard_164 rfl rfl rfl ?_
      refine vv_aload_n (q := 166) X 0 dX10_orchard_165 rfl rfl rfl ?_
      refine vv_getf (q := 169) (ref := "HalfLaddersModel") (C := RX10) (T := TX10) (N := 27) X 0 10 6 (Nat.le_of_ble_eq_true rfl) rfl rfl (Nat.le_of_ble_eq_true rfl) (fun _ h => List.mem_cons_of_mem _ (List.mem_append_right _ h)) (List.mem_of_getElem? (i := 9) rfl) rfl rfl dX10_orchard_166 rfl ?_
      refine vv_bipush (q := 171) X (8 : Int32) dX10_orchard_169 (by decide) rfl ?_
      refine vv_iload_n (q := 172) X 2 dX10_orchard_171 rfl rfl rfl ?_
      refine vv_iadd (q := 173) X dX10_orchard_172 rfl ?_
      obtain ⟨hin33, h⟩ := h
      refine vv_iald (q := 174) X 5 16 (Nat.le_of_ble_eq_true rfl) (fun _ => rfl) hin33 dX10_orchard_173 rfl ?_
      obtain ⟨hin34, h⟩ := h
      refine vv_iast (q := 175) X 5 16 (Nat.le_of_ble_eq_true rfl) (fun _ => rfl) hin34 dX10_orchard_174 rfl ?_
      refine vv_nm (fun σ35 hσ35 => ?_)
      have h := h σ35 hσ35
      refine vv_aload_n (q := 176) X 0 dX10_orchard_175 rfl rfl rfl ?_
      refine vv_getf (q := 179) (ref := "HalfLaddersModel") (C := RX10) (T := TX10) (N := 27) X 0 10 7 (Nat.le_of_ble_eq_true rfl) rfl rfl (Nat.le_of_ble_eq_true rfl) (fun _ h => List.mem_cons_of_mem _ (List.mem_append_right _ h)) (List.mem_of_getElem? (i := 10) rfl) rfl rfl dX10_orchard_176 rfl ?_
      refine vv_iload_n (q := 180) X 2 dX10_orchard_179 rfl rfl rfl ?_
      refine vv_aload_n (q := 181) X 0 dX10_orchard_180 rfl rfl rfl ?_
      refine vv_getf (q := 184) (ref := "HalfLaddersModel") (C := RX10) (T := TX10) (N := 27) X 0 10 7 (Nat.le_of_ble_eq_true rfl) rfl rfl (Nat.le_of_ble_eq_true rfl) (fun _ h => List.mem_cons_of_mem _ (List.mem_append_right _ h)) (List.mem_of_getElem? (i := 10) rfl) rfl rfl dX10_orchard_181 rfl ?_
      refine vv_bipush (q := 186) X (8 : Int32) dX10_orchard_184 (by decide) rfl ?_
      refine vv_iload_n (q := 187) X 2 dX10_orchard_186 rfl rfl rfl ?_
      refine vv_iadd (q := 188) X dX10_orchard_187 rfl ?_
      obtain ⟨hin36, h⟩ := h
      refine vv_iald (q := 189) X 6 16 (Nat.le_of_ble_eq_true rfl) (fun _ => rfl) hin36 dX10_orchard_188 rfl ?_
      obtain ⟨hin37, h⟩ := h
      refine vv_iast (q := 190) X 6 16 (Nat.le_of_ble_eq_true rfl) (fun _ => rfl) hin37 dX10_orchard_189 rfl ?_
      refine vv_nm (fun σ38 hσ38 => ?_)
      have h := h σ38 hσ38
      obtain ⟨z39, hz39⟩ : ∃ y : Int32, y = x2 + (1 : Int32) := ⟨_, rfl⟩
      have h := h z39 hz39
      refine vv_iinc (v := z39) (lv2 := [(2, .int z39), (0, .ref (ad 0)), (1, .int f1)]) (q := 193) X 2 dX10_orchard_190 rfl (by rw [hz39]; rfl) (Nat.le_of_ble_eq_true rfl) rfl rfl ?_
      refine vv_goto X 124 dX10_orchard_193 (by decide) ?_
      refine vv_sub (lv' := [(0, .ref (ad 0)), (1, .int f1), (2, .int z39)]) [1, 2, 0] rfl ?_
      exact ih σ38 z39 h

def wLX10_orchard_198 (f1 : Int32)  (K225 : St → Prop) (P : Int32 → St → Prop) : Nat → St → Int32 → Prop
  | 0, _, _ => False
  | n + 1, σ, x2 =>
    ((64 : Int32) ≤ x2 →
    K225 σ) ∧
    (¬ (64 : Int32) ≤ x2 →
    vp_in ((64 : Int32) + x2) 128 ∧
    vp_in x2 128 ∧
    ∀ σ44 : St, σ44 = sI σ 7 x2.toNatClampNeg (vp_nar .boolean (σ.1 7 ((64 : Int32) + x2).toNatClampNeg)) →
    ∀ z45 : Int32, z45 = x2 + (1 : Int32) →
    wLX10_orchard_198 f1 K225 P n σ44 z45)

set_option maxHeartbeats 4000000 in
set_option maxRecDepth 100000 in
theorem twLX10_orchard_198 {p : Program} {l : Launch} {e : Env} {s : State} {m : MethodId} {args : Array Value} {below : List Frame} {meth : Method} {c : Code} {D : va_G} {cy : Nat → ClassId} {ad : Nat → Nat} (X : XX p s m args meth c cX10_orchard 3 D cy (wM ad cy) wsX10_orchard RX10) (hr : meth.sig.returnType = (some .int)) (f1 : Int32)   (K225 : St → Prop) {P : Int32 → St → Prop} (hK225 : ∀ (σ : St), K225 σ → VV p l e rmX10_orchard s m args below meth c (MQ below (va_Qi P (xPost D (wM ad cy)) (xA (wM ad cy))) args s 0 0 (xA (wM ad cy))) 3 D (wM ad cy) σ 225 [(0, .ref (ad 0)), (1, .int f1)] []) : ∀ (n : Nat) (σ : St) (x2 : Int32), wLX10_orchard_198 f1 K225 P n σ x2 → VV p l e rmX10_orchard s m args below meth c (MQ below (va_Qi P (xPost D (wM ad cy)) (xA (wM ad cy))) args s 0 0 (xA (wM ad cy))) 3 D (wM ad cy) σ 198 [(0, .ref (ad 0)), (1, .int f1), (2, .int x2)] [] := by
  intro n
  induction n with
  | zero => intro σ x2 h; exact h.elim
  | succ n ih =>
    intro σ x2 h
    rw [wLX10_orchard_198] at h
    refine vv_iload_n (q := 199) X 2 dX10_orchard_198 rfl rfl rfl ?_
    refine vv_bipush (q := 201) X (64 : Int32) dX10_orchard_199 (by decide) rfl ?_
    refine vv_icmp_ge (q := 204) X 225 dX10_orchard_201 (by decide) rfl (fun c41 => ?_) (fun c41 => ?_)
    · have h := h.1 c41
      refine vv_sub (lv' := [(0, .ref (ad 0)), (1, .int f1)]) [0, 1] rfl ?_
      exact hK225 σ h
    · have h := h.2 c41
      refine vv_aload_n (q := 205) X 0 dX10_orchard_204 rfl rfl rfl ?_
      refine vv_getf (q := 208) (ref := "HalfLaddersModel") (C := RX10) (T := TX10) (N := 27) X 0 10 8 (Nat.le_of_ble_eq_true rfl) rfl rfl (Nat.le_of_ble_eq_true rfl) (fun _ h => List.mem_cons_of_mem _ (List.mem_append_right _ h)) (List.mem_of_getElem? (i := 5) rfl) rfl rfl dX10_orchard_205 rfl ?_
      refine vv_iload_n (q := 209) X 2 dX10_orchard_208 rfl rfl rfl ?_
      refine vv_aload_n (q := 210) X 0 dX10_orchard_209 rfl rfl rfl ?_
      refine vv_getf (q := 213) (ref := "HalfLaddersModel") (C := RX10) (T := TX10) (N := 27) X 0 10 8 (Nat.le_of_ble_eq_true rfl) rfl rfl (Nat.le_of_ble_eq_true rfl) (fun _ h => List.mem_cons_of_mem _ (List.mem_append_right _ h)) (List.mem_of_getElem? (i := 5) rfl) rfl rfl dX10_orchard_210 rfl ?_
      refine vv_bipush (q := 215) X (64 : Int32) dX10_orchard_213 (by decide) rfl ?_
      refine vv_iload_n (q := 216) X 2 dX10_orchard_215 rfl rfl rfl ?_
      refine vv_iadd (q := 217) X dX10_orchard_216 rfl ?_
      obtain ⟨hin42, h⟩ := h
      refine vv_zald (q := 218) X 7 128 (Nat.le_of_ble_eq_true rfl) (fun _ => rfl) hin42 dX10_orchard_217 rfl ?_
      obtain ⟨hin43, h⟩ := h
      refine vv_zast (q := 219) X 7 128 (Nat.le_of_ble_eq_true rfl) (fun _ => rfl) hin43 dX10_orchard_218 rfl ?_
      refine vv_nm (fun σ44 hσ44 => ?_)
      have h := h σ44 hσ44
      obtain ⟨z45, hz45⟩ : ∃ y : Int32, y = x2 + (1 : Int32) := ⟨_, rfl⟩
      have h := h z45 hz45
      refine vv_iinc (v := z45) (lv2 := [(2, .int z45), (0, .ref (ad 0)), (1, .int f1)]) (q := 222) X 2 dX10_orchard_219 rfl (by rw [hz45]; rfl) (Nat.le_of_ble_eq_true rfl) rfl rfl ?_
      refine vv_goto X 198 dX10_orchard_222 (by decide) ?_
      refine vv_sub (lv' := [(0, .ref (ad 0)), (1, .int f1), (2, .int z45)]) [1, 2, 0] rfl ?_
      exact ih σ44 z45 h

def wLX10_orchard_227 (f1 : Int32)  (K280 : St → Prop) (P : Int32 → St → Prop) : Nat → St → Int32 → Prop
  | 0, _, _ => False
  | n + 1, σ, x2 =>
    ((5 : Int32) ≤ x2 →
    K280 σ) ∧
    (¬ (5 : Int32) ≤ x2 →
    vp_in ((5 : Int32) + x2) 10 ∧
    vp_in x2 10 ∧
    ∀ σ50 : St, σ50 = sI σ 9 x2.toNatClampNeg (σ.1 9 ((5 : Int32) + x2).toNatClampNeg) →
    vp_in ((5 : Int32) + x2) 10 ∧
    vp_in x2 10 ∧
    ∀ σ53 : St, σ53 = sI σ50 10 x2.toNatClampNeg (σ50.1 10 ((5 : Int32) + x2).toNatClampNeg) →
    vp_in ((5 : Int32) + x2) 10 ∧
    vp_in x2 10 ∧
    ∀ σ56 : St, σ56 = sI σ53 11 x2.toNatClampNeg (σ53.1 11 ((5 : Int32) + x2).toNatClampNeg) →
    ∀ z57 : Int32, z57 = x2 + (1 : Int32) →
    wLX10_orchard_227 f1 K280 P n σ56 z57)

set_option maxHeartbeats 4000000 in
set_option maxRecDepth 100000 in
theorem twLX10_orchard_227 {p : Program} {l : Launch} {e : Env} {s : State} {m : MethodId} {args : Array Value} {below : List Frame} {meth : Method} {c : Code} {D : va_G} {cy : Nat → ClassId} {ad : Nat → Nat} (X : XX p s m args meth c cX10_orchard 3 D cy (wM ad cy) wsX10_orchard RX10) (hr : meth.sig.returnType = (some .int)) (f1 : Int32)   (K280 : St → Prop) {P : Int32 → St → Prop} (hK280 : ∀ (σ : St), K280 σ → VV p l e rmX10_orchard s m args below meth c (MQ below (va_Qi P (xPost D (wM ad cy)) (xA (wM ad cy))) args s 0 0 (xA (wM ad cy))) 3 D (wM ad cy) σ 280 [(0, .ref (ad 0)), (1, .int f1)] []) : ∀ (n : Nat) (σ : St) (x2 : Int32), wLX10_orchard_227 f1 K280 P n σ x2 → VV p l e rmX10_orchard s m args below meth c (MQ below (va_Qi P (xPost D (wM ad cy)) (xA (wM ad cy))) args s 0 0 (xA (wM ad cy))) 3 D (wM ad cy) σ 227 [(0, .ref (ad 0)), (1, .int f1), (2, .int x2)] [] := by
  intro n
  induction n with
  | zero => intro σ x2 h; exact h.elim
  | succ n ih =>
    intro σ x2 h
    rw [wLX10_orchard_227] at h
    refine vv_iload_n (q := 228) X 2 dX10_orchard_227 rfl rfl rfl ?_
    refine vv_iconst (q := 229) X (5 : Int32) dX10_orchard_228 (by decide) rfl ?_
    refine vv_icmp_ge (q := 232) X 280 dX10_orchard_229 (by decide) rfl (fun c47 => ?_) (fun c47 => ?_)
    · have h := h.1 c47
      refine vv_sub (lv' := [(0, .ref (ad 0)), (1, .int f1)]) [0, 1] rfl ?_
      exact hK280 σ h
    · have h := h.2 c47
      refine vv_aload_n (q := 233) X 0 dX10_orchard_232 rfl rfl rfl ?_
      refine vv_getf (q := 236) (ref := "HalfLaddersModel") (C := RX10) (T := TX10) (N := 27) X 0 10 10 (Nat.le_of_ble_eq_true rfl) rfl rfl (Nat.le_of_ble_eq_true rfl) (fun _ h => List.mem_cons_of_mem _ (List.mem_append_right _ h)) (List.mem_of_getElem? (i := 11) rfl) rfl rfl dX10_orchard_233 rfl ?_
      refine vv_iload_n (q := 237) X 2 dX10_orchard_236 rfl rfl rfl ?_
      refine vv_aload_n (q := 238) X 0 dX10_orchard_237 rfl rfl rfl ?_
      refine vv_getf (q := 241) (ref := "HalfLaddersModel") (C := RX10) (T := TX10) (N := 27) X 0 10 10 (Nat.le_of_ble_eq_true rfl) rfl rfl (Nat.le_of_ble_eq_true rfl) (fun _ h => List.mem_cons_of_mem _ (List.mem_append_right _ h)) (List.mem_of_getElem? (i := 11) rfl) rfl rfl dX10_orchard_238 rfl ?_
      refine vv_iconst (q := 242) X (5 : Int32) dX10_orchard_241 (by decide) rfl ?_
      refine vv_iload_n (q := 243) X 2 dX10_orchard_242 rfl rfl rfl ?_
      refine vv_iadd (q := 244) X dX10_orchard_243 rfl ?_
      obtain ⟨hin48, h⟩ := h
      refine vv_iald (q := 245) X 9 10 (Nat.le_of_ble_eq_true rfl) (fun _ => rfl) hin48 dX10_orchard_244 rfl ?_
      obtain ⟨hin49, h⟩ := h
      refine vv_iast (q := 246) X 9 10 (Nat.le_of_ble_eq_true rfl) (fun _ => rfl) hin49 dX10_orchard_245 rfl ?_
      refine vv_nm (fun σ50 hσ50 => ?_)
      have h := h σ50 hσ50
      refine vv_aload_n (q := 247) X 0 dX10_orchard_246 rfl rfl rfl ?_
      refine vv_getf (q := 250) (ref := "HalfLaddersModel") (C := RX10) (T := TX10) (N := 27) X 0 10 11 (Nat.le_of_ble_eq_true rfl) rfl rfl (Nat.le_of_ble_eq_true rfl) (fun _ h => List.mem_cons_of_mem _ (List.mem_append_right _ h)) (List.mem_of_getElem? (i := 12) rfl) rfl rfl dX10_orchard_247 rfl ?_
      refine vv_iload_n (q := 251) X 2 dX10_orchard_250 rfl rfl rfl ?_
      refine vv_aload_n (q := 252) X 0 dX10_orchard_251 rfl rfl rfl ?_
      refine vv_getf (q := 255) (ref := "HalfLaddersModel") (C := RX10) (T := TX10) (N := 27) X 0 10 11 (Nat.le_of_ble_eq_true rfl) rfl rfl (Nat.le_of_ble_eq_true rfl) (fun _ h => List.mem_cons_of_mem _ (List.mem_append_right _ h)) (List.mem_of_getElem? (i := 12) rfl) rfl rfl dX10_orchard_252 rfl ?_
      refine vv_iconst (q := 256) X (5 : Int32) dX10_orchard_255 (by decide) rfl ?_
      refine vv_iload_n (q := 257) X 2 dX10_orchard_256 rfl rfl rfl ?_
      refine vv_iadd (q := 258) X dX10_orchard_257 rfl ?_
      obtain ⟨hin51, h⟩ := h
      refine vv_iald (q := 259) X 10 10 (Nat.le_of_ble_eq_true rfl) (fun _ => rfl) hin51 dX10_orchard_258 rfl ?_
      obtain ⟨hin52, h⟩ := h
      refine vv_iast (q := 260) X 10 10 (Nat.le_of_ble_eq_true rfl) (fun _ => rfl) hin52 dX10_orchard_259 rfl ?_
      refine vv_nm (fun σ53 hσ53 => ?_)
      have h := h σ53 hσ53
      refine vv_aload_n (q := 261) X 0 dX10_orchard_260 rfl rfl rfl ?_
      refine vv_getf (q := 264) (ref := "HalfLaddersModel") (C := RX10) (T := TX10) (N := 27) X 0 10 12 (Nat.le_of_ble_eq_true rfl) rfl rfl (Nat.le_of_ble_eq_true rfl) (fun _ h => List.mem_cons_of_mem _ (List.mem_append_right _ h)) (List.mem_of_getElem? (i := 13) rfl) rfl rfl dX10_orchard_261 rfl ?_
      refine vv_iload_n (q := 265) X 2 dX10_orchard_264 rfl rfl rfl ?_
      refine vv_aload_n (q := 266) X 0 dX10_orchard_265 rfl rfl rfl ?_
      refine vv_getf (q := 269) (ref := "HalfLaddersModel") (C := RX10) (T := TX10) (N := 27) X 0 10 12 (Nat.le_of_ble_eq_true rfl) rfl rfl (Nat.le_of_ble_eq_true rfl) (fun _ h => List.mem_cons_of_mem _ (List.mem_append_right _ h)) (List.mem_of_getElem? (i := 13) rfl) rfl rfl dX10_orchard_266 rfl ?_
      refine vv_iconst (q := 270) X (5 : Int32) dX10_orchard_269 (by decide) rfl ?_
      refine vv_iload_n (q := 271) X 2 dX10_orchard_270 rfl rfl rfl ?_
      refine vv_iadd (q := 272) X dX10_orchard_271 rfl ?_
      obtain ⟨hin54, h⟩ := h
      refine vv_iald (q := 273) X 11 10 (Nat.le_of_ble_eq_true rfl) (fun _ => rfl) hin54 dX10_orchard_272 rfl ?_
      obtain ⟨hin55, h⟩ := h
      refine vv_iast (q := 274) X 11 10 (Nat.le_of_ble_eq_true rfl) (fun _ => rfl) hin55 dX10_orchard_273 rfl ?_
      refine vv_nm (fun σ56 hσ56 => ?_)
      have h := h σ56 hσ56
      obtain ⟨z57, hz57⟩ : ∃ y : Int32, y = x2 + (1 : Int32) := ⟨_, rfl⟩
      have h := h z57 hz57
      refine vv_iinc (v := z57) (lv2 := [(2, .int z57), (0, .ref (ad 0)), (1, .int f1)]) (q := 277) X 2 dX10_orchard_274 rfl (by rw [hz57]; rfl) (Nat.le_of_ble_eq_true rfl) rfl rfl ?_
      refine vv_goto X 227 dX10_orchard_277 (by decide) ?_
      refine vv_sub (lv' := [(0, .ref (ad 0)), (1, .int f1), (2, .int z57)]) [1, 2, 0] rfl ?_
      exact ih σ56 z57 h

def wLX10_orchard_286 (f1 : Int32)  (K317 : St → Prop) (P : Int32 → St → Prop) : Nat → St → Int32 → Prop
  | 0, _, _ => False
  | n + 1, σ, x2 =>
    vp_in (0 : Int32) 2 ∧
    ((σ.1 8 (0 : Int32).toNatClampNeg) ≤ x2 →
    K317 σ) ∧
    (¬ (σ.1 8 (0 : Int32).toNatClampNeg) ≤ x2 →
    vp_in x2 10 ∧
    vp_in ((6 : Int32) + x2) 48 ∧
    ∀ σ64 : St, σ64 = sI σ 12 ((6 : Int32) + x2).toNatClampNeg (σ.1 11 x2.toNatClampNeg) →
    ∀ z65 : Int32, z65 = x2 + (1 : Int32) →
    wLX10_orchard_286 f1 K317 P n σ64 z65)

set_option maxHeartbeats 4000000 in
set_option maxRecDepth 100000 in
theorem twLX10_orchard_286 {p : Program} {l : Launch} {e : Env} {s : State} {m : MethodId} {args : Array Value} {below : List Frame} {meth : Method} {c : Code} {D : va_G} {cy : Nat → ClassId} {ad : Nat → Nat} (X : XX p s m args meth c cX10_orchard 3 D cy (wM ad cy) wsX10_orchard RX10) (hr : meth.sig.returnType = (some .int)) (f1 : Int32)   (K317 : St → Prop) {P : Int32 → St → Prop} (hK317 : ∀ (σ : St), K317 σ → VV p l e rmX10_orchard s m args below meth c (MQ below (va_Qi P (xPost D (wM ad cy)) (xA (wM ad cy))) args s 0 0 (xA (wM ad cy))) 3 D (wM ad cy) σ 317 [(0, .ref (ad 0)), (1, .int f1)] []) : ∀ (n : Nat) (σ : St) (x2 : Int32), wLX10_orchard_286 f1 K317 P n σ x2 → VV p l e rmX10_orchard s m args below meth c (MQ below (va_Qi P (xPost D (wM ad cy)) (xA (wM ad cy))) args s 0 0 (xA (wM ad cy))) 3 D (wM ad cy) σ 286 [(0, .ref (ad 0)), (1, .int f1), (2, .int x2)] [] := by
  intro n
  induction n with
  | zero => intro σ x2 h; exact h.elim
  | succ n ih =>
    intro σ x2 h
    rw [wLX10_orchard_286] at h
    refine vv_iload_n (q := 287) X 2 dX10_orchard_286 rfl rfl rfl ?_
    refine vv_aload_n (q := 288) X 0 dX10_orchard_287 rfl rfl rfl ?_
    refine vv_getf (q := 291) (ref := "HalfLaddersModel") (C := RX10) (T := TX10) (N := 27) X 0 10 9 (Nat.le_of_ble_eq_true rfl) rfl rfl (Nat.le_of_ble_eq_true rfl) (fun _ h => List.mem_cons_of_mem _ (List.mem_append_right _ h)) (List.mem_of_getElem? (i := 4) rfl) rfl rfl dX10_orchard_288 rfl ?_
    refine vv_iconst (q := 292) X (0 : Int32) dX10_orchard_291 (by decide) rfl ?_
    obtain ⟨hin60, h⟩ := h
    refine vv_iald (q := 293) X 8 2 (Nat.le_of_ble_eq_true rfl) (fun _ => rfl) hin60 dX10_orchard_292 rfl ?_
    refine vv_icmp_ge (q := 296) X 317 dX10_orchard_293 (by decide) rfl (fun c61 => ?_) (fun c61 => ?_)
    · have h := h.1 c61
      refine vv_sub (lv' := [(0, .ref (ad 0)), (1, .int f1)]) [0, 1] rfl ?_
      exact hK317 σ h
    · have h := h.2 c61
      refine vv_aload_n (q := 297) X 0 dX10_orchard_296 rfl rfl rfl ?_
      refine vv_getf (q := 300) (ref := "HalfLaddersModel") (C := RX10) (T := TX10) (N := 27) X 0 10 18 (Nat.le_of_ble_eq_true rfl) rfl rfl (Nat.le_of_ble_eq_true rfl) (fun _ h => List.mem_cons_of_mem _ (List.mem_append_right _ h)) (List.mem_of_getElem? (i := 14) rfl) rfl rfl dX10_orchard_297 rfl ?_
      refine vv_bipush (q := 302) X (6 : Int32) dX10_orchard_300 (by decide) rfl ?_
      refine vv_iload_n (q := 303) X 2 dX10_orchard_302 rfl rfl rfl ?_
      refine vv_iadd (q := 304) X dX10_orchard_303 rfl ?_
      refine vv_aload_n (q := 305) X 0 dX10_orchard_304 rfl rfl rfl ?_
      refine vv_getf (q := 308) (ref := "HalfLaddersModel") (C := RX10) (T := TX10) (N := 27) X 0 10 12 (Nat.le_of_ble_eq_true rfl) rfl rfl (Nat.le_of_ble_eq_true rfl) (fun _ h => List.mem_cons_of_mem _ (List.mem_append_right _ h)) (List.mem_of_getElem? (i := 13) rfl) rfl rfl dX10_orchard_305 rfl ?_
      refine vv_iload_n (q := 309) X 2 dX10_orchard_308 rfl rfl rfl ?_
      obtain ⟨hin62, h⟩ := h
      refine vv_iald (q := 310) X 11 10 (Nat.le_of_ble_eq_true rfl) (fun _ => rfl) hin62 dX10_orchard_309 rfl ?_
      obtain ⟨hin63, h⟩ := h
      refine vv_iast (q := 311) X 12 48 (Nat.le_of_ble_eq_true rfl) (fun _ => rfl) hin63 dX10_orchard_310 rfl ?_
      refine vv_nm (fun σ64 hσ64 => ?_)
      have h := h σ64 hσ64
      obtain ⟨z65, hz65⟩ : ∃ y : Int32, y = x2 + (1 : Int32) := ⟨_, rfl⟩
      have h := h z65 hz65
      refine vv_iinc (v := z65) (lv2 := [(2, .int z65), (0, .ref (ad 0)), (1, .int f1)]) (q := 314) X 2 dX10_orchard_311 rfl (by rw [hz65]; rfl) (Nat.le_of_ble_eq_true rfl) rfl rfl ?_
      refine vv_goto X 286 dX10_orchard_314 (by decide) ?_
      refine vv_sub (lv' := [(0, .ref (ad 0)), (1, .int f1), (2, .int z65)]) [1, 2, 0] rfl ?_
      exact ih σ64 z65 h

def wX10_orchard (σ : St)  (P : Int32 → St → Prop) : Prop :=
∀ σ1 : St, σ1 = sI σ 0 13 (0 : Int32) →
∀ σ2 : St, σ2 = sI σ1 0 17 (-9 : Int32) →
vp_in (1 : Int32) 2 ∧
∀ σ4 : St, σ4 = sI σ2 2 (1 : Int32).toNatClampNeg (0 : Int32) →
vp_in (1 : Int32) 2 ∧
∀ σ6 : St, σ6 = sI σ4 8 (1 : Int32).toNatClampNeg (0 : Int32) →
∃ n77 : Nat, wLX10_orchard_28 (fun (σ11 : St) =>
wX10_next σ11  (fun σ12 : St =>
∃ n76 : Nat, wLX10_orchard_54 (fun (σ18 : St) (y17 : Int32) =>
((σ18.1 0 17) = (-9 : Int32) →
vp_in (1 : Int32) 2 ∧
vp_in (0 : Int32) 2 ∧
∀ σ22 : St, σ22 = sI σ18 2 (0 : Int32).toNatClampNeg (σ18.1 2 (1 : Int32).toNatClampNeg) →
vp_in (1 : Int32) 2 ∧
vp_in (0 : Int32) 2 ∧
∀ σ25 : St, σ25 = sI σ22 8 (0 : Int32).toNatClampNeg (σ22.1 8 (1 : Int32).toNatClampNeg) →
∃ n75 : Nat, wLX10_orchard_124 y17 (fun (σ40 : St) =>
∃ n74 : Nat, wLX10_orchard_198 y17 (fun (σ46 : St) =>
∃ n73 : Nat, wLX10_orchard_227 y17 (fun (σ58 : St) =>
wX10_begin σ58  (fun σ59 : St =>
∃ n72 : Nat, wLX10_orchard_286 y17 (fun (σ66 : St) =>
vp_in (0 : Int32) 2 ∧
∀ σ68 : St, σ68 = sI σ66 13 (0 : Int32).toNatClampNeg (vp_nar .boolean (0 : Int32)) →
vp_in (1 : Int32) 2 ∧
∀ σ70 : St, σ70 = sI σ68 13 (1 : Int32).toNatClampNeg (vp_nar .boolean (0 : Int32)) →
∀ σ71 : St, σ71 = sI σ70 0 2 (0 : Int32) →
P y17 σ71) P n72 σ59 (0 : Int32))) P n73 σ46 (0 : Int32)) P n74 σ40 (0 : Int32)) P n75 σ25 (0 : Int32)) ∧
(¬ (σ18.1 0 17) = (-9 : Int32) →
P ((-10 : Int32) - (σ18.1 0 17)) σ18)) P n76 σ12 (0 : Int32))) P n77 σ6 (64 : Int32)

set_option maxHeartbeats 8000000 in
set_option maxRecDepth 100000 in
theorem kX10_orchard (l : Launch) (D : va_G) {cy : Nat → ClassId} {ad : Nat → Nat} (hw : xOk (wM ad cy)) {σ : St}  {P : Int32 → St → Prop} (h : wX10_orchard σ  P) : MI l yX10_orchard wsX10_orchard rmX10_orchard D cy (wM ad cy) [.ref (ad 0)] σ P := by
  unfold MI
  refine vv_met (cc := cX10_orchard) (maxL := 3) (ret := (some .int)) hw (by decide +kernel) rfl [.ref (ad 0)] (Nat.le_of_ble_eq_true rfl) ?_
  intro p e s m args below meth c X hr
  have X : XX p s m args meth c cX10_orchard 3 D cy (wM ad cy) wsX10_orchard RX10 := X
  refine vv_sub (lv' := [(0, .ref (ad 0))]) [0] rfl ?_
  rw [wX10_orchard] at h
  refine vv_aload_n (q := 1) X 0 dX10_orchard_0 rfl rfl rfl ?_
  refine vv_iconst (q := 2) X (0 : Int32) dX10_orchard_1 (by decide) rfl ?_
  refine vv_putf (q := 5) (ref := "HalfLaddersModel") (C := RX10) (T := TX10) (N := 27) X 0 10 13 tyX10 tyX10_ok nmX10 (Nat.le_of_ble_eq_true rfl) rfl rfl rfl (Nat.le_of_ble_eq_true rfl) rfl (fun _ h => List.mem_cons_of_mem _ (List.mem_append_right _ h)) (List.mem_of_getElem? (i := 1) rfl) rfl rfl rfl dX10_orchard_2 rfl ?_
  refine vv_nm (fun σ1 hσ1 => ?_)
  have h := h σ1 hσ1
  refine vv_aload_n (q := 6) X 0 dX10_orchard_5 rfl rfl rfl ?_
  refine vv_bipush (q := 8) X (-9 : Int32) dX10_orchard_6 (by decide) rfl ?_
  refine vv_putf (q := 11) (ref := "HalfLaddersModel") (C := RX10) (T := TX10) (N := 27) X 0 10 17 tyX10 tyX10_ok nmX10 (Nat.le_of_ble_eq_true rfl) rfl rfl rfl (Nat.le_of_ble_eq_true rfl) rfl (fun _ h => List.mem_cons_of_mem _ (List.mem_append_right _ h)) (List.mem_of_getElem? (i := 2) rfl) rfl rfl rfl dX10_orchard_8 rfl ?_
  refine vv_nm (fun σ2 hσ2 => ?_)
  have h := h σ2 hσ2
  refine vv_aload_n (q := 12) X 0 dX10_orchard_11 rfl rfl rfl ?_
  refine vv_getf (q := 15) (ref := "HalfLaddersModel") (C := RX10) (T := TX10) (N := 27) X 0 10 3 (Nat.le_of_ble_eq_true rfl) rfl rfl (Nat.le_of_ble_eq_true rfl) (fun _ h => List.mem_cons_of_mem _ (List.mem_append_right _ h)) (List.mem_of_getElem? (i := 3) rfl) rfl rfl dX10_orchard_12 rfl ?_
  refine vv_iconst (q := 16) X (1 : Int32) dX10_orchard_15 (by decide) rfl ?_
  refine vv_iconst (q := 17) X (0 : Int32) dX10_orchard_16 (by decide) rfl ?_
  obtain ⟨hin3, h⟩ := h
  refine vv_iast (q := 18) X 2 2 (Nat.le_of_ble_eq_true rfl) (fun _ => rfl) hin3 dX10_orchard_17 rfl ?_
  refine vv_nm (fun σ4 hσ4 => ?_)
  have h := h σ4 hσ4
  refine vv_aload_n (q := 19) X 0 dX10_orchard_18 rfl rfl rfl ?_
  refine vv_getf (q := 22) (ref := "HalfLaddersModel") (C := RX10) (T := TX10) (N := 27) X 0 10 9 (Nat.le_of_ble_eq_true rfl) rfl rfl (Nat.le_of_ble_eq_true rfl) (fun _ h => List.mem_cons_of_mem _ (List.mem_append_right _ h)) (List.mem_of_getElem? (i := 4) rfl) rfl rfl dX10_orchard_19 rfl ?_
  refine vv_iconst (q := 23) X (1 : Int32) dX10_orchard_22 (by decide) rfl ?_
  refine vv_iconst (q := 24) X (0 : Int32) dX10_orchard_23 (by decide) rfl ?_
  obtain ⟨hin5, h⟩ := h
  refine vv_iast (q := 25) X 8 2 (Nat.le_of_ble_eq_true rfl) (fun _ => rfl) hin5 dX10_orchard_24 rfl ?_
  refine vv_nm (fun σ6 hσ6 => ?_)
  have h := h σ6 hσ6
  refine vv_bipush (q := 27) X (64 : Int32) dX10_orchard_25 (by decide) rfl ?_
  refine vv_istore_n (lv2 := [(1, .int (64 : Int32)), (0, .ref (ad 0))]) (q := 28) X dX10_orchard_27 rfl (Nat.le_of_ble_eq_true rfl) rfl rfl ?_
  obtain ⟨n77, h⟩ := h
  refine vv_sub (lv' := [(0, .ref (ad 0)), (1, .int (64 : Int32))]) [1, 0] rfl ?_
  refine twLX10_orchard_28 X hr  _ ?_ n77 σ6 (64 : Int32) h
  intro σ11 h
  refine vv_iconst (q := 49) X (0 : Int32) dX10_orchard_48 (by decide) rfl ?_
  refine vv_istore_n (lv2 := [(1, .int (0 : Int32)), (0, .ref (ad 0))]) (q := 50) X dX10_orchard_49 rfl (Nat.le_of_ble_eq_true rfl) rfl rfl ?_
  refine vv_aload_n (q := 51) X 1 dX10_orchard_50 rfl rfl rfl ?_
  refine vv_cVv (q := 54) (C := RX10) X 0 10 [] (kX10_next l D X.2.2.1 h) (cwV 0 X.1.2.2.2.2 gX10_orchard_X10_next rfl rfl rfl (by decide +kernel) ⟨Nat.le_of_ble_eq_true rfl, Nat.le_of_ble_eq_true rfl⟩) (Nat.le_of_ble_eq_true rfl) rfl rfl rfl rfl (Nat.le_of_ble_eq_true rfl) dX10_orchard_51 rfl (fun σ12 h => ?_)
  obtain ⟨n76, h⟩ := h
  refine vv_sub (lv' := [(0, .ref (ad 0)), (1, .int (0 : Int32))]) [1, 0] rfl ?_
  refine twLX10_orchard_54 X hr  _ ?_ n76 σ12 (0 : Int32) h
  intro σ18 y17 h
  refine vv_aload_n (q := 82) X 0 dX10_orchard_81 rfl rfl rfl ?_
  refine vv_getf (q := 85) (ref := "HalfLaddersModel") (C := RX10) (T := TX10) (N := 27) X 0 10 17 (Nat.le_of_ble_eq_true rfl) rfl rfl (Nat.le_of_ble_eq_true rfl) (fun _ h => List.mem_cons_of_mem _ (List.mem_append_right _ h)) (List.mem_of_getElem? (i := 2) rfl) rfl rfl dX10_orchard_82 rfl ?_
  refine vv_bipush (q := 87) X (-9 : Int32) dX10_orchard_85 (by decide) rfl ?_
  refine vv_icmp_eq (q := 90) X 98 dX10_orchard_87 (by decide) rfl (fun c19 => ?_) (fun c19 => ?_)
  · have h := h.1 c19
    refine vv_aload_n (q := 99) X 0 dX10_orchard_98 rfl rfl rfl ?_
    refine vv_getf (q := 102) (ref := "HalfLaddersModel") (C := RX10) (T := TX10) (N := 27) X 0 10 3 (Nat.le_of_ble_eq_true rfl) rfl rfl (Nat.le_of_ble_eq_true rfl) (fun _ h => List.mem_cons_of_mem _ (List.mem_append_right _ h)) (List.mem_of_getElem? (i := 3) rfl) rfl rfl dX10_orchard_99 rfl ?_
    refine vv_iconst (q := 103) X (0 : Int32) dX10_orchard_102 (by decide) rfl ?_
    refine vv_aload_n (q := 104) X 0 dX10_orchard_103 rfl rfl rfl ?_
    refine vv_getf (q := 107) (ref := "HalfLaddersModel") (C := RX10) (T := TX10) (N := 27) X 0 10 3 (Nat.le_of_ble_eq_true rfl) rfl rfl (Nat.le_of_ble_eq_true rfl) (fun _ h => List.mem_cons_of_mem _ (List.mem_append_right _ h)) (List.mem_of_getElem? (i := 3) rfl) rfl rfl dX10_orchard_104 rfl ?_
    refine vv_iconst (q := 108) X (1 : Int32) dX10_orchard_107 (by decide) rfl ?_
    obtain ⟨hin20, h⟩ := h
    refine vv_iald (q := 109) X 2 2 (Nat.le_of_ble_eq_true rfl) (fun _ => rfl) hin20 dX10_orchard_108 rfl ?_
    obtain ⟨hin21, h⟩ := h
    refine vv_iast (q := 110) X 2 2 (Nat.le_of_ble_eq_true rfl) (fun _ => rfl) hin21 dX10_orchard_109 rfl ?_
    refine vv_nm (fun σ22 hσ22 => ?_)
    have h := h σ22 hσ22
    refine vv_aload_n (q := 111) X 0 dX10_orchard_110 rfl rfl rfl ?_
    refine vv_getf (q := 114) (ref := "HalfLaddersModel") (C := RX10) (T := TX10) (N := 27) X 0 10 9 (Nat.le_of_ble_eq_true rfl) rfl rfl (Nat.le_of_ble_eq_true rfl) (fun _ h => List.mem_cons_of_mem _ (List.mem_append_right _ h)) (List.mem_of_getElem? (i := 4) rfl) rfl rfl dX10_orchard_111 rfl ?_
    refine vv_iconst (q := 115) X (0 : Int32) dX10_orchard_114 (by decide) rfl ?_
    refine vv_aload_n (q := 116) X 0 dX10_orchard_115 rfl rfl rfl ?_
    refine vv_getf (q := 119) (ref := "HalfLaddersModel") (C := RX10) (T := TX10) (N := 27) X 0 10 9 (Nat.le_of_ble_eq_true rfl) rfl rfl (Nat.le_of_ble_eq_true rfl) (fun _ h => List.mem_cons_of_mem _ (List.mem_append_right _ h)) (List.mem_of_getElem? (i := 4) rfl) rfl rfl dX10_orchard_116 rfl ?_
    refine vv_iconst (q := 120) X (1 : Int32) dX10_orchard_119 (by decide) rfl ?_
    obtain ⟨hin23, h⟩ := h
    refine vv_iald (q := 121) X 8 2 (Nat.le_of_ble_eq_true rfl) (fun _ => rfl) hin23 dX10_orchard_120 rfl ?_
    obtain ⟨hin24, h⟩ := h
    refine vv_iast (q := 122) X 8 2 (Nat.le_of_ble_eq_true rfl) (fun _ => rfl) hin24 dX10_orchard_121 rfl ?_
    refine vv_nm (fun σ25 hσ25 => ?_)
    have h := h σ25 hσ25
    refine vv_iconst (q := 123) X (0 : Int32) dX10_orchard_122 (by decide) rfl ?_
    refine vv_istore_n (lv2 := [(2, .int (0 : Int32)), (0, .ref (ad 0)), (1, .int y17)]) (q := 124) X dX10_orchard_123 rfl (Nat.le_of_ble_eq_true rfl) rfl rfl ?_
    obtain ⟨n75, h⟩ := h
    refine vv_sub (lv' := [(0, .ref (ad 0)), (1, .int y17), (2, .int (0 : Int32))]) [1, 2, 0] rfl ?_
    refine twLX10_orchard_124 X hr y17  _ ?_ n75 σ25 (0 : Int32) h
    intro σ40 h
    refine vv_iconst (q := 197) X (0 : Int32) dX10_orchard_196 (by decide) rfl ?_
    refine vv_istore_n (lv2 := [(2, .int (0 : Int32)), (0, .ref (ad 0)), (1, .int y17)]) (q := 198) X dX10_orchard_197 rfl (Nat.le_of_ble_eq_true rfl) rfl rfl ?_
    obtain ⟨n74, h⟩ := h
    refine vv_sub (lv' := [(0, .ref (ad 0)), (1, .int y17), (2, .int (0 : Int32))]) [1, 2, 0] rfl ?_
    refine twLX10_orchard_198 X hr y17  _ ?_ n74 σ40 (0 : Int32) h
    intro σ46 h
    refine vv_iconst (q := 226) X (0 : Int32) dX10_orchard_225 (by decide) rfl ?_
    refine vv_istore_n (lv2 := [(2, .int (0 : Int32)), (0, .ref (ad 0)), (1, .int y17)]) (q := 227) X dX10_orchard_226 rfl (Nat.le_of_ble_eq_true rfl) rfl rfl ?_
    obtain ⟨n73, h⟩ := h
    refine vv_sub (lv' := [(0, .ref (ad 0)), (1, .int y17), (2, .int (0 : Int32))]) [1, 2, 0] rfl ?_
    refine twLX10_orchard_227 X hr y17  _ ?_ n73 σ46 (0 : Int32) h
    intro σ58 h
    refine vv_aload_n (q := 281) X 0 dX10_orchard_280 rfl rfl rfl ?_
    refine vv_cVv (q := 284) (C := RX10) X 0 10 [] (kX10_begin l D X.2.2.1 h) (cwV 0 X.1.2.2.2.2 gX10_orchard_X10_begin rfl rfl rfl (by decide +kernel) ⟨Nat.le_of_ble_eq_true rfl, Nat.le_of_ble_eq_true rfl⟩) (Nat.le_of_ble_eq_true rfl) rfl rfl rfl rfl (Nat.le_of_ble_eq_true rfl) dX10_orchard_281 rfl (fun σ59 h => ?_)
    refine vv_iconst (q := 285) X (0 : Int32) dX10_orchard_284 (by decide) rfl ?_
    refine vv_istore_n (lv2 := [(2, .int (0 : Int32)), (0, .ref (ad 0)), (1, .int y17)]) (q := 286) X dX10_orchard_285 rfl (Nat.le_of_ble_eq_true rfl) rfl rfl ?_
    obtain ⟨n72, h⟩ := h
    refine vv_sub (lv' := [(0, .ref (ad 0)), (1, .int y17), (2, .int (0 : Int32))]) [1, 2, 0] rfl ?_
    refine twLX10_orchard_286 X hr y17  _ ?_ n72 σ59 (0 : Int32) h
    intro σ66 h
    refine vv_aload_n (q := 318) X 0 dX10_orchard_317 rfl rfl rfl ?_
    refine vv_getf (q := 321) (ref := "HalfLaddersModel") (C := RX10) (T := TX10) (N := 27) X 0 10 19 (Nat.le_of_ble_eq_true rfl) rfl rfl (Nat.le_of_ble_eq_true rfl) (fun _ h => List.mem_cons_of_mem _ (List.mem_append_right _ h)) (List.mem_of_getElem? (i := 15) rfl) rfl rfl dX10_orchard_318 rfl ?_
    refine vv_iconst (q := 322) X (0 : Int32) dX10_orchard_321 (by decide) rfl ?_
    refine vv_iconst (q := 323) X (0 : Int32) dX10_orchard_322 (by decide) rfl ?_
    obtain ⟨hin67, h⟩ := h
    refine vv_zast (q := 324) X 13 2 (Nat.le_of_ble_eq_true rfl) (fun _ => rfl) hin67 dX10_orchard_323 rfl ?_
    refine vv_nm (fun σ68 hσ68 => ?_)
    have h := h σ68 hσ68
    refine vv_aload_n (q := 325) X 0 dX10_orchard_324 rfl rfl rfl ?_
    refine vv_getf (q := 328) (ref := "HalfLaddersModel") (C := RX10) (T := TX10) (N := 27) X 0 10 19 (Nat.le_of_ble_eq_true rfl) rfl rfl (Nat.le_of_ble_eq_true rfl) (fun _ h => List.mem_cons_of_mem _ (List.mem_append_right _ h)) (List.mem_of_getElem? (i := 15) rfl) rfl rfl dX10_orchard_325 rfl ?_
    refine vv_iconst (q := 329) X (1 : Int32) dX10_orchard_328 (by decide) rfl ?_
    refine vv_iconst (q := 330) X (0 : Int32) dX10_orchard_329 (by decide) rfl ?_
    obtain ⟨hin69, h⟩ := h
    refine vv_zast (q := 331) X 13 2 (Nat.le_of_ble_eq_true rfl) (fun _ => rfl) hin69 dX10_orchard_330 rfl ?_
    refine vv_nm (fun σ70 hσ70 => ?_)
    have h := h σ70 hσ70
    refine vv_aload_n (q := 332) X 0 dX10_orchard_331 rfl rfl rfl ?_
    refine vv_iconst (q := 333) X (0 : Int32) dX10_orchard_332 (by decide) rfl ?_
    refine vv_putf (q := 336) (ref := "HalfLaddersModel") (C := RX10) (T := TX10) (N := 27) X 0 10 2 tyX10 tyX10_ok nmX10 (Nat.le_of_ble_eq_true rfl) rfl rfl rfl (Nat.le_of_ble_eq_true rfl) rfl (fun _ h => List.mem_cons_of_mem _ (List.mem_append_right _ h)) (List.mem_of_getElem? (i := 16) rfl) rfl rfl rfl dX10_orchard_333 rfl ?_
    refine vv_nm (fun σ71 hσ71 => ?_)
    have h := h σ71 hσ71
    refine vv_iload_n (q := 337) X 1 dX10_orchard_336 rfl rfl rfl ?_
    exact vv_iret X hr dX10_orchard_337 h
  · have h := h.2 c19
    refine vv_bipush (q := 92) X (-10 : Int32) dX10_orchard_90 (by decide) rfl ?_
    refine vv_aload_n (q := 93) X 0 dX10_orchard_92 rfl rfl rfl ?_
    refine vv_getf (q := 96) (ref := "HalfLaddersModel") (C := RX10) (T := TX10) (N := 27) X 0 10 17 (Nat.le_of_ble_eq_true rfl) rfl rfl (Nat.le_of_ble_eq_true rfl) (fun _ h => List.mem_cons_of_mem _ (List.mem_append_right _ h)) (List.mem_of_getElem? (i := 2) rfl) rfl rfl dX10_orchard_93 rfl ?_
    refine vv_isub (q := 97) X dX10_orchard_96 rfl ?_
    exact vv_iret X hr dX10_orchard_97 h

