/-! X9_type: type(JI)I -/
def rmX9_type : Room := { frames := 1, cells := 0, slots := 0, locals := 21 }
def wLX9_type_32 (f1 : Int64)  (K59 : St → Prop) (P : Int32 → St → Prop) : Nat → St → Int32 → Prop
  | 0, _, _ => False
  | n + 1, σ, x4 =>
    (x4 < 0 →
    K59 σ) ∧
    (¬ x4 < 0 →
    wX8_add σ ((((f1.toUInt64 >>> (((8 : Int32) * x4).toInt64.toUInt64 &&& Int64.toUInt64 63)).toInt64).toInt32).toInt8.toInt32) (fun σ7 : St =>
    ∀ z8 : Int32, z8 = x4 + (-1 : Int32) →
    wLX9_type_32 f1 K59 P n σ7 z8))

set_option maxHeartbeats 4000000 in
set_option maxRecDepth 100000 in
theorem twLX9_type_32 {p : Program} {l : Launch} {e : Env} {s : State} {m : MethodId} {args : Array Value} {below : List Frame} {meth : Method} {c : Code} {D : va_G} {cy : Nat → ClassId} {ad : Nat → Nat} {zb : Nat → Nat} (X : XX p s m args meth c cX9_type 5 D cy (wC ad cy zb) wsX9_type RX9) (hr : meth.sig.returnType = (some .int)) (f1 : Int64)   (K59 : St → Prop) {P : Int32 → St → Prop} (hK59 : ∀ (σ : St), K59 σ → VV p l e rmX9_type s m args below meth c (MQ below (va_Qi P (xPost D (wC ad cy zb)) (xA (wC ad cy zb))) args s 0 0 (xA (wC ad cy zb))) 5 D (wC ad cy zb) σ 59 [(0, .ref (ad 0))] []) : ∀ (n : Nat) (σ : St) (x4 : Int32), wLX9_type_32 f1 K59 P n σ x4 → VV p l e rmX9_type s m args below meth c (MQ below (va_Qi P (xPost D (wC ad cy zb)) (xA (wC ad cy zb))) args s 0 0 (xA (wC ad cy zb))) 5 D (wC ad cy zb) σ 32 [(0, .ref (ad 0)), (1, .long f1), (4, .int x4)] [] := by
  intro n
  induction n with
  | zero => intro σ x4 h; exact h.elim
  | succ n ih =>
    intro σ x4 h
    rw [wLX9_type_32] at h
    refine vv_iload (q := 34) X 2 dX9_type_32 rfl rfl ?_
    refine vv_if_lt (q := 37) X 59 dX9_type_34 (by decide) rfl (fun c6 => ?_) (fun c6 => ?_)
    · have h := h.1 c6
      refine vv_sub (lv' := [(0, .ref (ad 0))]) [0] rfl ?_
      exact hK59 σ h
    · have h := h.2 c6
      refine vv_aload_n (q := 38) X 0 dX9_type_37 rfl rfl rfl ?_
      refine vv_getf (q := 41) (ref := "HalfLadders") (C := RX9) (T := TX9) (N := 14) X 0 9 0 (Nat.le_of_ble_eq_true rfl) rfl rfl (Nat.le_of_ble_eq_true rfl) (fun _ h => List.mem_cons_of_mem _ (List.mem_append_left _ (List.mem_append_right _ h))) (List.mem_of_getElem? (i := 1) rfl) rfl rfl dX9_type_38 rfl ?_
      refine vv_lload_n (q := 42) X 1 dX9_type_41 rfl rfl rfl ?_
      refine vv_bipush (q := 44) X (8 : Int32) dX9_type_42 (by decide) rfl ?_
      refine vv_iload (q := 46) X 2 dX9_type_44 rfl rfl ?_
      refine vv_imul (q := 47) X dX9_type_46 rfl ?_
      refine vv_lushr (q := 48) X dX9_type_47 rfl ?_
      refine vv_l2i (q := 49) X dX9_type_48 rfl ?_
      refine vv_i2b (q := 50) X dX9_type_49 rfl ?_
      refine vv_cVv (q := 53) (C := RX8) X 1 8 [.int ((((f1.toUInt64 >>> (((8 : Int32) * x4).toInt64.toUInt64 &&& Int64.toUInt64 63)).toInt64).toInt32).toInt8.toInt32)] (kX8_add l D X.2.2.1 h) (cwV 1 X.1.2.2.2.2 gX9_type_X8_add rfl rfl rfl (by decide +kernel) ⟨Nat.le_of_ble_eq_true rfl, Nat.le_of_ble_eq_true rfl⟩) (Nat.le_of_ble_eq_true rfl) rfl rfl rfl rfl (Nat.le_of_ble_eq_true rfl) dX9_type_50 rfl (fun σ7 h => ?_)
      obtain ⟨z8, hz8⟩ : ∃ y : Int32, y = x4 + (-1 : Int32) := ⟨_, rfl⟩
      have h := h z8 hz8
      refine vv_iinc (v := z8) (lv2 := [(4, .int z8), (0, .ref (ad 0)), (1, .long f1)]) (q := 56) X 2 dX9_type_53 rfl (by rw [hz8]; rfl) (Nat.le_of_ble_eq_true rfl) rfl rfl ?_
      refine vv_goto X 32 dX9_type_56 (by decide) ?_
      refine vv_sub (lv' := [(0, .ref (ad 0)), (1, .long f1), (4, .int z8)]) [1, 2, 0] rfl ?_
      exact ih σ7 z8 h

def wX9_type (σ : St) (a1 : Int64) (a3 : Int32) (P : Int32 → St → Prop) : Prop :=
(a3 < (1 : Int32) →
P (-1 : Int32) σ) ∧
(¬ a3 < (1 : Int32) →
(a3 ≤ (8 : Int32) →
wX8_room σ  (fun r3 : Int32 =>
(a3 ≤ r3 →
∀ z5 : Int32, z5 = (a3 - (1 : Int32)) →
∃ n10 : Nat, wLX9_type_32 a1 (fun (σ9 : St) =>
P (σ9.1 1 1) σ9) P n10 σ z5) ∧
(¬ a3 ≤ r3 →
P (-3 : Int32) σ))) ∧
(¬ a3 ≤ (8 : Int32) →
P (-1 : Int32) σ))

set_option maxHeartbeats 8000000 in
set_option maxRecDepth 100000 in
theorem kX9_type (l : Launch) (D : va_G) {cy : Nat → ClassId} {ad : Nat → Nat} {zb : Nat → Nat} (hw : xOk (wC ad cy zb)) {σ : St} {a1 : Int64} {a3 : Int32} {P : Int32 → St → Prop} (h : wX9_type σ a1 a3 P) : MI l yX9_type wsX9_type rmX9_type D cy (wC ad cy zb) [.ref (ad 0), .long a1, .int a3] σ P := by
  unfold MI
  refine vv_met (cc := cX9_type) (maxL := 5) (ret := (some .int)) hw (by decide +kernel) rfl [.ref (ad 0), .long a1, .int a3] (Nat.le_of_ble_eq_true rfl) ?_
  intro p e s m args below meth c X hr
  have X : XX p s m args meth c cX9_type 5 D cy (wC ad cy zb) wsX9_type RX9 := X
  refine vv_sub (lv' := [(0, .ref (ad 0)), (1, .long a1), (3, .int a3)]) [0, 1, 2] rfl ?_
  rw [wX9_type] at h
  refine vv_iload_n (q := 1) X 2 dX9_type_0 rfl rfl rfl ?_
  refine vv_iconst (q := 2) X (1 : Int32) dX9_type_1 (by decide) rfl ?_
  refine vv_icmp_lt (q := 5) X 11 dX9_type_2 (by decide) rfl (fun c1 => ?_) (fun c1 => ?_)
  · have h := h.1 c1
    refine vv_iconst (q := 12) X (-1 : Int32) dX9_type_11 (by decide) rfl ?_
    exact vv_iret X hr dX9_type_12 h
  · have h := h.2 c1
    refine vv_iload_n (q := 6) X 2 dX9_type_5 rfl rfl rfl ?_
    refine vv_bipush (q := 8) X (8 : Int32) dX9_type_6 (by decide) rfl ?_
    refine vv_icmp_le (q := 11) X 13 dX9_type_8 (by decide) rfl (fun c2 => ?_) (fun c2 => ?_)
    · have h := h.1 c2
      refine vv_iload_n (q := 14) X 2 dX9_type_13 rfl rfl rfl ?_
      refine vv_aload_n (q := 15) X 0 dX9_type_14 rfl rfl rfl ?_
      refine vv_getf (q := 18) (ref := "HalfLadders") (C := RX9) (T := TX9) (N := 14) X 0 9 0 (Nat.le_of_ble_eq_true rfl) rfl rfl (Nat.le_of_ble_eq_true rfl) (fun _ h => List.mem_cons_of_mem _ (List.mem_append_left _ (List.mem_append_right _ h))) (List.mem_of_getElem? (i := 1) rfl) rfl rfl dX9_type_15 rfl ?_
      refine vv_cVi (q := 21) (C := RX8) X 1 8 [] (kX8_room l D X.2.2.1 h) (cwV 0 X.1.2.2.2.2 gX9_type_X8_room rfl rfl rfl (by decide +kernel) ⟨Nat.le_of_ble_eq_true rfl, Nat.le_of_ble_eq_true rfl⟩) (Nat.le_of_ble_eq_true rfl) rfl rfl rfl rfl (Nat.le_of_ble_eq_true rfl) dX9_type_18 rfl (fun r3 u9 h9 => ?_)
      obtain ⟨h9, hu9⟩ := h9
      subst u9
      have h := h9
      refine vv_icmp_le (q := 24) X 27 dX9_type_21 (by decide) rfl (fun c4 => ?_) (fun c4 => ?_)
      · have h := h.1 c4
        refine vv_iload_n (q := 28) X 2 dX9_type_27 rfl rfl rfl ?_
        refine vv_iconst (q := 29) X (1 : Int32) dX9_type_28 (by decide) rfl ?_
        refine vv_isub (q := 30) X dX9_type_29 rfl ?_
        refine vv_topi (fun z5 hz5 => ?_)
        have h := h z5 hz5
        refine vv_istore (lv2 := [(4, .int z5), (0, .ref (ad 0)), (1, .long a1), (3, .int a3)]) (q := 32) X dX9_type_30 (Nat.le_of_ble_eq_true rfl) rfl rfl ?_
        obtain ⟨n10, h⟩ := h
        refine vv_sub (lv' := [(0, .ref (ad 0)), (1, .long a1), (4, .int z5)]) [1, 2, 0] rfl ?_
        refine twLX9_type_32 X hr a1  _ ?_ n10 σ z5 h
        intro σ9 h
        refine vv_aload_n (q := 60) X 0 dX9_type_59 rfl rfl rfl ?_
        refine vv_getf (q := 63) (ref := "HalfLadders") (C := RX9) (T := TX9) (N := 14) X 0 9 0 (Nat.le_of_ble_eq_true rfl) rfl rfl (Nat.le_of_ble_eq_true rfl) (fun _ h => List.mem_cons_of_mem _ (List.mem_append_left _ (List.mem_append_right _ h))) (List.mem_of_getElem? (i := 1) rfl) rfl rfl dX9_type_60 rfl ?_
        refine vv_getf (q := 66) (ref := "HalfLadders$Text") (C := RX8) (T := TX8) (N := 5) X 1 8 1 (Nat.le_of_ble_eq_true rfl) rfl rfl (Nat.le_of_ble_eq_true rfl) (fun _ h => List.mem_cons_of_mem _ (List.mem_append_right _ h)) (List.mem_of_getElem? (i := 2) rfl) rfl rfl dX9_type_63 rfl ?_
        exact vv_iret X hr dX9_type_66 h
      · have h := h.2 c4
        refine vv_bipush (q := 26) X (-3 : Int32) dX9_type_24 (by decide) rfl ?_
        exact vv_iret X hr dX9_type_26 h
    · have h := h.2 c2
      refine vv_iconst (q := 12) X (-1 : Int32) dX9_type_11 (by decide) rfl ?_
      exact vv_iret X hr dX9_type_12 h

/-! X9_clear: clear()I -/
def rmX9_clear : Room := { frames := 0, cells := 0, slots := 0, locals := 0 }
def wX9_clear (σ : St)  (P : Int32 → St → Prop) : Prop :=
∀ z1 : Int32, z1 = (σ.1 1 1) →
∀ σ2 : St, σ2 = sI σ 1 1 (0 : Int32) →
P z1 σ2

set_option maxHeartbeats 8000000 in
set_option maxRecDepth 100000 in
theorem kX9_clear (l : Launch) (D : va_G) {cy : Nat → ClassId} {ad : Nat → Nat} {zb : Nat → Nat} (hw : xOk (wC ad cy zb)) {σ : St}  {P : Int32 → St → Prop} (h : wX9_clear σ  P) : MI l yX9_clear wsX9_clear rmX9_clear D cy (wC ad cy zb) [.ref (ad 0)] σ P := by
  unfold MI
  refine vv_met (cc := cX9_clear) (maxL := 2) (ret := (some .int)) hw (by decide +kernel) rfl [.ref (ad 0)] (Nat.le_of_ble_eq_true rfl) ?_
  intro p e s m args below meth c X hr
  have X : XX p s m args meth c cX9_clear 2 D cy (wC ad cy zb) wsX9_clear RX9 := X
  refine vv_sub (lv' := [(0, .ref (ad 0))]) [0] rfl ?_
  rw [wX9_clear] at h
  refine vv_aload_n (q := 1) X 0 dX9_clear_0 rfl rfl rfl ?_
  refine vv_getf (q := 4) (ref := "HalfLadders") (C := RX9) (T := TX9) (N := 14) X 0 9 0 (Nat.le_of_ble_eq_true rfl) rfl rfl (Nat.le_of_ble_eq_true rfl) (fun _ h => List.mem_cons_of_mem _ (List.mem_append_left _ (List.mem_append_right _ h))) (List.mem_of_getElem? (i := 1) rfl) rfl rfl dX9_clear_1 rfl ?_
  refine vv_getf (q := 7) (ref := "HalfLadders$Text") (C := RX8) (T := TX8) (N := 5) X 1 8 1 (Nat.le_of_ble_eq_true rfl) rfl rfl (Nat.le_of_ble_eq_true rfl) (fun _ h => List.mem_cons_of_mem _ (List.mem_append_right _ h)) (List.mem_of_getElem? (i := 2) rfl) rfl rfl dX9_clear_4 rfl ?_
  refine vv_topi (fun z1 hz1 => ?_)
  have h := h z1 hz1
  refine vv_istore_n (lv2 := [(1, .int z1), (0, .ref (ad 0))]) (q := 8) X dX9_clear_7 rfl (Nat.le_of_ble_eq_true rfl) rfl rfl ?_
  refine vv_aload_n (q := 9) X 1 dX9_clear_8 rfl rfl rfl ?_
  refine vv_getf (q := 12) (ref := "HalfLadders") (C := RX9) (T := TX9) (N := 14) X 0 9 0 (Nat.le_of_ble_eq_true rfl) rfl rfl (Nat.le_of_ble_eq_true rfl) (fun _ h => List.mem_cons_of_mem _ (List.mem_append_left _ (List.mem_append_right _ h))) (List.mem_of_getElem? (i := 1) rfl) rfl rfl dX9_clear_9 rfl ?_
  refine vv_iconst (q := 13) X (0 : Int32) dX9_clear_12 (by decide) rfl ?_
  refine vv_putf (q := 16) (ref := "HalfLadders$Text") (C := RX8) (T := TX8) (N := 5) X 1 8 1 tyX8 tyX8_ok nmX8 (Nat.le_of_ble_eq_true rfl) rfl rfl rfl (Nat.le_of_ble_eq_true rfl) rfl (fun _ h => List.mem_cons_of_mem _ (List.mem_append_right _ h)) (List.mem_of_getElem? (i := 2) rfl) rfl rfl rfl dX9_clear_13 rfl ?_
  refine vv_nm (fun σ2 hσ2 => ?_)
  have h := h σ2 hσ2
  refine vv_iload_n (q := 17) X 0 dX9_clear_16 rfl rfl rfl ?_
  exact vv_iret X hr dX9_clear_17 h

/-! X9_startAnew: startAnew()V -/
def rmX9_startAnew : Room := { frames := 24, cells := 0, slots := 0, locals := 597 }
def wLX9_startAnew_72   (K90 : St → Prop) (P : St → Prop) : Nat → St → Int32 → Prop
  | 0, _, _ => False
  | n + 1, σ, x1 =>
    ((2 : Int32) ≤ x1 →
    K90 σ) ∧
    (¬ (2 : Int32) ≤ x1 →
    vp_in x1 2 ∧
    ∀ σ14 : St, σ14 = sI σ 70 x1.toNatClampNeg (vp_nar .boolean (0 : Int32)) →
    ∀ z15 : Int32, z15 = x1 + (1 : Int32) →
    wLX9_startAnew_72 K90 P n σ14 z15)

set_option maxHeartbeats 4000000 in
set_option maxRecDepth 100000 in
theorem twLX9_startAnew_72 {p : Program} {l : Launch} {e : Env} {s : State} {m : MethodId} {args : Array Value} {below : List Frame} {meth : Method} {c : Code} {D : va_G} {cy : Nat → ClassId} {ad : Nat → Nat} {zb : Nat → Nat} (X : XX p s m args meth c cX9_startAnew 2 D cy (wC ad cy zb) wsX9_startAnew RX9) (hr : meth.sig.returnType = none)    (K90 : St → Prop) {P : St → Prop} (hK90 : ∀ (σ : St), K90 σ → VV p l e rmX9_startAnew s m args below meth c (MQ below (va_Qv P (xPost D (wC ad cy zb)) (xA (wC ad cy zb))) args s 0 0 (xA (wC ad cy zb))) 2 D (wC ad cy zb) σ 90 [] []) : ∀ (n : Nat) (σ : St) (x1 : Int32), wLX9_startAnew_72 K90 P n σ x1 → VV p l e rmX9_startAnew s m args below meth c (MQ below (va_Qv P (xPost D (wC ad cy zb)) (xA (wC ad cy zb))) args s 0 0 (xA (wC ad cy zb))) 2 D (wC ad cy zb) σ 72 [(0, .ref (ad 0)), (1, .int x1)] [] := by
  intro n
  induction n with
  | zero => intro σ x1 h; exact h.elim
  | succ n ih =>
    intro σ x1 h
    rw [wLX9_startAnew_72] at h
    refine vv_iload_n (q := 73) X 1 dX9_startAnew_72 rfl rfl rfl ?_
    refine vv_iconst (q := 74) X (2 : Int32) dX9_startAnew_73 (by decide) rfl ?_
    refine vv_icmp_ge (q := 77) X 90 dX9_startAnew_74 (by decide) rfl (fun c12 => ?_) (fun c12 => ?_)
    · have h := h.1 c12
      refine vv_sub (lv' := []) [] rfl ?_
      exact hK90 σ h
    · have h := h.2 c12
      refine vv_aload_n (q := 78) X 0 dX9_startAnew_77 rfl rfl rfl ?_
      refine vv_getf (q := 81) (ref := "HalfLadders") (C := RX9) (T := TX9) (N := 14) X 0 9 12 (Nat.le_of_ble_eq_true rfl) rfl rfl (Nat.le_of_ble_eq_true rfl) (fun _ h => List.mem_cons_of_mem _ (List.mem_append_left _ (List.mem_append_left _ (List.mem_append_left _ (List.mem_append_left _ (List.mem_append_left _ (List.mem_append_left _ (List.mem_append_right _ h)))))))) (List.mem_of_getElem? (i := 7) rfl) rfl rfl dX9_startAnew_78 rfl ?_
      refine vv_iload_n (q := 82) X 1 dX9_startAnew_81 rfl rfl rfl ?_
      refine vv_iconst (q := 83) X (0 : Int32) dX9_startAnew_82 (by decide) rfl ?_
      obtain ⟨hin13, h⟩ := h
      refine vv_zast (q := 84) X 70 2 (Nat.le_of_ble_eq_true rfl) (fun _ => rfl) hin13 dX9_startAnew_83 rfl ?_
      refine vv_nm (fun σ14 hσ14 => ?_)
      have h := h σ14 hσ14
      obtain ⟨z15, hz15⟩ : ∃ y : Int32, y = x1 + (1 : Int32) := ⟨_, rfl⟩
      have h := h z15 hz15
      refine vv_iinc (v := z15) (lv2 := [(1, .int z15), (0, .ref (ad 0))]) (q := 87) X 1 dX9_startAnew_84 rfl (by rw [hz15]; rfl) (Nat.le_of_ble_eq_true rfl) rfl rfl ?_
      refine vv_goto X 72 dX9_startAnew_87 (by decide) ?_
      refine vv_sub (lv' := [(0, .ref (ad 0)), (1, .int z15)]) [1, 0] rfl ?_
      exact ih σ14 z15 h

def wX9_startAnew (σ : St)  (P : St → Prop) : Prop :=
isO σ.2.2.1 ∧
wX4_list σ (σ.2.2.1) (fun σ2 : St =>
isO σ2.2.2.1 ∧
wX7_reckon σ2 (σ2.2.2.1) (fun σ4 : St =>
isO σ4.2.2.1 ∧
wX0_reckon σ4 (σ4.2.2.1) (fun σ6 : St =>
isO σ6.2.2.1 ∧
wX1_reckon σ6 (σ6.2.2.1) (fun σ8 : St =>
wX2_begin σ8 65 (fun σ9 : St =>
isO σ9.2.2.1 ∧
wX2_bearAsTold σ9 65 (σ9.2.2.1) (fun σ11 : St =>
∃ n17 : Nat, wLX9_startAnew_72 (fun (σ16 : St) =>
P σ16) P n17 σ11 (0 : Int32)))))))

set_option maxHeartbeats 8000000 in
set_option maxRecDepth 100000 in
theorem kX9_startAnew (l : Launch) (D : va_G) {cy : Nat → ClassId} {ad : Nat → Nat} {zb : Nat → Nat} (hw : xOk (wC ad cy zb)) {σ : St}  {P : St → Prop} (h : wX9_startAnew σ  P) : MV l yX9_startAnew wsX9_startAnew rmX9_startAnew D cy (wC ad cy zb) [.ref (ad 0)] σ P := by
  unfold MV
  refine vv_met (cc := cX9_startAnew) (maxL := 2) (ret := none) hw (by decide +kernel) rfl [.ref (ad 0)] (Nat.le_of_ble_eq_true rfl) ?_
  intro p e s m args below meth c X hr
  have X : XX p s m args meth c cX9_startAnew 2 D cy (wC ad cy zb) wsX9_startAnew RX9 := X
  refine vv_sub (lv' := [(0, .ref (ad 0))]) [0] rfl ?_
  rw [wX9_startAnew] at h
  refine vv_aload_n (q := 1) X 0 dX9_startAnew_0 rfl rfl rfl ?_
  refine vv_getf (q := 4) (ref := "HalfLadders") (C := RX9) (T := TX9) (N := 14) X 0 9 4 (Nat.le_of_ble_eq_true rfl) rfl rfl (Nat.le_of_ble_eq_true rfl) (fun _ h => List.mem_cons_of_mem _ (List.mem_append_left _ (List.mem_append_left _ (List.mem_append_left _ (List.mem_append_left _ (List.mem_append_left _ (List.mem_append_left _ (List.mem_append_right _ h)))))))) (List.mem_of_getElem? (i := 1) rfl) rfl rfl dX9_startAnew_1 rfl ?_
  refine vv_aload_n (q := 5) X 0 dX9_startAnew_4 rfl rfl rfl ?_
  obtain ⟨ho1, h⟩ := h
  refine vv_getf (q := 8) (ref := "HalfLadders") (C := RX9) (T := TX9) (N := 14) X 0 9 2 (Nat.le_of_ble_eq_true rfl) rfl rfl (Nat.le_of_ble_eq_true rfl) (fun _ h => List.mem_cons_of_mem _ (List.mem_append_left _ (List.mem_append_left _ (List.mem_append_left _ (List.mem_append_left _ (List.mem_append_left _ (List.mem_append_left _ (List.mem_append_right _ h)))))))) (List.mem_of_getElem? (i := 2) rfl) rfl rfl dX9_startAnew_5 rfl ?_
  refine vv_cVv (q := 11) (C := RX4) X 25 4 [.ref (ad (σ.2.2.1))] (kX4_list l D X.2.2.1 h) (cwV 1 X.1.2.2.2.2 gX9_startAnew_X4_list rfl rfl rfl (by decide +kernel) ⟨Nat.le_of_ble_eq_true rfl, Nat.le_of_ble_eq_true rfl⟩) (Nat.le_of_ble_eq_true rfl) rfl rfl rfl rfl (Nat.le_of_ble_eq_true rfl) dX9_startAnew_8 rfl (fun σ2 h => ?_)
  refine vv_aload_n (q := 12) X 0 dX9_startAnew_11 rfl rfl rfl ?_
  refine vv_getf (q := 15) (ref := "HalfLadders") (C := RX9) (T := TX9) (N := 14) X 0 9 5 (Nat.le_of_ble_eq_true rfl) rfl rfl (Nat.le_of_ble_eq_true rfl) (fun _ h => List.mem_cons_of_mem _ (List.mem_append_left _ (List.mem_append_left _ (List.mem_append_left _ (List.mem_append_left _ (List.mem_append_left _ (List.mem_append_left _ (List.mem_append_right _ h)))))))) (List.mem_of_getElem? (i := 3) rfl) rfl rfl dX9_startAnew_12 rfl ?_
  refine vv_aload_n (q := 16) X 0 dX9_startAnew_15 rfl rfl rfl ?_
  obtain ⟨ho3, h⟩ := h
  refine vv_getf (q := 19) (ref := "HalfLadders") (C := RX9) (T := TX9) (N := 14) X 0 9 2 (Nat.le_of_ble_eq_true rfl) rfl rfl (Nat.le_of_ble_eq_true rfl) (fun _ h => List.mem_cons_of_mem _ (List.mem_append_left _ (List.mem_append_left _ (List.mem_append_left _ (List.mem_append_left _ (List.mem_append_left _ (List.mem_append_left _ (List.mem_append_right _ h)))))))) (List.mem_of_getElem? (i := 2) rfl) rfl rfl dX9_startAnew_16 rfl ?_
  refine vv_aload_n (q := 20) X 0 dX9_startAnew_19 rfl rfl rfl ?_
  refine vv_getf (q := 23) (ref := "HalfLadders") (C := RX9) (T := TX9) (N := 14) X 0 9 4 (Nat.le_of_ble_eq_true rfl) rfl rfl (Nat.le_of_ble_eq_true rfl) (fun _ h => List.mem_cons_of_mem _ (List.mem_append_left _ (List.mem_append_left _ (List.mem_append_left _ (List.mem_append_left _ (List.mem_append_left _ (List.mem_append_left _ (List.mem_append_right _ h)))))))) (List.mem_of_getElem? (i := 1) rfl) rfl rfl dX9_startAnew_20 rfl ?_
  refine vv_cVv (q := 26) (C := RX7) X 32 7 [.ref (ad (σ2.2.2.1)), .ref (ad 25)] (kX7_reckon l D X.2.2.1 h) (cwV 2 X.1.2.2.2.2 gX9_startAnew_X7_reckon rfl rfl rfl (by decide +kernel) ⟨Nat.le_of_ble_eq_true rfl, Nat.le_of_ble_eq_true rfl⟩) (Nat.le_of_ble_eq_true rfl) rfl rfl rfl rfl (Nat.le_of_ble_eq_true rfl) dX9_startAnew_23 rfl (fun σ4 h => ?_)
  refine vv_aload_n (q := 27) X 0 dX9_startAnew_26 rfl rfl rfl ?_
  refine vv_getf (q := 30) (ref := "HalfLadders") (C := RX9) (T := TX9) (N := 14) X 0 9 6 (Nat.le_of_ble_eq_true rfl) rfl rfl (Nat.le_of_ble_eq_true rfl) (fun _ h => List.mem_cons_of_mem _ (List.mem_append_left _ (List.mem_append_left _ (List.mem_append_left _ (List.mem_append_left _ (List.mem_append_left _ (List.mem_append_left _ (List.mem_append_right _ h)))))))) (List.mem_of_getElem? (i := 4) rfl) rfl rfl dX9_startAnew_27 rfl ?_
  refine vv_aload_n (q := 31) X 0 dX9_startAnew_30 rfl rfl rfl ?_
  obtain ⟨ho5, h⟩ := h
  refine vv_getf (q := 34) (ref := "HalfLadders") (C := RX9) (T := TX9) (N := 14) X 0 9 2 (Nat.le_of_ble_eq_true rfl) rfl rfl (Nat.le_of_ble_eq_true rfl) (fun _ h => List.mem_cons_of_mem _ (List.mem_append_left _ (List.mem_append_left _ (List.mem_append_left _ (List.mem_append_left _ (List.mem_append_left _ (List.mem_append_left _ (List.mem_append_right _ h)))))))) (List.mem_of_getElem? (i := 2) rfl) rfl rfl dX9_startAnew_31 rfl ?_
  refine vv_cVv (q := 37) (C := RX0) X 34 0 [.ref (ad (σ4.2.2.1))] (kX0_reckon l D X.2.2.1 h) (cwV 1 X.1.2.2.2.2 gX9_startAnew_X0_reckon rfl rfl rfl (by decide +kernel) ⟨Nat.le_of_ble_eq_true rfl, Nat.le_of_ble_eq_true rfl⟩) (Nat.le_of_ble_eq_true rfl) rfl rfl rfl rfl (Nat.le_of_ble_eq_true rfl) dX9_startAnew_34 rfl (fun σ6 h => ?_)
  refine vv_aload_n (q := 38) X 0 dX9_startAnew_37 rfl rfl rfl ?_
  refine vv_getf (q := 41) (ref := "HalfLadders") (C := RX9) (T := TX9) (N := 14) X 0 9 7 (Nat.le_of_ble_eq_true rfl) rfl rfl (Nat.le_of_ble_eq_true rfl) (fun _ h => List.mem_cons_of_mem _ (List.mem_append_left _ (List.mem_append_left _ (List.mem_append_left _ (List.mem_append_left _ (List.mem_append_left _ (List.mem_append_left _ (List.mem_append_right _ h)))))))) (List.mem_of_getElem? (i := 5) rfl) rfl rfl dX9_startAnew_38 rfl ?_
  refine vv_aload_n (q := 42) X 0 dX9_startAnew_41 rfl rfl rfl ?_
  obtain ⟨ho7, h⟩ := h
  refine vv_getf (q := 45) (ref := "HalfLadders") (C := RX9) (T := TX9) (N := 14) X 0 9 2 (Nat.le_of_ble_eq_true rfl) rfl rfl (Nat.le_of_ble_eq_true rfl) (fun _ h => List.mem_cons_of_mem _ (List.mem_append_left _ (List.mem_append_left _ (List.mem_append_left _ (List.mem_append_left _ (List.mem_append_left _ (List.mem_append_left _ (List.mem_append_right _ h)))))))) (List.mem_of_getElem? (i := 2) rfl) rfl rfl dX9_startAnew_42 rfl ?_
  refine vv_aload_n (q := 46) X 0 dX9_startAnew_45 rfl rfl rfl ?_
  refine vv_getf (q := 49) (ref := "HalfLadders") (C := RX9) (T := TX9) (N := 14) X 0 9 4 (Nat.le_of_ble_eq_true rfl) rfl rfl (Nat.le_of_ble_eq_true rfl) (fun _ h => List.mem_cons_of_mem _ (List.mem_append_left _ (List.mem_append_left _ (List.mem_append_left _ (List.mem_append_left _ (List.mem_append_left _ (List.mem_append_left _ (List.mem_append_right _ h)))))))) (List.mem_of_getElem? (i := 1) rfl) rfl rfl dX9_startAnew_46 rfl ?_
  refine vv_cVv (q := 52) (C := RX1) X 37 1 [.ref (ad (σ6.2.2.1)), .ref (ad 25)] (kX1_reckon l D X.2.2.1 h) (cwV 2 X.1.2.2.2.2 gX9_startAnew_X1_reckon rfl rfl rfl (by decide +kernel) ⟨Nat.le_of_ble_eq_true rfl, Nat.le_of_ble_eq_true rfl⟩) (Nat.le_of_ble_eq_true rfl) rfl rfl rfl rfl (Nat.le_of_ble_eq_true rfl) dX9_startAnew_49 rfl (fun σ8 h => ?_)
  refine vv_aload_n (q := 53) X 0 dX9_startAnew_52 rfl rfl rfl ?_
  refine vv_getf (q := 56) (ref := "HalfLadders") (C := RX9) (T := TX9) (N := 14) X 0 9 9 (Nat.le_of_ble_eq_true rfl) rfl rfl (Nat.le_of_ble_eq_true rfl) (fun _ h => List.mem_cons_of_mem _ (List.mem_append_left _ (List.mem_append_left _ (List.mem_append_left _ (List.mem_append_left _ (List.mem_append_left _ (List.mem_append_left _ (List.mem_append_right _ h)))))))) (List.mem_of_getElem? (i := 6) rfl) rfl rfl dX9_startAnew_53 rfl ?_
  refine vv_cVv (q := 59) (C := RX2) X 65 2 [] (kX2_begin l D X.2.2.1 h) (cwV 0 X.1.2.2.2.2 gX9_startAnew_X2_begin rfl rfl rfl (by decide +kernel) ⟨Nat.le_of_ble_eq_true rfl, Nat.le_of_ble_eq_true rfl⟩) (Nat.le_of_ble_eq_true rfl) rfl rfl rfl rfl (Nat.le_of_ble_eq_true rfl) dX9_startAnew_56 rfl (fun σ9 h => ?_)
  refine vv_aload_n (q := 60) X 0 dX9_startAnew_59 rfl rfl rfl ?_
  refine vv_getf (q := 63) (ref := "HalfLadders") (C := RX9) (T := TX9) (N := 14) X 0 9 9 (Nat.le_of_ble_eq_true rfl) rfl rfl (Nat.le_of_ble_eq_true rfl) (fun _ h => List.mem_cons_of_mem _ (List.mem_append_left _ (List.mem_append_left _ (List.mem_append_left _ (List.mem_append_left _ (List.mem_append_left _ (List.mem_append_left _ (List.mem_append_right _ h)))))))) (List.mem_of_getElem? (i := 6) rfl) rfl rfl dX9_startAnew_60 rfl ?_
  refine vv_aload_n (q := 64) X 0 dX9_startAnew_63 rfl rfl rfl ?_
  obtain ⟨ho10, h⟩ := h
  refine vv_getf (q := 67) (ref := "HalfLadders") (C := RX9) (T := TX9) (N := 14) X 0 9 2 (Nat.le_of_ble_eq_true rfl) rfl rfl (Nat.le_of_ble_eq_true rfl) (fun _ h => List.mem_cons_of_mem _ (List.mem_append_left _ (List.mem_append_left _ (List.mem_append_left _ (List.mem_append_left _ (List.mem_append_left _ (List.mem_append_left _ (List.mem_append_right _ h)))))))) (List.mem_of_getElem? (i := 2) rfl) rfl rfl dX9_startAnew_64 rfl ?_
  refine vv_cVv (q := 70) (C := RX2) X 65 2 [.ref (ad (σ9.2.2.1))] (kX2_bearAsTold l D X.2.2.1 h) (cwV 1 X.1.2.2.2.2 gX9_startAnew_X2_bearAsTold rfl rfl rfl (by decide +kernel) ⟨Nat.le_of_ble_eq_true rfl, Nat.le_of_ble_eq_true rfl⟩) (Nat.le_of_ble_eq_true rfl) rfl rfl rfl rfl (Nat.le_of_ble_eq_true rfl) dX9_startAnew_67 rfl (fun σ11 h => ?_)
  refine vv_iconst (q := 71) X (0 : Int32) dX9_startAnew_70 (by decide) rfl ?_
  refine vv_istore_n (lv2 := [(1, .int (0 : Int32)), (0, .ref (ad 0))]) (q := 72) X dX9_startAnew_71 rfl (Nat.le_of_ble_eq_true rfl) rfl rfl ?_
  obtain ⟨n17, h⟩ := h
  refine vv_sub (lv' := [(0, .ref (ad 0)), (1, .int (0 : Int32))]) [1, 0] rfl ?_
  refine twLX9_startAnew_72 X hr  _ ?_ n17 σ11 (0 : Int32) h
  intro σ16 h
  exact vv_vret X hr dX9_startAnew_90 h

/-! X9_orchard: orchard()I -/
def rmX9_orchard : Room := { frames := 25, cells := 0, slots := 0, locals := 618 }
def wX9_orchard (σ : St)  (P : Int32 → St → Prop) : Prop :=
isO σ.2.2.2 ∧
wX6_readAll σ (σ.2.2.2) (fun (r2 : Int32) (σ3 : St) =>
(0 ≤ r2 →
isO σ3.2.2.1 ∧
isO σ3.2.2.2 ∧
∀ σ7 : St, σ7 = (σ3.1, (σ3.2.1, σ3.2.2.2, σ3.2.2.2)) →
∀ σ8 : St, σ8 = (σ7.1, (σ7.2.1, σ7.2.2.1, σ3.2.2.1)) →
∀ σ9 : St, σ9 = sI σ8 1 1 (0 : Int32) →
wX9_startAnew σ9  (fun σ10 : St =>
P r2 σ10)) ∧
(¬ 0 ≤ r2 →
P r2 σ3))

set_option maxHeartbeats 8000000 in
set_option maxRecDepth 100000 in
theorem kX9_orchard (l : Launch) (D : va_G) {cy : Nat → ClassId} {ad : Nat → Nat} {zb : Nat → Nat} (hw : xOk (wC ad cy zb)) {σ : St}  {P : Int32 → St → Prop} (h : wX9_orchard σ  P) : MI l yX9_orchard wsX9_orchard rmX9_orchard D cy (wC ad cy zb) [.ref (ad 0)] σ P := by
  unfold MI
  refine vv_met (cc := cX9_orchard) (maxL := 3) (ret := (some .int)) hw (by decide +kernel) rfl [.ref (ad 0)] (Nat.le_of_ble_eq_true rfl) ?_
  intro p e s m args below meth c X hr
  have X : XX p s m args meth c cX9_orchard 3 D cy (wC ad cy zb) wsX9_orchard RX9 := X
  refine vv_sub (lv' := [(0, .ref (ad 0))]) [0] rfl ?_
  rw [wX9_orchard] at h
  refine vv_aload_n (q := 1) X 0 dX9_orchard_0 rfl rfl rfl ?_
  refine vv_getf (q := 4) (ref := "HalfLadders") (C := RX9) (T := TX9) (N := 14) X 0 9 1 (Nat.le_of_ble_eq_true rfl) rfl rfl (Nat.le_of_ble_eq_true rfl) (fun _ h => List.mem_cons_of_mem _ (List.mem_append_left _ (List.mem_append_left _ (List.mem_append_left _ (List.mem_append_left _ (List.mem_append_left _ (List.mem_append_left _ (List.mem_append_left _ (List.mem_append_left _ (List.mem_append_right _ h)))))))))) (List.mem_of_getElem? (i := 1) rfl) rfl rfl dX9_orchard_1 rfl ?_
  refine vv_aload_n (q := 5) X 0 dX9_orchard_4 rfl rfl rfl ?_
  obtain ⟨ho1, h⟩ := h
  refine vv_getf (q := 8) (ref := "HalfLadders") (C := RX9) (T := TX9) (N := 14) X 0 9 3 (Nat.le_of_ble_eq_true rfl) rfl rfl (Nat.le_of_ble_eq_true rfl) (fun _ h => List.mem_cons_of_mem _ (List.mem_append_left _ (List.mem_append_left _ (List.mem_append_left _ (List.mem_append_left _ (List.mem_append_left _ (List.mem_append_left _ (List.mem_append_left _ (List.mem_append_left _ (List.mem_append_right _ h)))))))))) (List.mem_of_getElem? (i := 2) rfl) rfl rfl dX9_orchard_5 rfl ?_
  refine vv_cVi (q := 11) (C := RX6) X 6 6 [.ref (ad (σ.2.2.2))] (kX6_readAll l D X.2.2.1 h) (cwV 1 X.1.2.2.2.2 gX9_orchard_X6_readAll rfl rfl rfl (by decide +kernel) ⟨Nat.le_of_ble_eq_true rfl, Nat.le_of_ble_eq_true rfl⟩) (Nat.le_of_ble_eq_true rfl) rfl rfl rfl rfl (Nat.le_of_ble_eq_true rfl) dX9_orchard_8 rfl (fun r2 σ3 h => ?_)
  refine vv_istore_n (lv2 := [(1, .int r2), (0, .ref (ad 0))]) (q := 12) X dX9_orchard_11 rfl (Nat.le_of_ble_eq_true rfl) rfl rfl ?_
  refine vv_iload_n (q := 13) X 0 dX9_orchard_12 rfl rfl rfl ?_
  refine vv_if_ge (q := 16) X 18 dX9_orchard_13 (by decide) rfl (fun c4 => ?_) (fun c4 => ?_)
  · have h := h.1 c4
    refine vv_aload_n (q := 19) X 1 dX9_orchard_18 rfl rfl rfl ?_
    obtain ⟨ho5, h⟩ := h
    refine vv_getf (q := 22) (ref := "HalfLadders") (C := RX9) (T := TX9) (N := 14) X 0 9 2 (Nat.le_of_ble_eq_true rfl) rfl rfl (Nat.le_of_ble_eq_true rfl) (fun _ h => List.mem_cons_of_mem _ (List.mem_append_left _ (List.mem_append_left _ (List.mem_append_left _ (List.mem_append_left _ (List.mem_append_left _ (List.mem_append_left _ (List.mem_append_left _ (List.mem_append_left _ (List.mem_append_right _ h)))))))))) (List.mem_of_getElem? (i := 3) rfl) rfl rfl dX9_orchard_19 rfl ?_
    refine vv_astore_n (lv2 := [(2, .ref (ad (σ3.2.2.1))), (1, .int r2), (0, .ref (ad 0))]) (q := 23) X dX9_orchard_22 rfl (Nat.le_of_ble_eq_true rfl) rfl rfl ?_
    refine vv_aload_n (q := 24) X 2 dX9_orchard_23 rfl rfl rfl ?_
    refine vv_aload_n (q := 25) X 2 dX9_orchard_24 rfl rfl rfl ?_
    obtain ⟨ho6, h⟩ := h
    refine vv_getf (q := 28) (ref := "HalfLadders") (C := RX9) (T := TX9) (N := 14) X 0 9 3 (Nat.le_of_ble_eq_true rfl) rfl rfl (Nat.le_of_ble_eq_true rfl) (fun _ h => List.mem_cons_of_mem _ (List.mem_append_left _ (List.mem_append_left _ (List.mem_append_left _ (List.mem_append_left _ (List.mem_append_left _ (List.mem_append_left _ (List.mem_append_left _ (List.mem_append_left _ (List.mem_append_right _ h)))))))))) (List.mem_of_getElem? (i := 2) rfl) rfl rfl dX9_orchard_25 rfl ?_
    refine vv_putT (q := 31) (ref := "HalfLadders") (C := RX9) (T := TX9) (N := 14) X 9 2 (σ3.2.1, σ3.2.2.2, σ3.2.2.2) tyX9 tyX9_ok nmX9 (Nat.le_of_ble_eq_true rfl) rfl eC_T rfl rfl (Nat.le_of_ble_eq_true rfl) rfl (fun _ h => List.mem_cons_of_mem _ (List.mem_append_left _ (List.mem_append_left _ (List.mem_append_left _ (List.mem_append_left _ (List.mem_append_left _ (List.mem_append_left _ (List.mem_append_left _ (List.mem_append_left _ (List.mem_append_right _ h)))))))))) (List.mem_of_getElem? (i := 3) rfl) rfl rfl (ty := (.object "HalfLadders$Orchard")) rfl rfl rfl dX9_orchard_28 rfl ?_
    refine vv_nm (fun σ7 hσ7 => ?_)
    have h := h σ7 hσ7
    refine vv_aload_n (q := 32) X 2 dX9_orchard_31 rfl rfl rfl ?_
    refine vv_aload_n (q := 33) X 0 dX9_orchard_32 rfl rfl rfl ?_
    refine vv_putT (q := 36) (ref := "HalfLadders") (C := RX9) (T := TX9) (N := 14) X 9 3 (σ7.2.1, σ7.2.2.1, σ3.2.2.1) tyX9 tyX9_ok nmX9 (Nat.le_of_ble_eq_true rfl) rfl eC_T rfl rfl (Nat.le_of_ble_eq_true rfl) rfl (fun _ h => List.mem_cons_of_mem _ (List.mem_append_left _ (List.mem_append_left _ (List.mem_append_left _ (List.mem_append_left _ (List.mem_append_left _ (List.mem_append_left _ (List.mem_append_left _ (List.mem_append_left _ (List.mem_append_right _ h)))))))))) (List.mem_of_getElem? (i := 2) rfl) rfl rfl (ty := (.object "HalfLadders$Orchard")) rfl rfl rfl dX9_orchard_33 rfl ?_
    refine vv_nm (fun σ8 hσ8 => ?_)
    have h := h σ8 hσ8
    refine vv_aload_n (q := 37) X 2 dX9_orchard_36 rfl rfl rfl ?_
    refine vv_getf (q := 40) (ref := "HalfLadders") (C := RX9) (T := TX9) (N := 14) X 0 9 0 (Nat.le_of_ble_eq_true rfl) rfl rfl (Nat.le_of_ble_eq_true rfl) (fun _ h => List.mem_cons_of_mem _ (List.mem_append_left _ (List.mem_append_left _ (List.mem_append_left _ (List.mem_append_left _ (List.mem_append_left _ (List.mem_append_left _ (List.mem_append_left _ (List.mem_append_left _ (List.mem_append_right _ h)))))))))) (List.mem_of_getElem? (i := 4) rfl) rfl rfl dX9_orchard_37 rfl ?_
    refine vv_iconst (q := 41) X (0 : Int32) dX9_orchard_40 (by decide) rfl ?_
    refine vv_putf (q := 44) (ref := "HalfLadders$Text") (C := RX8) (T := TX8) (N := 5) X 1 8 1 tyX8 tyX8_ok nmX8 (Nat.le_of_ble_eq_true rfl) rfl rfl rfl (Nat.le_of_ble_eq_true rfl) rfl (fun _ h => List.mem_cons_of_mem _ (List.mem_append_left _ (List.mem_append_left _ (List.mem_append_left _ (List.mem_append_left _ (List.mem_append_left _ (List.mem_append_left _ (List.mem_append_left _ (List.mem_append_right _ h))))))))) (List.mem_of_getElem? (i := 5) rfl) rfl rfl rfl dX9_orchard_41 rfl ?_
    refine vv_nm (fun σ9 hσ9 => ?_)
    have h := h σ9 hσ9
    refine vv_aload_n (q := 45) X 2 dX9_orchard_44 rfl rfl rfl ?_
    refine vv_cVv (q := 48) (C := RX9) X 0 9 [] (kX9_startAnew l D X.2.2.1 h) (cwV 0 X.1.2.2.2.2 gX9_orchard_X9_startAnew rfl rfl rfl (by decide +kernel) ⟨Nat.le_of_ble_eq_true rfl, Nat.le_of_ble_eq_true rfl⟩) (Nat.le_of_ble_eq_true rfl) rfl rfl rfl rfl (Nat.le_of_ble_eq_true rfl) dX9_orchard_45 rfl (fun σ10 h => ?_)
    refine vv_iload_n (q := 49) X 1 dX9_orchard_48 rfl rfl rfl ?_
    exact vv_iret X hr dX9_orchard_49 h
  · have h := h.2 c4
    refine vv_iload_n (q := 17) X 0 dX9_orchard_16 rfl rfl rfl ?_
    exact vv_iret X hr dX9_orchard_17 h

/-! X9_half: half(II)I -/
def rmX9_half : Room := { frames := 1, cells := 0, slots := 0, locals := 21 }
def wX9_half (σ : St) (a1 : Int32) (a2 : Int32) (P : Int32 → Prop) : Prop :=
isO σ.2.2.1 ∧
wX3_hasHalf σ (σ.2.2.1) a1 (fun r2 : Int32 =>
(¬ r2 = 0 →
(a2 = (0 : Int32) →
vp_in a1 8 ∧
P (σ.1 (σ.2.2.1 + 1) a1.toNatClampNeg)) ∧
(¬ a2 = (0 : Int32) →
(a2 = (1 : Int32) →
vp_in a1 8 ∧
P (σ.1 (σ.2.2.1 + 2) a1.toNatClampNeg)) ∧
(¬ a2 = (1 : Int32) →
(a2 = (2 : Int32) →
vp_in a1 8 ∧
P (σ.1 (σ.2.2.1 + 3) a1.toNatClampNeg)) ∧
(¬ a2 = (2 : Int32) →
(a2 = (3 : Int32) →
vp_in a1 8 ∧
P (σ.1 (σ.2.2.1 + 4) a1.toNatClampNeg)) ∧
(¬ a2 = (3 : Int32) →
(a2 = (4 : Int32) →
P (((σ.1 65 1) >>> (a1 &&& 31)) &&& (1 : Int32))) ∧
(¬ a2 = (4 : Int32) →
P (-1 : Int32))))))) ∧
(r2 = 0 →
P (-1 : Int32)))

set_option maxHeartbeats 8000000 in
set_option maxRecDepth 100000 in
theorem kX9_half (l : Launch) (D : va_G) {cy : Nat → ClassId} {ad : Nat → Nat} {zb : Nat → Nat} (hw : xOk (wC ad cy zb)) {σ : St} {a1 : Int32} {a2 : Int32} {P : Int32 → Prop} (h : wX9_half σ a1 a2 P) : MI l yX9_half wsX9_half rmX9_half D cy (wC ad cy zb) [.ref (ad 0), .int a1, .int a2] σ (fun r u => P r ∧ u = σ) := by
  unfold MI
  refine vv_met (cc := cX9_half) (maxL := 3) (ret := (some .int)) hw (by decide +kernel) rfl [.ref (ad 0), .int a1, .int a2] (Nat.le_of_ble_eq_true rfl) ?_
  intro p e s m args below meth c X hr
  have X : XX p s m args meth c cX9_half 3 D cy (wC ad cy zb) wsX9_half RX9 := X
  refine vv_sub (lv' := [(0, .ref (ad 0)), (1, .int a1), (2, .int a2)]) [0, 1, 2] rfl ?_
  rw [wX9_half] at h
  refine vv_aload_n (q := 1) X 0 dX9_half_0 rfl rfl rfl ?_
  obtain ⟨ho1, h⟩ := h
  refine vv_getf (q := 4) (ref := "HalfLadders") (C := RX9) (T := TX9) (N := 14) X 0 9 2 (Nat.le_of_ble_eq_true rfl) rfl rfl (Nat.le_of_ble_eq_true rfl) (fun _ h => List.mem_cons_of_mem _ (List.mem_append_left _ (List.mem_append_left _ (List.mem_append_right _ h)))) (List.mem_of_getElem? (i := 1) rfl) rfl rfl dX9_half_1 rfl ?_
  refine vv_iload_n (q := 5) X 1 dX9_half_4 rfl rfl rfl ?_
  refine vv_cVi (q := 8) (C := RX3) X (σ.2.2.1) 3 [.int a1] (kX3_hasHalf l D X.2.2.1 h) (cwV 1 X.1.2.2.2.2 gX9_half_X3_hasHalf rfl rfl rfl (by decide +kernel) ⟨Nat.le_of_ble_eq_true rfl, Nat.le_of_ble_eq_true rfl⟩) (isO_lt 0 ho1 (Nat.le_of_ble_eq_true rfl)) (e_isO (ad := ad) (cy := cy) ho1 _ _) rfl rfl rfl (Nat.le_of_ble_eq_true rfl) dX9_half_5 rfl (fun r2 u9 h9 => ?_)
  obtain ⟨h9, hu9⟩ := h9
  subst u9
  have h := h9
  refine vv_if_ne (q := 11) X 13 dX9_half_8 (by decide) rfl (fun c3 => ?_) (fun c3 => ?_)
  · have h := h.1 c3
    refine vv_iload_n (q := 14) X 2 dX9_half_13 rfl rfl rfl ?_
    by_cases c4 : a2 = (0 : Int32)
    · have h := h.1 c4
      refine vv_tabIn (off := 34) X 48 dX9_half_14 (by rw [c4]; decide) (by rw [c4]; decide) (by rw [c4]; rfl) (by decide) ?_
      refine vv_aload_n (q := 49) X 0 dX9_half_48 rfl rfl rfl ?_
      refine vv_getf (q := 52) (ref := "HalfLadders") (C := RX9) (T := TX9) (N := 14) X 0 9 2 (Nat.le_of_ble_eq_true rfl) rfl rfl (Nat.le_of_ble_eq_true rfl) (fun _ h => List.mem_cons_of_mem _ (List.mem_append_left _ (List.mem_append_left _ (List.mem_append_right _ h)))) (List.mem_of_getElem? (i := 1) rfl) rfl rfl dX9_half_49 rfl ?_
      refine vv_getf (q := 55) (ref := "HalfLadders$Orchard") (C := RX3) (T := TX3) (N := 10) X (σ.2.2.1) 3 2 (isO_lt 0 ho1 (Nat.le_of_ble_eq_true rfl)) (e_isO (ad := ad) (cy := cy) ho1 _ _) rfl (Nat.le_of_ble_eq_true rfl) (fun _ h => List.mem_cons_of_mem _ (List.mem_append_left _ (List.mem_append_right _ h))) (List.mem_of_getElem? (i := 2) rfl) rfl rfl dX9_half_52 rfl ?_
      refine vv_iload_n (q := 56) X 1 dX9_half_55 rfl rfl rfl ?_
      obtain ⟨hin5, h⟩ := h
      refine vv_iald (q := 57) X (σ.2.2.1 + 1) 8 (isO_lt 1 ho1 (Nat.le_of_ble_eq_true rfl)) (fun f => e_isO_1 (ad := ad) (cy := cy) ho1 f σ.2) hin5 dX9_half_56 rfl ?_
      exact vv_iret X hr dX9_half_57 ⟨h, rfl⟩
    · have h := h.2 c4
      by_cases c6 : a2 = (1 : Int32)
      · have h := h.1 c6
        refine vv_tabIn (off := 44) X 58 dX9_half_14 (by rw [c6]; decide) (by rw [c6]; decide) (by rw [c6]; rfl) (by decide) ?_
        refine vv_aload_n (q := 59) X 0 dX9_half_58 rfl rfl rfl ?_
        refine vv_getf (q := 62) (ref := "HalfLadders") (C := RX9) (T := TX9) (N := 14) X 0 9 2 (Nat.le_of_ble_eq_true rfl) rfl rfl (Nat.le_of_ble_eq_true rfl) (fun _ h => List.mem_cons_of_mem _ (List.mem_append_left _ (List.mem_append_left _ (List.mem_append_right _ h)))) (List.mem_of_getElem? (i := 1) rfl) rfl rfl dX9_half_59 rfl ?_
        refine vv_getf (q := 65) (ref := "HalfLadders$Orchard") (C := RX3) (T := TX3) (N := 10) X (σ.2.2.1) 3 3 (isO_lt 0 ho1 (Nat.le_of_ble_eq_true rfl)) (e_isO (ad := ad) (cy := cy) ho1 _ _) rfl (Nat.le_of_ble_eq_true rfl) (fun _ h => List.mem_cons_of_mem _ (List.mem_append_left _ (List.mem_append_right _ h))) (List.mem_of_getElem? (i := 3) rfl) rfl rfl dX9_half_62 rfl ?_
        refine vv_iload_n (q := 66) X 1 dX9_half_65 rfl rfl rfl ?_
        obtain ⟨hin7, h⟩ := h
        refine vv_iald (q := 67) X (σ.2.2.1 + 2) 8 (isO_lt 2 ho1 (Nat.le_of_ble_eq_true rfl)) (fun f => e_isO_2 (ad := ad) (cy := cy) ho1 f σ.2) hin7 dX9_half_66 rfl ?_
        exact vv_iret X hr dX9_half_67 ⟨h, rfl⟩
      · have h := h.2 c6
        by_cases c8 : a2 = (2 : Int32)
        · have h := h.1 c8
          refine vv_tabIn (off := 54) X 68 dX9_half_14 (by rw [c8]; decide) (by rw [c8]; decide) (by rw [c8]; rfl) (by decide) ?_
          refine vv_aload_n (q := 69) X 0 dX9_half_68 rfl rfl rfl ?_
          refine vv_getf (q := 72) (ref := "HalfLadders") (C := RX9) (T := TX9) (N := 14) X 0 9 2 (Nat.le_of_ble_eq_true rfl) rfl rfl (Nat.le_of_ble_eq_true rfl) (fun _ h => List.mem_cons_of_mem _ (List.mem_append_left _ (List.mem_append_left _ (List.mem_append_right _ h)))) (List.mem_of_getElem? (i := 1) rfl) rfl rfl dX9_half_69 rfl ?_
          refine vv_getf (q := 75) (ref := "HalfLadders$Orchard") (C := RX3) (T := TX3) (N := 10) X (σ.2.2.1) 3 4 (isO_lt 0 ho1 (Nat.le_of_ble_eq_true rfl)) (e_isO (ad := ad) (cy := cy) ho1 _ _) rfl (Nat.le_of_ble_eq_true rfl) (fun _ h => List.mem_cons_of_mem _ (List.mem_append_left _ (List.mem_append_right _ h))) (List.mem_of_getElem? (i := 4) rfl) rfl rfl dX9_half_72 rfl ?_
          refine vv_iload_n (q := 76) X 1 dX9_half_75 rfl rfl rfl ?_
          obtain ⟨hin9, h⟩ := h
          refine vv_iald (q := 77) X (σ.2.2.1 + 3) 8 (isO_lt 3 ho1 (Nat.le_of_ble_eq_true rfl)) (fun f => e_isO_3 (ad := ad) (cy := cy) ho1 f σ.2) hin9 dX9_half_76 rfl ?_
          exact vv_iret X hr dX9_half_77 ⟨h, rfl⟩
        · have h := h.2 c8
          by_cases c10 : a2 = (3 : Int32)
          · have h := h.1 c10
            refine vv_tabIn (off := 64) X 78 dX9_half_14 (by rw [c10]; decide) (by rw [c10]; decide) (by rw [c10]; rfl) (by decide) ?_
            refine vv_aload_n (q := 79) X 0 dX9_half_78 rfl rfl rfl ?_
            refine vv_getf (q := 82) (ref := "HalfLadders") (C := RX9) (T := TX9) (N := 14) X 0 9 2 (Nat.le_of_ble_eq_true rfl) rfl rfl (Nat.le_of_ble_eq_true rfl) (fun _ h => List.mem_cons_of_mem _ (List.mem_append_left _ (List.mem_append_left _ (List.mem_append_right _ h)))) (List.mem_of_getElem? (i := 1) rfl) rfl rfl dX9_half_79 rfl ?_
            refine vv_getf (q := 85) (ref := "HalfLadders$Orchard") (C := RX3) (T := TX3) (N := 10) X (σ.2.2.1) 3 5 (isO_lt 0 ho1 (Nat.le_of_ble_eq_true rfl)) (e_isO (ad := ad) (cy := cy) ho1 _ _) rfl (Nat.le_of_ble_eq_true rfl) (fun _ h => List.mem_cons_of_mem _ (List.mem_append_left _ (List.mem_append_right _ h))) (List.mem_of_getElem? (i := 5) rfl) rfl rfl dX9_half_82 rfl ?_
            refine vv_iload_n (q := 86) X 1 dX9_half_85 rfl rfl rfl ?_
            obtain ⟨hin11, h⟩ := h
            refine vv_iald (q := 87) X (σ.2.2.1 + 4) 8 (isO_lt 4 ho1 (Nat.le_of_ble_eq_true rfl)) (fun f => e_isO_4 (ad := ad) (cy := cy) ho1 f σ.2) hin11 dX9_half_86 rfl ?_
            exact vv_iret X hr dX9_half_87 ⟨h, rfl⟩
          · have h := h.2 c10
            by_cases c12 : a2 = (4 : Int32)
            · have h := h.1 c12
              refine vv_tabIn (off := 74) X 88 dX9_half_14 (by rw [c12]; decide) (by rw [c12]; decide) (by rw [c12]; rfl) (by decide) ?_
              refine vv_aload_n (q := 89) X 0 dX9_half_88 rfl rfl rfl ?_
              refine vv_getf (q := 92) (ref := "HalfLadders") (C := RX9) (T := TX9) (N := 14) X 0 9 9 (Nat.le_of_ble_eq_true rfl) rfl rfl (Nat.le_of_ble_eq_true rfl) (fun _ h => List.mem_cons_of_mem _ (List.mem_append_left _ (List.mem_append_left _ (List.mem_append_right _ h)))) (List.mem_of_getElem? (i := 6) rfl) rfl rfl dX9_half_89 rfl ?_
              refine vv_getf (q := 95) (ref := "HalfLadders$Now") (C := RX2) (T := TX2) (N := 7) X 65 2 1 (Nat.le_of_ble_eq_true rfl) rfl rfl (Nat.le_of_ble_eq_true rfl) (fun _ h => List.mem_cons_of_mem _ (List.mem_append_right _ h)) (List.mem_of_getElem? (i := 7) rfl) rfl rfl dX9_half_92 rfl ?_
              refine vv_iload_n (q := 96) X 1 dX9_half_95 rfl rfl rfl ?_
              refine vv_ishr (q := 97) X dX9_half_96 rfl ?_
              refine vv_iconst (q := 98) X (1 : Int32) dX9_half_97 (by decide) rfl ?_
              refine vv_iand (q := 99) X dX9_half_98 rfl ?_
              exact vv_iret X hr dX9_half_99 ⟨h, rfl⟩
            · have h := h.2 c12
              refine vv_tabOut X 100 dX9_half_14 (by have n0 : ¬ a2.toInt = 0 := i32_ne c4; have n1 : ¬ a2.toInt = 1 := i32_ne c6; have n2 : ¬ a2.toInt = 2 := i32_ne c8; have n3 : ¬ a2.toInt = 3 := i32_ne c10; have n4 : ¬ a2.toInt = 4 := i32_ne c12; omega) (by decide) ?_
              refine vv_iconst (q := 101) X (-1 : Int32) dX9_half_100 (by decide) rfl ?_
              exact vv_iret X hr dX9_half_101 ⟨h, rfl⟩
  · have h := h.2 c3
    refine vv_iconst (q := 12) X (-1 : Int32) dX9_half_11 (by decide) rfl ?_
    exact vv_iret X hr dX9_half_12 ⟨h, rfl⟩

/-! X9_tree: tree(II)I -/
def rmX9_tree : Room := { frames := 1, cells := 0, slots := 0, locals := 21 }
def wX9_tree (σ : St) (a1 : Int32) (a2 : Int32) (P : Int32 → Prop) : Prop :=
isO σ.2.2.1 ∧
wX3_hasTree σ (σ.2.2.1) a1 (fun r2 : Int32 =>
(¬ r2 = 0 →
(a2 = (0 : Int32) →
vp_in a1 5 ∧
P (σ.1 (σ.2.2.1 + 6) a1.toNatClampNeg)) ∧
(¬ a2 = (0 : Int32) →
(a2 = (1 : Int32) →
vp_in a1 5 ∧
P (σ.1 (σ.2.2.1 + 7) a1.toNatClampNeg)) ∧
(¬ a2 = (1 : Int32) →
(a2 = (2 : Int32) →
vp_in a1 5 ∧
P (σ.1 (σ.2.2.1 + 8) a1.toNatClampNeg)) ∧
(¬ a2 = (2 : Int32) →
(a2 = (3 : Int32) →
vp_in a1 5 ∧
P (σ.1 (65 + 1) a1.toNatClampNeg)) ∧
(¬ a2 = (3 : Int32) →
(a2 = (4 : Int32) →
P (((σ.1 65 2) >>> (a1 &&& 31)) &&& (1 : Int32))) ∧
(¬ a2 = (4 : Int32) →
P (-1 : Int32))))))) ∧
(r2 = 0 →
P (-1 : Int32)))

set_option maxHeartbeats 8000000 in
set_option maxRecDepth 100000 in
theorem kX9_tree (l : Launch) (D : va_G) {cy : Nat → ClassId} {ad : Nat → Nat} {zb : Nat → Nat} (hw : xOk (wC ad cy zb)) {σ : St} {a1 : Int32} {a2 : Int32} {P : Int32 → Prop} (h : wX9_tree σ a1 a2 P) : MI l yX9_tree wsX9_tree rmX9_tree D cy (wC ad cy zb) [.ref (ad 0), .int a1, .int a2] σ (fun r u => P r ∧ u = σ) := by
  unfold MI
  refine vv_met (cc := cX9_tree) (maxL := 3) (ret := (some .int)) hw (by decide +kernel) rfl [.ref (ad 0), .int a1, .int a2] (Nat.le_of_ble_eq_true rfl) ?_
  intro p e s m args below meth c X hr
  have X : XX p s m args meth c cX9_tree 3 D cy (wC ad cy zb) wsX9_tree RX9 := X
  refine vv_sub (lv' := [(0, .ref (ad 0)), (1, .int a1), (2, .int a2)]) [0, 1, 2] rfl ?_
  rw [wX9_tree] at h
  refine vv_aload_n (q := 1) X 0 dX9_tree_0 rfl rfl rfl ?_
  obtain ⟨ho1, h⟩ := h
  refine vv_getf (q := 4) (ref := "HalfLadders") (C := RX9) (T := TX9) (N := 14) X 0 9 2 (Nat.le_of_ble_eq_true rfl) rfl rfl (Nat.le_of_ble_eq_true rfl) (fun _ h => List.mem_cons_of_mem _ (List.mem_append_left _ (List.mem_append_left _ (List.mem_append_right _ h)))) (List.mem_of_getElem? (i := 1) rfl) rfl rfl dX9_tree_1 rfl ?_
  refine vv_iload_n (q := 5) X 1 dX9_tree_4 rfl rfl rfl ?_
  refine vv_cVi (q := 8) (C := RX3) X (σ.2.2.1) 3 [.int a1] (kX3_hasTree l D X.2.2.1 h) (cwV 1 X.1.2.2.2.2 gX9_tree_X3_hasTree rfl rfl rfl (by decide +kernel) ⟨Nat.le_of_ble_eq_true rfl, Nat.le_of_ble_eq_true rfl⟩) (isO_lt 0 ho1 (Nat.le_of_ble_eq_true rfl)) (e_isO (ad := ad) (cy := cy) ho1 _ _) rfl rfl rfl (Nat.le_of_ble_eq_true rfl) dX9_tree_5 rfl (fun r2 u9 h9 => ?_)
  obtain ⟨h9, hu9⟩ := h9
  subst u9
  have h := h9
  refine vv_if_ne (q := 11) X 13 dX9_tree_8 (by decide) rfl (fun c3 => ?_) (fun c3 => ?_)
  · have h := h.1 c3
    refine vv_iload_n (q := 14) X 2 dX9_tree_13 rfl rfl rfl ?_
    by_cases c4 : a2 = (0 : Int32)
    · have h := h.1 c4
      refine vv_tabIn (off := 34) X 48 dX9_tree_14 (by rw [c4]; decide) (by rw [c4]; decide) (by rw [c4]; rfl) (by decide) ?_
      refine vv_aload_n (q := 49) X 0 dX9_tree_48 rfl rfl rfl ?_
      refine vv_getf (q := 52) (ref := "HalfLadders") (C := RX9) (T := TX9) (N := 14) X 0 9 2 (Nat.le_of_ble_eq_true rfl) rfl rfl (Nat.le_of_ble_eq_true rfl) (fun _ h => List.mem_cons_of_mem _ (List.mem_append_left _ (List.mem_append_left _ (List.mem_append_right _ h)))) (List.mem_of_getElem? (i := 1) rfl) rfl rfl dX9_tree_49 rfl ?_
      refine vv_getf (q := 55) (ref := "HalfLadders$Orchard") (C := RX3) (T := TX3) (N := 10) X (σ.2.2.1) 3 7 (isO_lt 0 ho1 (Nat.le_of_ble_eq_true rfl)) (e_isO (ad := ad) (cy := cy) ho1 _ _) rfl (Nat.le_of_ble_eq_true rfl) (fun _ h => List.mem_cons_of_mem _ (List.mem_append_left _ (List.mem_append_right _ h))) (List.mem_of_getElem? (i := 2) rfl) rfl rfl dX9_tree_52 rfl ?_
      refine vv_iload_n (q := 56) X 1 dX9_tree_55 rfl rfl rfl ?_
      obtain ⟨hin5, h⟩ := h
      refine vv_iald (q := 57) X (σ.2.2.1 + 6) 5 (isO_lt 6 ho1 (Nat.le_of_ble_eq_true rfl)) (fun f => e_isO_6 (ad := ad) (cy := cy) ho1 f σ.2) hin5 dX9_tree_56 rfl ?_
      exact vv_iret X hr dX9_tree_57 ⟨h, rfl⟩
    · have h := h.2 c4
      by_cases c6 : a2 = (1 : Int32)
      · have h := h.1 c6
        refine vv_tabIn (off := 44) X 58 dX9_tree_14 (by rw [c6]; decide) (by rw [c6]; decide) (by rw [c6]; rfl) (by decide) ?_
        refine vv_aload_n (q := 59) X 0 dX9_tree_58 rfl rfl rfl ?_
        refine vv_getf (q := 62) (ref := "HalfLadders") (C := RX9) (T := TX9) (N := 14) X 0 9 2 (Nat.le_of_ble_eq_true rfl) rfl rfl (Nat.le_of_ble_eq_true rfl) (fun _ h => List.mem_cons_of_mem _ (List.mem_append_left _ (List.mem_append_left _ (List.mem_append_right _ h)))) (List.mem_of_getElem? (i := 1) rfl) rfl rfl dX9_tree_59 rfl ?_
        refine vv_getf (q := 65) (ref := "HalfLadders$Orchard") (C := RX3) (T := TX3) (N := 10) X (σ.2.2.1) 3 8 (isO_lt 0 ho1 (Nat.le_of_ble_eq_true rfl)) (e_isO (ad := ad) (cy := cy) ho1 _ _) rfl (Nat.le_of_ble_eq_true rfl) (fun _ h => List.mem_cons_of_mem _ (List.mem_append_left _ (List.mem_append_right _ h))) (List.mem_of_getElem? (i := 3) rfl) rfl rfl dX9_tree_62 rfl ?_
        refine vv_iload_n (q := 66) X 1 dX9_tree_65 rfl rfl rfl ?_
        obtain ⟨hin7, h⟩ := h
        refine vv_iald (q := 67) X (σ.2.2.1 + 7) 5 (isO_lt 7 ho1 (Nat.le_of_ble_eq_true rfl)) (fun f => e_isO_7 (ad := ad) (cy := cy) ho1 f σ.2) hin7 dX9_tree_66 rfl ?_
        exact vv_iret X hr dX9_tree_67 ⟨h, rfl⟩
      · have h := h.2 c6
        by_cases c8 : a2 = (2 : Int32)
        · have h := h.1 c8
          refine vv_tabIn (off := 54) X 68 dX9_tree_14 (by rw [c8]; decide) (by rw [c8]; decide) (by rw [c8]; rfl) (by decide) ?_
          refine vv_aload_n (q := 69) X 0 dX9_tree_68 rfl rfl rfl ?_
          refine vv_getf (q := 72) (ref := "HalfLadders") (C := RX9) (T := TX9) (N := 14) X 0 9 2 (Nat.le_of_ble_eq_true rfl) rfl rfl (Nat.le_of_ble_eq_true rfl) (fun _ h => List.mem_cons_of_mem _ (List.mem_append_left _ (List.mem_append_left _ (List.mem_append_right _ h)))) (List.mem_of_getElem? (i := 1) rfl) rfl rfl dX9_tree_69 rfl ?_
          refine vv_getf (q := 75) (ref := "HalfLadders$Orchard") (C := RX3) (T := TX3) (N := 10) X (σ.2.2.1) 3 9 (isO_lt 0 ho1 (Nat.le_of_ble_eq_true rfl)) (e_isO (ad := ad) (cy := cy) ho1 _ _) rfl (Nat.le_of_ble_eq_true rfl) (fun _ h => List.mem_cons_of_mem _ (List.mem_append_left _ (List.mem_append_right _ h))) (List.mem_of_getElem? (i := 4) rfl) rfl rfl dX9_tree_72 rfl ?_
          refine vv_iload_n (q := 76) X 1 dX9_tree_75 rfl rfl rfl ?_
          obtain ⟨hin9, h⟩ := h
          refine vv_iald (q := 77) X (σ.2.2.1 + 8) 5 (isO_lt 8 ho1 (Nat.le_of_ble_eq_true rfl)) (fun f => e_isO_8 (ad := ad) (cy := cy) ho1 f σ.2) hin9 dX9_tree_76 rfl ?_
          exact vv_iret X hr dX9_tree_77 ⟨h, rfl⟩
        · have h := h.2 c8
          by_cases c10 : a2 = (3 : Int32)
          · have h := h.1 c10
            refine vv_tabIn (off := 64) X 78 dX9_tree_14 (by rw [c10]; decide) (by rw [c10]; decide) (by rw [c10]; rfl) (by decide) ?_
            refine vv_aload_n (q := 79) X 0 dX9_tree_78 rfl rfl rfl ?_
            refine vv_getf (q := 82) (ref := "HalfLadders") (C := RX9) (T := TX9) (N := 14) X 0 9 9 (Nat.le_of_ble_eq_true rfl) rfl rfl (Nat.le_of_ble_eq_true rfl) (fun _ h => List.mem_cons_of_mem _ (List.mem_append_left _ (List.mem_append_left _ (List.mem_append_right _ h)))) (List.mem_of_getElem? (i := 5) rfl) rfl rfl dX9_tree_79 rfl ?_
            refine vv_getf (q := 85) (ref := "HalfLadders$Now") (C := RX2) (T := TX2) (N := 7) X 65 2 6 (Nat.le_of_ble_eq_true rfl) rfl rfl (Nat.le_of_ble_eq_true rfl) (fun _ h => List.mem_cons_of_mem _ (List.mem_append_right _ h)) (List.mem_of_getElem? (i := 6) rfl) rfl rfl dX9_tree_82 rfl ?_
            refine vv_iload_n (q := 86) X 1 dX9_tree_85 rfl rfl rfl ?_
            obtain ⟨hin11, h⟩ := h
            refine vv_iald (q := 87) X (65 + 1) 5 (isN_lt 1 isN_65 (Nat.le_of_ble_eq_true rfl)) (fun f => e_isN_1 (ad := ad) (cy := cy) isN_65 f σ.2) hin11 dX9_tree_86 rfl ?_
            exact vv_iret X hr dX9_tree_87 ⟨h, rfl⟩
          · have h := h.2 c10
            by_cases c12 : a2 = (4 : Int32)
            · have h := h.1 c12
              refine vv_tabIn (off := 74) X 88 dX9_tree_14 (by rw [c12]; decide) (by rw [c12]; decide) (by rw [c12]; rfl) (by decide) ?_
              refine vv_aload_n (q := 89) X 0 dX9_tree_88 rfl rfl rfl ?_
              refine vv_getf (q := 92) (ref := "HalfLadders") (C := RX9) (T := TX9) (N := 14) X 0 9 9 (Nat.le_of_ble_eq_true rfl) rfl rfl (Nat.le_of_ble_eq_true rfl) (fun _ h => List.mem_cons_of_mem _ (List.mem_append_left _ (List.mem_append_left _ (List.mem_append_right _ h)))) (List.mem_of_getElem? (i := 5) rfl) rfl rfl dX9_tree_89 rfl ?_
              refine vv_getf (q := 95) (ref := "HalfLadders$Now") (C := RX2) (T := TX2) (N := 7) X 65 2 2 (Nat.le_of_ble_eq_true rfl) rfl rfl (Nat.le_of_ble_eq_true rfl) (fun _ h => List.mem_cons_of_mem _ (List.mem_append_right _ h)) (List.mem_of_getElem? (i := 7) rfl) rfl rfl dX9_tree_92 rfl ?_
              refine vv_iload_n (q := 96) X 1 dX9_tree_95 rfl rfl rfl ?_
              refine vv_ishr (q := 97) X dX9_tree_96 rfl ?_
              refine vv_iconst (q := 98) X (1 : Int32) dX9_tree_97 (by decide) rfl ?_
              refine vv_iand (q := 99) X dX9_tree_98 rfl ?_
              exact vv_iret X hr dX9_tree_99 ⟨h, rfl⟩
            · have h := h.2 c12
              refine vv_tabOut X 100 dX9_tree_14 (by have n0 : ¬ a2.toInt = 0 := i32_ne c4; have n1 : ¬ a2.toInt = 1 := i32_ne c6; have n2 : ¬ a2.toInt = 2 := i32_ne c8; have n3 : ¬ a2.toInt = 3 := i32_ne c10; have n4 : ¬ a2.toInt = 4 := i32_ne c12; omega) (by decide) ?_
              refine vv_iconst (q := 101) X (-1 : Int32) dX9_tree_100 (by decide) rfl ?_
              exact vv_iret X hr dX9_tree_101 ⟨h, rfl⟩
  · have h := h.2 c3
    refine vv_iconst (q := 12) X (-1 : Int32) dX9_tree_11 (by decide) rfl ?_
    exact vv_iret X hr dX9_tree_12 ⟨h, rfl⟩

/-! X9_areTwo: areTwo(II)Z -/
def rmX9_areTwo : Room := { frames := 1, cells := 0, slots := 0, locals := 21 }
def wX9_areTwo (σ : St) (a1 : Int32) (a2 : Int32) (P : Int32 → Prop) : Prop :=
isO σ.2.2.1 ∧
wX3_hasHalf σ (σ.2.2.1) a1 (fun r2 : Int32 =>
(r2 = 0 →
P (0 : Int32)) ∧
(¬ r2 = 0 →
wX3_hasHalf σ (σ.2.2.1) a2 (fun r4 : Int32 =>
(r4 = 0 →
P (0 : Int32)) ∧
(¬ r4 = 0 →
(a1 = a2 →
P (0 : Int32)) ∧
(¬ a1 = a2 →
P (1 : Int32))))))

set_option maxHeartbeats 8000000 in
set_option maxRecDepth 100000 in
theorem kX9_areTwo (l : Launch) (D : va_G) {cy : Nat → ClassId} {ad : Nat → Nat} {zb : Nat → Nat} (hw : xOk (wC ad cy zb)) {σ : St} {a1 : Int32} {a2 : Int32} {P : Int32 → Prop} (h : wX9_areTwo σ a1 a2 P) : MI l yX9_areTwo wsX9_areTwo rmX9_areTwo D cy (wC ad cy zb) [.ref (ad 0), .int a1, .int a2] σ (fun r u => P r ∧ u = σ) := by
  unfold MI
  refine vv_met (cc := cX9_areTwo) (maxL := 3) (ret := (some .boolean)) hw (by decide +kernel) rfl [.ref (ad 0), .int a1, .int a2] (Nat.le_of_ble_eq_true rfl) ?_
  intro p e s m args below meth c X hr
  have X : XX p s m args meth c cX9_areTwo 3 D cy (wC ad cy zb) wsX9_areTwo RX9 := X
  refine vv_sub (lv' := [(0, .ref (ad 0)), (1, .int a1), (2, .int a2)]) [0, 1, 2] rfl ?_
  rw [wX9_areTwo] at h
  refine vv_aload_n (q := 1) X 0 dX9_areTwo_0 rfl rfl rfl ?_
  obtain ⟨ho1, h⟩ := h
  refine vv_getf (q := 4) (ref := "HalfLadders") (C := RX9) (T := TX9) (N := 14) X 0 9 2 (Nat.le_of_ble_eq_true rfl) rfl rfl (Nat.le_of_ble_eq_true rfl) (fun _ h => List.mem_cons_of_mem _ (List.mem_append_left _ (List.mem_append_right _ h))) (List.mem_of_getElem? (i := 1) rfl) rfl rfl dX9_areTwo_1 rfl ?_
  refine vv_iload_n (q := 5) X 1 dX9_areTwo_4 rfl rfl rfl ?_
  refine vv_cVi (q := 8) (C := RX3) X (σ.2.2.1) 3 [.int a1] (kX3_hasHalf l D X.2.2.1 h) (cwV 1 X.1.2.2.2.2 gX9_areTwo_X3_hasHalf rfl rfl rfl (by decide +kernel) ⟨Nat.le_of_ble_eq_true rfl, Nat.le_of_ble_eq_true rfl⟩) (isO_lt 0 ho1 (Nat.le_of_ble_eq_true rfl)) (e_isO (ad := ad) (cy := cy) ho1 _ _) rfl rfl rfl (Nat.le_of_ble_eq_true rfl) dX9_areTwo_5 rfl (fun r2 u9 h9 => ?_)
  obtain ⟨h9, hu9⟩ := h9
  subst u9
  have h := h9
  refine vv_if_eq (q := 11) X 31 dX9_areTwo_8 (by decide) rfl (fun c3 => ?_) (fun c3 => ?_)
  · have h := h.1 c3
    refine vv_iconst (q := 32) X (0 : Int32) dX9_areTwo_31 (by decide) rfl ?_
    exact vv_zret X hr rfl dX9_areTwo_32 ⟨h, rfl⟩
  · have h := h.2 c3
    refine vv_aload_n (q := 12) X 0 dX9_areTwo_11 rfl rfl rfl ?_
    refine vv_getf (q := 15) (ref := "HalfLadders") (C := RX9) (T := TX9) (N := 14) X 0 9 2 (Nat.le_of_ble_eq_true rfl) rfl rfl (Nat.le_of_ble_eq_true rfl) (fun _ h => List.mem_cons_of_mem _ (List.mem_append_left _ (List.mem_append_right _ h))) (List.mem_of_getElem? (i := 1) rfl) rfl rfl dX9_areTwo_12 rfl ?_
    refine vv_iload_n (q := 16) X 2 dX9_areTwo_15 rfl rfl rfl ?_
    refine vv_cVi (q := 19) (C := RX3) X (σ.2.2.1) 3 [.int a2] (kX3_hasHalf l D X.2.2.1 h) (cwV 1 X.1.2.2.2.2 gX9_areTwo_X3_hasHalf rfl rfl rfl (by decide +kernel) ⟨Nat.le_of_ble_eq_true rfl, Nat.le_of_ble_eq_true rfl⟩) (isO_lt 0 ho1 (Nat.le_of_ble_eq_true rfl)) (e_isO (ad := ad) (cy := cy) ho1 _ _) rfl rfl rfl (Nat.le_of_ble_eq_true rfl) dX9_areTwo_16 rfl (fun r4 u9 h9 => ?_)
    obtain ⟨h9, hu9⟩ := h9
    subst u9
    have h := h9
    refine vv_if_eq (q := 22) X 31 dX9_areTwo_19 (by decide) rfl (fun c5 => ?_) (fun c5 => ?_)
    · have h := h.1 c5
      refine vv_iconst (q := 32) X (0 : Int32) dX9_areTwo_31 (by decide) rfl ?_
      exact vv_zret X hr rfl dX9_areTwo_32 ⟨h, rfl⟩
    · have h := h.2 c5
      refine vv_iload_n (q := 23) X 1 dX9_areTwo_22 rfl rfl rfl ?_
      refine vv_iload_n (q := 24) X 2 dX9_areTwo_23 rfl rfl rfl ?_
      refine vv_icmp_eq (q := 27) X 31 dX9_areTwo_24 (by decide) rfl (fun c6 => ?_) (fun c6 => ?_)
      · have h := h.1 c6
        refine vv_iconst (q := 32) X (0 : Int32) dX9_areTwo_31 (by decide) rfl ?_
        exact vv_zret X hr rfl dX9_areTwo_32 ⟨h, rfl⟩
      · have h := h.2 c6
        refine vv_iconst (q := 28) X (1 : Int32) dX9_areTwo_27 (by decide) rfl ?_
        refine vv_goto X 32 dX9_areTwo_28 (by decide) ?_
        exact vv_zret X hr rfl dX9_areTwo_32 ⟨h, rfl⟩

/-! X9_fit: fit(II)I -/
def rmX9_fit : Room := { frames := 3, cells := 0, slots := 0, locals := 65 }
def wX9_fit (σ : St) (a1 : Int32) (a2 : Int32) (P : Int32 → Prop) : Prop :=
wX9_areTwo σ a1 a2 (fun r1 : Int32 =>
(¬ r1 = 0 →
isO σ.2.2.1 ∧
wX3_fits σ (σ.2.2.1) a1 a2 (fun r4 : Int32 =>
(r4 = 0 →
P (0 : Int32)) ∧
(¬ r4 = 0 →
P (1 : Int32)))) ∧
(r1 = 0 →
P (-1 : Int32)))

set_option maxHeartbeats 8000000 in
set_option maxRecDepth 100000 in
theorem kX9_fit (l : Launch) (D : va_G) {cy : Nat → ClassId} {ad : Nat → Nat} {zb : Nat → Nat} (hw : xOk (wC ad cy zb)) {σ : St} {a1 : Int32} {a2 : Int32} {P : Int32 → Prop} (h : wX9_fit σ a1 a2 P) : MI l yX9_fit wsX9_fit rmX9_fit D cy (wC ad cy zb) [.ref (ad 0), .int a1, .int a2] σ (fun r u => P r ∧ u = σ) := by
  unfold MI
  refine vv_met (cc := cX9_fit) (maxL := 3) (ret := (some .int)) hw (by decide +kernel) rfl [.ref (ad 0), .int a1, .int a2] (Nat.le_of_ble_eq_true rfl) ?_
  intro p e s m args below meth c X hr
  have X : XX p s m args meth c cX9_fit 3 D cy (wC ad cy zb) wsX9_fit RX9 := X
  refine vv_sub (lv' := [(0, .ref (ad 0)), (1, .int a1), (2, .int a2)]) [0, 1, 2] rfl ?_
  rw [wX9_fit] at h
  refine vv_aload_n (q := 1) X 0 dX9_fit_0 rfl rfl rfl ?_
  refine vv_iload_n (q := 2) X 1 dX9_fit_1 rfl rfl rfl ?_
  refine vv_iload_n (q := 3) X 2 dX9_fit_2 rfl rfl rfl ?_
  refine vv_cVi (q := 6) (C := RX9) X 0 9 [.int a1, .int a2] (kX9_areTwo l D X.2.2.1 h) (cwV 2 X.1.2.2.2.2 gX9_fit_X9_areTwo rfl rfl rfl (by decide +kernel) ⟨Nat.le_of_ble_eq_true rfl, Nat.le_of_ble_eq_true rfl⟩) (Nat.le_of_ble_eq_true rfl) rfl rfl rfl rfl (Nat.le_of_ble_eq_true rfl) dX9_fit_3 rfl (fun r1 u9 h9 => ?_)
  obtain ⟨h9, hu9⟩ := h9
  subst u9
  have h := h9
  refine vv_if_ne (q := 9) X 11 dX9_fit_6 (by decide) rfl (fun c2 => ?_) (fun c2 => ?_)
  · have h := h.1 c2
    refine vv_aload_n (q := 12) X 0 dX9_fit_11 rfl rfl rfl ?_
    obtain ⟨ho3, h⟩ := h
    refine vv_getf (q := 15) (ref := "HalfLadders") (C := RX9) (T := TX9) (N := 14) X 0 9 2 (Nat.le_of_ble_eq_true rfl) rfl rfl (Nat.le_of_ble_eq_true rfl) (fun _ h => List.mem_cons_of_mem _ (List.mem_append_left _ (List.mem_append_right _ h))) (List.mem_of_getElem? (i := 1) rfl) rfl rfl dX9_fit_12 rfl ?_
    refine vv_iload_n (q := 16) X 1 dX9_fit_15 rfl rfl rfl ?_
    refine vv_iload_n (q := 17) X 2 dX9_fit_16 rfl rfl rfl ?_
    refine vv_cVi (q := 20) (C := RX3) X (σ.2.2.1) 3 [.int a1, .int a2] (kX3_fits l D X.2.2.1 h) (cwV 2 X.1.2.2.2.2 gX9_fit_X3_fits rfl rfl rfl (by decide +kernel) ⟨Nat.le_of_ble_eq_true rfl, Nat.le_of_ble_eq_true rfl⟩) (isO_lt 0 ho3 (Nat.le_of_ble_eq_true rfl)) (e_isO (ad := ad) (cy := cy) ho3 _ _) rfl rfl rfl (Nat.le_of_ble_eq_true rfl) dX9_fit_17 rfl (fun r4 u9 h9 => ?_)
    obtain ⟨h9, hu9⟩ := h9
    subst u9
    have h := h9
    refine vv_if_eq (q := 23) X 27 dX9_fit_20 (by decide) rfl (fun c5 => ?_) (fun c5 => ?_)
    · have h := h.1 c5
      refine vv_iconst (q := 28) X (0 : Int32) dX9_fit_27 (by decide) rfl ?_
      exact vv_iret X hr dX9_fit_28 ⟨h, rfl⟩
    · have h := h.2 c5
      refine vv_iconst (q := 24) X (1 : Int32) dX9_fit_23 (by decide) rfl ?_
      refine vv_goto X 28 dX9_fit_24 (by decide) ?_
      exact vv_iret X hr dX9_fit_28 ⟨h, rfl⟩
  · have h := h.2 c2
    refine vv_iconst (q := 10) X (-1 : Int32) dX9_fit_9 (by decide) rfl ?_
    exact vv_iret X hr dX9_fit_10 ⟨h, rfl⟩

/-! X9_climb: climb(III)I -/
def rmX9_climb : Room := { frames := 3, cells := 0, slots := 0, locals := 67 }
def wX9_climb (σ : St) (a1 : Int32) (a2 : Int32) (a3 : Int32) (P : Int32 → St → Prop) : Prop :=
wX9_areTwo σ a1 a2 (fun r1 : Int32 =>
(r1 = 0 →
P (-1 : Int32) σ) ∧
(¬ r1 = 0 →
isO σ.2.2.1 ∧
wX3_hasTree σ (σ.2.2.1) a3 (fun r4 : Int32 =>
(¬ r4 = 0 →
wX4_indexOf σ (((1 : Int32) <<< (a1 &&& 31)) ||| ((1 : Int32) <<< (a2 &&& 31))) (fun r6 : Int32 =>
(0 ≤ r6 →
wX2_pickable σ 65 (σ.2.2.1) r6 a3 (fun r8 : Int32 =>
(¬ r8 = 0 →
vp_in r6 16 ∧
wX2_pick σ 65 (σ.1 28 r6.toNatClampNeg) a3 r8 (fun σ11 : St =>
P r8 σ11)) ∧
(r8 = 0 →
P (-2 : Int32) σ))) ∧
(¬ 0 ≤ r6 →
P (-2 : Int32) σ))) ∧
(r4 = 0 →
P (-1 : Int32) σ))))

set_option maxHeartbeats 8000000 in
set_option maxRecDepth 100000 in
theorem kX9_climb (l : Launch) (D : va_G) {cy : Nat → ClassId} {ad : Nat → Nat} {zb : Nat → Nat} (hw : xOk (wC ad cy zb)) {σ : St} {a1 : Int32} {a2 : Int32} {a3 : Int32} {P : Int32 → St → Prop} (h : wX9_climb σ a1 a2 a3 P) : MI l yX9_climb wsX9_climb rmX9_climb D cy (wC ad cy zb) [.ref (ad 0), .int a1, .int a2, .int a3] σ P := by
  unfold MI
  refine vv_met (cc := cX9_climb) (maxL := 6) (ret := (some .int)) hw (by decide +kernel) rfl [.ref (ad 0), .int a1, .int a2, .int a3] (Nat.le_of_ble_eq_true rfl) ?_
  intro p e s m args below meth c X hr
  have X : XX p s m args meth c cX9_climb 6 D cy (wC ad cy zb) wsX9_climb RX9 := X
  refine vv_sub (lv' := [(0, .ref (ad 0)), (1, .int a1), (2, .int a2), (3, .int a3)]) [0, 1, 2, 3] rfl ?_
  rw [wX9_climb] at h
  refine vv_aload_n (q := 1) X 0 dX9_climb_0 rfl rfl rfl ?_
  refine vv_iload_n (q := 2) X 1 dX9_climb_1 rfl rfl rfl ?_
  refine vv_iload_n (q := 3) X 2 dX9_climb_2 rfl rfl rfl ?_
  refine vv_cVi (q := 6) (C := RX9) X 0 9 [.int a1, .int a2] (kX9_areTwo l D X.2.2.1 h) (cwV 2 X.1.2.2.2.2 gX9_climb_X9_areTwo rfl rfl rfl (by decide +kernel) ⟨Nat.le_of_ble_eq_true rfl, Nat.le_of_ble_eq_true rfl⟩) (Nat.le_of_ble_eq_true rfl) rfl rfl rfl rfl (Nat.le_of_ble_eq_true rfl) dX9_climb_3 rfl (fun r1 u9 h9 => ?_)
  obtain ⟨h9, hu9⟩ := h9
  subst u9
  have h := h9
  refine vv_if_eq (q := 9) X 20 dX9_climb_6 (by decide) rfl (fun c2 => ?_) (fun c2 => ?_)
  · have h := h.1 c2
    refine vv_iconst (q := 21) X (-1 : Int32) dX9_climb_20 (by decide) rfl ?_
    exact vv_iret X hr dX9_climb_21 h
  · have h := h.2 c2
    refine vv_aload_n (q := 10) X 0 dX9_climb_9 rfl rfl rfl ?_
    obtain ⟨ho3, h⟩ := h
    refine vv_getf (q := 13) (ref := "HalfLadders") (C := RX9) (T := TX9) (N := 14) X 0 9 2 (Nat.le_of_ble_eq_true rfl) rfl rfl (Nat.le_of_ble_eq_true rfl) (fun _ h => List.mem_cons_of_mem _ (List.mem_append_left _ (List.mem_append_left _ (List.mem_append_left _ (List.mem_append_right _ h))))) (List.mem_of_getElem? (i := 1) rfl) rfl rfl dX9_climb_10 rfl ?_
    refine vv_iload_n (q := 14) X 3 dX9_climb_13 rfl rfl rfl ?_
    refine vv_cVi (q := 17) (C := RX3) X (σ.2.2.1) 3 [.int a3] (kX3_hasTree l D X.2.2.1 h) (cwV 1 X.1.2.2.2.2 gX9_climb_X3_hasTree rfl rfl rfl (by decide +kernel) ⟨Nat.le_of_ble_eq_true rfl, Nat.le_of_ble_eq_true rfl⟩) (isO_lt 0 ho3 (Nat.le_of_ble_eq_true rfl)) (e_isO (ad := ad) (cy := cy) ho3 _ _) rfl rfl rfl (Nat.le_of_ble_eq_true rfl) dX9_climb_14 rfl (fun r4 u9 h9 => ?_)
    obtain ⟨h9, hu9⟩ := h9
    subst u9
    have h := h9
    refine vv_if_ne (q := 20) X 22 dX9_climb_17 (by decide) rfl (fun c5 => ?_) (fun c5 => ?_)
    · have h := h.1 c5
      refine vv_aload_n (q := 23) X 0 dX9_climb_22 rfl rfl rfl ?_
      refine vv_getf (q := 26) (ref := "HalfLadders") (C := RX9) (T := TX9) (N := 14) X 0 9 4 (Nat.le_of_ble_eq_true rfl) rfl rfl (Nat.le_of_ble_eq_true rfl) (fun _ h => List.mem_cons_of_mem _ (List.mem_append_left _ (List.mem_append_left _ (List.mem_append_left _ (List.mem_append_right _ h))))) (List.mem_of_getElem? (i := 2) rfl) rfl rfl dX9_climb_23 rfl ?_
      refine vv_iconst (q := 27) X (1 : Int32) dX9_climb_26 (by decide) rfl ?_
      refine vv_iload_n (q := 28) X 1 dX9_climb_27 rfl rfl rfl ?_
      refine vv_ishl (q := 29) X dX9_climb_28 rfl ?_
      refine vv_iconst (q := 30) X (1 : Int32) dX9_climb_29 (by decide) rfl ?_
      refine vv_iload_n (q := 31) X 2 dX9_climb_30 rfl rfl rfl ?_
      refine vv_ishl (q := 32) X dX9_climb_31 rfl ?_
      refine vv_ior (q := 33) X dX9_climb_32 rfl ?_
      refine vv_cVi (q := 36) (C := RX4) X 25 4 [.int (((1 : Int32) <<< (a1 &&& 31)) ||| ((1 : Int32) <<< (a2 &&& 31)))] (kX4_indexOf l D X.2.2.1 h) (cwV 1 X.1.2.2.2.2 gX9_climb_X4_indexOf rfl rfl rfl (by decide +kernel) ⟨Nat.le_of_ble_eq_true rfl, Nat.le_of_ble_eq_true rfl⟩) (Nat.le_of_ble_eq_true rfl) rfl rfl rfl rfl (Nat.le_of_ble_eq_true rfl) dX9_climb_33 rfl (fun r6 u9 h9 => ?_)
      obtain ⟨h9, hu9⟩ := h9
      subst u9
      have h := h9
      refine vv_istore (lv2 := [(4, .int r6), (0, .ref (ad 0)), (1, .int a1), (2, .int a2), (3, .int a3)]) (q := 38) X dX9_climb_36 (Nat.le_of_ble_eq_true rfl) rfl rfl ?_
      refine vv_iload (q := 40) X 0 dX9_climb_38 rfl rfl ?_
      refine vv_if_ge (q := 43) X 46 dX9_climb_40 (by decide) rfl (fun c7 => ?_) (fun c7 => ?_)
      · have h := h.1 c7
        refine vv_aload_n (q := 47) X 1 dX9_climb_46 rfl rfl rfl ?_
        refine vv_getf (q := 50) (ref := "HalfLadders") (C := RX9) (T := TX9) (N := 14) X 0 9 9 (Nat.le_of_ble_eq_true rfl) rfl rfl (Nat.le_of_ble_eq_true rfl) (fun _ h => List.mem_cons_of_mem _ (List.mem_append_left _ (List.mem_append_left _ (List.mem_append_left _ (List.mem_append_right _ h))))) (List.mem_of_getElem? (i := 3) rfl) rfl rfl dX9_climb_47 rfl ?_
        refine vv_aload_n (q := 51) X 1 dX9_climb_50 rfl rfl rfl ?_
        refine vv_getf (q := 54) (ref := "HalfLadders") (C := RX9) (T := TX9) (N := 14) X 0 9 2 (Nat.le_of_ble_eq_true rfl) rfl rfl (Nat.le_of_ble_eq_true rfl) (fun _ h => List.mem_cons_of_mem _ (List.mem_append_left _ (List.mem_append_left _ (List.mem_append_left _ (List.mem_append_right _ h))))) (List.mem_of_getElem? (i := 1) rfl) rfl rfl dX9_climb_51 rfl ?_
        refine vv_aload_n (q := 55) X 1 dX9_climb_54 rfl rfl rfl ?_
        refine vv_getf (q := 58) (ref := "HalfLadders") (C := RX9) (T := TX9) (N := 14) X 0 9 4 (Nat.le_of_ble_eq_true rfl) rfl rfl (Nat.le_of_ble_eq_true rfl) (fun _ h => List.mem_cons_of_mem _ (List.mem_append_left _ (List.mem_append_left _ (List.mem_append_left _ (List.mem_append_right _ h))))) (List.mem_of_getElem? (i := 2) rfl) rfl rfl dX9_climb_55 rfl ?_
        refine vv_iload (q := 60) X 0 dX9_climb_58 rfl rfl ?_
        refine vv_iload_n (q := 61) X 4 dX9_climb_60 rfl rfl rfl ?_
        refine vv_cVi (q := 64) (C := RX2) X 65 2 [.ref (ad (σ.2.2.1)), .ref (ad 25), .int r6, .int a3] (kX2_pickable l D X.2.2.1 h) (cwV 4 X.1.2.2.2.2 gX9_climb_X2_pickable rfl rfl rfl (by decide +kernel) ⟨Nat.le_of_ble_eq_true rfl, Nat.le_of_ble_eq_true rfl⟩) (Nat.le_of_ble_eq_true rfl) rfl rfl rfl rfl (Nat.le_of_ble_eq_true rfl) dX9_climb_61 rfl (fun r8 u9 h9 => ?_)
        obtain ⟨h9, hu9⟩ := h9
        subst u9
        have h := h9
        refine vv_istore (lv2 := [(5, .int r8), (4, .int r6), (0, .ref (ad 0)), (1, .int a1), (2, .int a2), (3, .int a3)]) (q := 66) X dX9_climb_64 (Nat.le_of_ble_eq_true rfl) rfl rfl ?_
        refine vv_iload (q := 68) X 0 dX9_climb_66 rfl rfl ?_
        refine vv_if_ne (q := 71) X 74 dX9_climb_68 (by decide) rfl (fun c9 => ?_) (fun c9 => ?_)
        · have h := h.1 c9
          refine vv_aload_n (q := 75) X 2 dX9_climb_74 rfl rfl rfl ?_
          refine vv_getf (q := 78) (ref := "HalfLadders") (C := RX9) (T := TX9) (N := 14) X 0 9 9 (Nat.le_of_ble_eq_true rfl) rfl rfl (Nat.le_of_ble_eq_true rfl) (fun _ h => List.mem_cons_of_mem _ (List.mem_append_left _ (List.mem_append_left _ (List.mem_append_left _ (List.mem_append_right _ h))))) (List.mem_of_getElem? (i := 3) rfl) rfl rfl dX9_climb_75 rfl ?_
          refine vv_aload_n (q := 79) X 2 dX9_climb_78 rfl rfl rfl ?_
          refine vv_getf (q := 82) (ref := "HalfLadders") (C := RX9) (T := TX9) (N := 14) X 0 9 4 (Nat.le_of_ble_eq_true rfl) rfl rfl (Nat.le_of_ble_eq_true rfl) (fun _ h => List.mem_cons_of_mem _ (List.mem_append_left _ (List.mem_append_left _ (List.mem_append_left _ (List.mem_append_right _ h))))) (List.mem_of_getElem? (i := 2) rfl) rfl rfl dX9_climb_79 rfl ?_
          refine vv_getf (q := 85) (ref := "HalfLadders$Pairs") (C := RX4) (T := TX4) (N := 8) X 25 4 4 (Nat.le_of_ble_eq_true rfl) rfl rfl (Nat.le_of_ble_eq_true rfl) (fun _ h => List.mem_cons_of_mem _ (List.mem_append_left _ (List.mem_append_left _ (List.mem_append_right _ h)))) (List.mem_of_getElem? (i := 4) rfl) rfl rfl dX9_climb_82 rfl ?_
          refine vv_iload (q := 87) X 1 dX9_climb_85 rfl rfl ?_
          obtain ⟨hin10, h⟩ := h
          refine vv_iald (q := 88) X 28 16 (Nat.le_of_ble_eq_true rfl) (fun _ => rfl) hin10 dX9_climb_87 rfl ?_
          refine vv_iload_n (q := 89) X 5 dX9_climb_88 rfl rfl rfl ?_
          refine vv_iload (q := 91) X 0 dX9_climb_89 rfl rfl ?_
          refine vv_cVv (q := 94) (C := RX2) X 65 2 [.int (σ.1 28 r6.toNatClampNeg), .int a3, .int r8] (kX2_pick l D X.2.2.1 h) (cwV 3 X.1.2.2.2.2 gX9_climb_X2_pick rfl rfl rfl (by decide +kernel) ⟨Nat.le_of_ble_eq_true rfl, Nat.le_of_ble_eq_true rfl⟩) (Nat.le_of_ble_eq_true rfl) rfl rfl rfl rfl (Nat.le_of_ble_eq_true rfl) dX9_climb_91 rfl (fun σ11 h => ?_)
          refine vv_iload (q := 96) X 0 dX9_climb_94 rfl rfl ?_
          exact vv_iret X hr dX9_climb_96 h
        · have h := h.2 c9
          refine vv_bipush (q := 73) X (-2 : Int32) dX9_climb_71 (by decide) rfl ?_
          exact vv_iret X hr dX9_climb_73 h
      · have h := h.2 c7
        refine vv_bipush (q := 45) X (-2 : Int32) dX9_climb_43 (by decide) rfl ?_
        exact vv_iret X hr dX9_climb_45 h
    · have h := h.2 c5
      refine vv_iconst (q := 21) X (-1 : Int32) dX9_climb_20 (by decide) rfl ?_
      exact vv_iret X hr dX9_climb_21 h

/-! X9_ends: ends()I -/
def rmX9_ends : Room := { frames := 1, cells := 0, slots := 0, locals := 23 }
def wX9_ends (σ : St)  (P : Int32 → St → Prop) : Prop :=
((σ.1 65 0) < (30 : Int32) →
isO σ.2.2.1 ∧
wX2_endDay σ 65 (σ.2.2.1) (fun (r3 : Int32) (σ4 : St) =>
P r3 σ4)) ∧
(¬ (σ.1 65 0) < (30 : Int32) →
P (-2 : Int32) σ)

set_option maxHeartbeats 8000000 in
set_option maxRecDepth 100000 in
theorem kX9_ends (l : Launch) (D : va_G) {cy : Nat → ClassId} {ad : Nat → Nat} {zb : Nat → Nat} (hw : xOk (wC ad cy zb)) {σ : St}  {P : Int32 → St → Prop} (h : wX9_ends σ  P) : MI l yX9_ends wsX9_ends rmX9_ends D cy (wC ad cy zb) [.ref (ad 0)] σ P := by
  unfold MI
  refine vv_met (cc := cX9_ends) (maxL := 1) (ret := (some .int)) hw (by decide +kernel) rfl [.ref (ad 0)] (Nat.le_of_ble_eq_true rfl) ?_
  intro p e s m args below meth c X hr
  have X : XX p s m args meth c cX9_ends 1 D cy (wC ad cy zb) wsX9_ends RX9 := X
  refine vv_sub (lv' := [(0, .ref (ad 0))]) [0] rfl ?_
  rw [wX9_ends] at h
  refine vv_aload_n (q := 1) X 0 dX9_ends_0 rfl rfl rfl ?_
  refine vv_getf (q := 4) (ref := "HalfLadders") (C := RX9) (T := TX9) (N := 14) X 0 9 9 (Nat.le_of_ble_eq_true rfl) rfl rfl (Nat.le_of_ble_eq_true rfl) (fun _ h => List.mem_cons_of_mem _ (List.mem_append_left _ (List.mem_append_left _ (List.mem_append_right _ h)))) (List.mem_of_getElem? (i := 1) rfl) rfl rfl dX9_ends_1 rfl ?_
  refine vv_getf (q := 7) (ref := "HalfLadders$Now") (C := RX2) (T := TX2) (N := 7) X 65 2 0 (Nat.le_of_ble_eq_true rfl) rfl rfl (Nat.le_of_ble_eq_true rfl) (fun _ h => List.mem_cons_of_mem _ (List.mem_append_left _ (List.mem_append_right _ h))) (List.mem_of_getElem? (i := 2) rfl) rfl rfl dX9_ends_4 rfl ?_
  refine vv_bipush (q := 9) X (30 : Int32) dX9_ends_7 (by decide) rfl ?_
  refine vv_icmp_lt (q := 12) X 15 dX9_ends_9 (by decide) rfl (fun c1 => ?_) (fun c1 => ?_)
  · have h := h.1 c1
    refine vv_aload_n (q := 16) X 0 dX9_ends_15 rfl rfl rfl ?_
    refine vv_getf (q := 19) (ref := "HalfLadders") (C := RX9) (T := TX9) (N := 14) X 0 9 9 (Nat.le_of_ble_eq_true rfl) rfl rfl (Nat.le_of_ble_eq_true rfl) (fun _ h => List.mem_cons_of_mem _ (List.mem_append_left _ (List.mem_append_left _ (List.mem_append_right _ h)))) (List.mem_of_getElem? (i := 1) rfl) rfl rfl dX9_ends_16 rfl ?_
    refine vv_aload_n (q := 20) X 0 dX9_ends_19 rfl rfl rfl ?_
    obtain ⟨ho2, h⟩ := h
    refine vv_getf (q := 23) (ref := "HalfLadders") (C := RX9) (T := TX9) (N := 14) X 0 9 2 (Nat.le_of_ble_eq_true rfl) rfl rfl (Nat.le_of_ble_eq_true rfl) (fun _ h => List.mem_cons_of_mem _ (List.mem_append_left _ (List.mem_append_left _ (List.mem_append_right _ h)))) (List.mem_of_getElem? (i := 3) rfl) rfl rfl dX9_ends_20 rfl ?_
    refine vv_cVi (q := 26) (C := RX2) X 65 2 [.ref (ad (σ.2.2.1))] (kX2_endDay l D X.2.2.1 h) (cwV 1 X.1.2.2.2.2 gX9_ends_X2_endDay rfl rfl rfl (by decide +kernel) ⟨Nat.le_of_ble_eq_true rfl, Nat.le_of_ble_eq_true rfl⟩) (Nat.le_of_ble_eq_true rfl) rfl rfl rfl rfl (Nat.le_of_ble_eq_true rfl) dX9_ends_23 rfl (fun r3 σ4 h => ?_)
    exact vv_iret X hr dX9_ends_26 h
  · have h := h.2 c1
    refine vv_bipush (q := 14) X (-2 : Int32) dX9_ends_12 (by decide) rfl ?_
    exact vv_iret X hr dX9_ends_14 h

/-! X9_now: now(I)I -/
def rmX9_now : Room := { frames := 1, cells := 0, slots := 0, locals := 23 }
def wX9_now (σ : St) (a1 : Int32) (P : Int32 → Prop) : Prop :=
(a1 = (0 : Int32) →
P (σ.1 65 0)) ∧
(¬ a1 = (0 : Int32) →
(a1 = (1 : Int32) →
P (σ.1 65 3)) ∧
(¬ a1 = (1 : Int32) →
(a1 = (2 : Int32) →
P (σ.1 65 4)) ∧
(¬ a1 = (2 : Int32) →
(a1 = (3 : Int32) →
isO σ.2.2.1 ∧
wX2_leftOnAll σ 65 (σ.2.2.1) (fun r6 : Int32 =>
P r6)) ∧
(¬ a1 = (3 : Int32) →
(a1 = (4 : Int32) →
P (σ.1 65 1)) ∧
(¬ a1 = (4 : Int32) →
P (-1 : Int32))))))

set_option maxHeartbeats 8000000 in
set_option maxRecDepth 100000 in
theorem kX9_now (l : Launch) (D : va_G) {cy : Nat → ClassId} {ad : Nat → Nat} {zb : Nat → Nat} (hw : xOk (wC ad cy zb)) {σ : St} {a1 : Int32} {P : Int32 → Prop} (h : wX9_now σ a1 P) : MI l yX9_now wsX9_now rmX9_now D cy (wC ad cy zb) [.ref (ad 0), .int a1] σ (fun r u => P r ∧ u = σ) := by
  unfold MI
  refine vv_met (cc := cX9_now) (maxL := 2) (ret := (some .int)) hw (by decide +kernel) rfl [.ref (ad 0), .int a1] (Nat.le_of_ble_eq_true rfl) ?_
  intro p e s m args below meth c X hr
  have X : XX p s m args meth c cX9_now 2 D cy (wC ad cy zb) wsX9_now RX9 := X
  refine vv_sub (lv' := [(0, .ref (ad 0)), (1, .int a1)]) [0, 1] rfl ?_
  rw [wX9_now] at h
  refine vv_iload_n (q := 1) X 1 dX9_now_0 rfl rfl rfl ?_
  by_cases c1 : a1 = (0 : Int32)
  · have h := h.1 c1
    refine vv_tabIn (off := 35) X 36 dX9_now_1 (by rw [c1]; decide) (by rw [c1]; decide) (by rw [c1]; rfl) (by decide) ?_
    refine vv_aload_n (q := 37) X 0 dX9_now_36 rfl rfl rfl ?_
    refine vv_getf (q := 40) (ref := "HalfLadders") (C := RX9) (T := TX9) (N := 14) X 0 9 9 (Nat.le_of_ble_eq_true rfl) rfl rfl (Nat.le_of_ble_eq_true rfl) (fun _ h => List.mem_cons_of_mem _ (List.mem_append_left _ (List.mem_append_left _ (List.mem_append_right _ h)))) (List.mem_of_getElem? (i := 1) rfl) rfl rfl dX9_now_37 rfl ?_
    refine vv_getf (q := 43) (ref := "HalfLadders$Now") (C := RX2) (T := TX2) (N := 7) X 65 2 0 (Nat.le_of_ble_eq_true rfl) rfl rfl (Nat.le_of_ble_eq_true rfl) (fun _ h => List.mem_cons_of_mem _ (List.mem_append_left _ (List.mem_append_right _ h))) (List.mem_of_getElem? (i := 2) rfl) rfl rfl dX9_now_40 rfl ?_
    exact vv_iret X hr dX9_now_43 ⟨h, rfl⟩
  · have h := h.2 c1
    by_cases c2 : a1 = (1 : Int32)
    · have h := h.1 c2
      refine vv_tabIn (off := 43) X 44 dX9_now_1 (by rw [c2]; decide) (by rw [c2]; decide) (by rw [c2]; rfl) (by decide) ?_
      refine vv_aload_n (q := 45) X 0 dX9_now_44 rfl rfl rfl ?_
      refine vv_getf (q := 48) (ref := "HalfLadders") (C := RX9) (T := TX9) (N := 14) X 0 9 9 (Nat.le_of_ble_eq_true rfl) rfl rfl (Nat.le_of_ble_eq_true rfl) (fun _ h => List.mem_cons_of_mem _ (List.mem_append_left _ (List.mem_append_left _ (List.mem_append_right _ h)))) (List.mem_of_getElem? (i := 1) rfl) rfl rfl dX9_now_45 rfl ?_
      refine vv_getf (q := 51) (ref := "HalfLadders$Now") (C := RX2) (T := TX2) (N := 7) X 65 2 3 (Nat.le_of_ble_eq_true rfl) rfl rfl (Nat.le_of_ble_eq_true rfl) (fun _ h => List.mem_cons_of_mem _ (List.mem_append_left _ (List.mem_append_right _ h))) (List.mem_of_getElem? (i := 3) rfl) rfl rfl dX9_now_48 rfl ?_
      exact vv_iret X hr dX9_now_51 ⟨h, rfl⟩
    · have h := h.2 c2
      by_cases c3 : a1 = (2 : Int32)
      · have h := h.1 c3
        refine vv_tabIn (off := 51) X 52 dX9_now_1 (by rw [c3]; decide) (by rw [c3]; decide) (by rw [c3]; rfl) (by decide) ?_
        refine vv_aload_n (q := 53) X 0 dX9_now_52 rfl rfl rfl ?_
        refine vv_getf (q := 56) (ref := "HalfLadders") (C := RX9) (T := TX9) (N := 14) X 0 9 9 (Nat.le_of_ble_eq_true rfl) rfl rfl (Nat.le_of_ble_eq_true rfl) (fun _ h => List.mem_cons_of_mem _ (List.mem_append_left _ (List.mem_append_left _ (List.mem_append_right _ h)))) (List.mem_of_getElem? (i := 1) rfl) rfl rfl dX9_now_53 rfl ?_
        refine vv_getf (q := 59) (ref := "HalfLadders$Now") (C := RX2) (T := TX2) (N := 7) X 65 2 4 (Nat.le_of_ble_eq_true rfl) rfl rfl (Nat.le_of_ble_eq_true rfl) (fun _ h => List.mem_cons_of_mem _ (List.mem_append_left _ (List.mem_append_right _ h))) (List.mem_of_getElem? (i := 4) rfl) rfl rfl dX9_now_56 rfl ?_
        exact vv_iret X hr dX9_now_59 ⟨h, rfl⟩
      · have h := h.2 c3
        by_cases c4 : a1 = (3 : Int32)
        · have h := h.1 c4
          refine vv_tabIn (off := 59) X 60 dX9_now_1 (by rw [c4]; decide) (by rw [c4]; decide) (by rw [c4]; rfl) (by decide) ?_
          refine vv_aload_n (q := 61) X 0 dX9_now_60 rfl rfl rfl ?_
          refine vv_getf (q := 64) (ref := "HalfLadders") (C := RX9) (T := TX9) (N := 14) X 0 9 9 (Nat.le_of_ble_eq_true rfl) rfl rfl (Nat.le_of_ble_eq_true rfl) (fun _ h => List.mem_cons_of_mem _ (List.mem_append_left _ (List.mem_append_left _ (List.mem_append_right _ h)))) (List.mem_of_getElem? (i := 1) rfl) rfl rfl dX9_now_61 rfl ?_
          refine vv_aload_n (q := 65) X 0 dX9_now_64 rfl rfl rfl ?_
          obtain ⟨ho5, h⟩ := h
          refine vv_getf (q := 68) (ref := "HalfLadders") (C := RX9) (T := TX9) (N := 14) X 0 9 2 (Nat.le_of_ble_eq_true rfl) rfl rfl (Nat.le_of_ble_eq_true rfl) (fun _ h => List.mem_cons_of_mem _ (List.mem_append_left _ (List.mem_append_left _ (List.mem_append_right _ h)))) (List.mem_of_getElem? (i := 5) rfl) rfl rfl dX9_now_65 rfl ?_
          refine vv_cVi (q := 71) (C := RX2) X 65 2 [.ref (ad (σ.2.2.1))] (kX2_leftOnAll l D X.2.2.1 h) (cwV 1 X.1.2.2.2.2 gX9_now_X2_leftOnAll rfl rfl rfl (by decide +kernel) ⟨Nat.le_of_ble_eq_true rfl, Nat.le_of_ble_eq_true rfl⟩) (Nat.le_of_ble_eq_true rfl) rfl rfl rfl rfl (Nat.le_of_ble_eq_true rfl) dX9_now_68 rfl (fun r6 u9 h9 => ?_)
          obtain ⟨h9, hu9⟩ := h9
          subst u9
          have h := h9
          exact vv_iret X hr dX9_now_71 ⟨h, rfl⟩
        · have h := h.2 c4
          by_cases c7 : a1 = (4 : Int32)
          · have h := h.1 c7
            refine vv_tabIn (off := 71) X 72 dX9_now_1 (by rw [c7]; decide) (by rw [c7]; decide) (by rw [c7]; rfl) (by decide) ?_
            refine vv_aload_n (q := 73) X 0 dX9_now_72 rfl rfl rfl ?_
            refine vv_getf (q := 76) (ref := "HalfLadders") (C := RX9) (T := TX9) (N := 14) X 0 9 9 (Nat.le_of_ble_eq_true rfl) rfl rfl (Nat.le_of_ble_eq_true rfl) (fun _ h => List.mem_cons_of_mem _ (List.mem_append_left _ (List.mem_append_left _ (List.mem_append_right _ h)))) (List.mem_of_getElem? (i := 1) rfl) rfl rfl dX9_now_73 rfl ?_
            refine vv_getf (q := 79) (ref := "HalfLadders$Now") (C := RX2) (T := TX2) (N := 7) X 65 2 1 (Nat.le_of_ble_eq_true rfl) rfl rfl (Nat.le_of_ble_eq_true rfl) (fun _ h => List.mem_cons_of_mem _ (List.mem_append_left _ (List.mem_append_right _ h))) (List.mem_of_getElem? (i := 6) rfl) rfl rfl dX9_now_76 rfl ?_
            exact vv_iret X hr dX9_now_79 ⟨h, rfl⟩
          · have h := h.2 c7
            refine vv_tabOut X 80 dX9_now_1 (by have n0 : ¬ a1.toInt = 0 := i32_ne c1; have n1 : ¬ a1.toInt = 1 := i32_ne c2; have n2 : ¬ a1.toInt = 2 := i32_ne c3; have n3 : ¬ a1.toInt = 3 := i32_ne c4; have n4 : ¬ a1.toInt = 4 := i32_ne c7; omega) (by decide) ?_
            refine vv_iconst (q := 81) X (-1 : Int32) dX9_now_80 (by decide) rfl ?_
            exact vv_iret X hr dX9_now_81 ⟨h, rfl⟩

/-! X9_year: year()I -/
def rmX9_year : Room := { frames := 1, cells := 0, slots := 0, locals := 23 }
def wX9_year (σ : St)  (P : Int32 → St → Prop) : Prop :=
wX2_begin σ 65 (fun σ1 : St =>
isO σ1.2.2.1 ∧
wX2_blossom σ1 65 (σ1.2.2.1) (fun σ3 : St =>
isO σ3.2.2.1 ∧
wX2_leftOnAll σ3 65 (σ3.2.2.1) (fun r5 : Int32 =>
P r5 σ3)))

set_option maxHeartbeats 8000000 in
set_option maxRecDepth 100000 in
theorem kX9_year (l : Launch) (D : va_G) {cy : Nat → ClassId} {ad : Nat → Nat} {zb : Nat → Nat} (hw : xOk (wC ad cy zb)) {σ : St}  {P : Int32 → St → Prop} (h : wX9_year σ  P) : MI l yX9_year wsX9_year rmX9_year D cy (wC ad cy zb) [.ref (ad 0)] σ P := by
  unfold MI
  refine vv_met (cc := cX9_year) (maxL := 1) (ret := (some .int)) hw (by decide +kernel) rfl [.ref (ad 0)] (Nat.le_of_ble_eq_true rfl) ?_
  intro p e s m args below meth c X hr
  have X : XX p s m args meth c cX9_year 1 D cy (wC ad cy zb) wsX9_year RX9 := X
  refine vv_sub (lv' := [(0, .ref (ad 0))]) [0] rfl ?_
  rw [wX9_year] at h
  refine vv_aload_n (q := 1) X 0 dX9_year_0 rfl rfl rfl ?_
  refine vv_getf (q := 4) (ref := "HalfLadders") (C := RX9) (T := TX9) (N := 14) X 0 9 9 (Nat.le_of_ble_eq_true rfl) rfl rfl (Nat.le_of_ble_eq_true rfl) (fun _ h => List.mem_cons_of_mem _ (List.mem_append_left _ (List.mem_append_left _ (List.mem_append_right _ h)))) (List.mem_of_getElem? (i := 1) rfl) rfl rfl dX9_year_1 rfl ?_
  refine vv_cVv (q := 7) (C := RX2) X 65 2 [] (kX2_begin l D X.2.2.1 h) (cwV 0 X.1.2.2.2.2 gX9_year_X2_begin rfl rfl rfl (by decide +kernel) ⟨Nat.le_of_ble_eq_true rfl, Nat.le_of_ble_eq_true rfl⟩) (Nat.le_of_ble_eq_true rfl) rfl rfl rfl rfl (Nat.le_of_ble_eq_true rfl) dX9_year_4 rfl (fun σ1 h => ?_)
  refine vv_aload_n (q := 8) X 0 dX9_year_7 rfl rfl rfl ?_
  refine vv_getf (q := 11) (ref := "HalfLadders") (C := RX9) (T := TX9) (N := 14) X 0 9 9 (Nat.le_of_ble_eq_true rfl) rfl rfl (Nat.le_of_ble_eq_true rfl) (fun _ h => List.mem_cons_of_mem _ (List.mem_append_left _ (List.mem_append_left _ (List.mem_append_right _ h)))) (List.mem_of_getElem? (i := 1) rfl) rfl rfl dX9_year_8 rfl ?_
  refine vv_aload_n (q := 12) X 0 dX9_year_11 rfl rfl rfl ?_
  obtain ⟨ho2, h⟩ := h
  refine vv_getf (q := 15) (ref := "HalfLadders") (C := RX9) (T := TX9) (N := 14) X 0 9 2 (Nat.le_of_ble_eq_true rfl) rfl rfl (Nat.le_of_ble_eq_true rfl) (fun _ h => List.mem_cons_of_mem _ (List.mem_append_left _ (List.mem_append_left _ (List.mem_append_right _ h)))) (List.mem_of_getElem? (i := 2) rfl) rfl rfl dX9_year_12 rfl ?_
  refine vv_cVv (q := 18) (C := RX2) X 65 2 [.ref (ad (σ1.2.2.1))] (kX2_blossom l D X.2.2.1 h) (cwV 1 X.1.2.2.2.2 gX9_year_X2_blossom rfl rfl rfl (by decide +kernel) ⟨Nat.le_of_ble_eq_true rfl, Nat.le_of_ble_eq_true rfl⟩) (Nat.le_of_ble_eq_true rfl) rfl rfl rfl rfl (Nat.le_of_ble_eq_true rfl) dX9_year_15 rfl (fun σ3 h => ?_)
  refine vv_aload_n (q := 19) X 0 dX9_year_18 rfl rfl rfl ?_
  refine vv_getf (q := 22) (ref := "HalfLadders") (C := RX9) (T := TX9) (N := 14) X 0 9 9 (Nat.le_of_ble_eq_true rfl) rfl rfl (Nat.le_of_ble_eq_true rfl) (fun _ h => List.mem_cons_of_mem _ (List.mem_append_left _ (List.mem_append_left _ (List.mem_append_right _ h)))) (List.mem_of_getElem? (i := 1) rfl) rfl rfl dX9_year_19 rfl ?_
  refine vv_aload_n (q := 23) X 0 dX9_year_22 rfl rfl rfl ?_
  obtain ⟨ho4, h⟩ := h
  refine vv_getf (q := 26) (ref := "HalfLadders") (C := RX9) (T := TX9) (N := 14) X 0 9 2 (Nat.le_of_ble_eq_true rfl) rfl rfl (Nat.le_of_ble_eq_true rfl) (fun _ h => List.mem_cons_of_mem _ (List.mem_append_left _ (List.mem_append_left _ (List.mem_append_right _ h)))) (List.mem_of_getElem? (i := 2) rfl) rfl rfl dX9_year_23 rfl ?_
  refine vv_cVi (q := 29) (C := RX2) X 65 2 [.ref (ad (σ3.2.2.1))] (kX2_leftOnAll l D X.2.2.1 h) (cwV 1 X.1.2.2.2.2 gX9_year_X2_leftOnAll rfl rfl rfl (by decide +kernel) ⟨Nat.le_of_ble_eq_true rfl, Nat.le_of_ble_eq_true rfl⟩) (Nat.le_of_ble_eq_true rfl) rfl rfl rfl rfl (Nat.le_of_ble_eq_true rfl) dX9_year_26 rfl (fun r5 u9 h9 => ?_)
  obtain ⟨h9, hu9⟩ := h9
  subst u9
  have h := h9
  exact vv_iret X hr dX9_year_29 h

/-! X9_lot: lot(I)I -/
def rmX9_lot : Room := { frames := 0, cells := 0, slots := 0, locals := 0 }
def wX9_lot (σ : St) (a1 : Int32) (P : Int32 → St → Prop) : Prop :=
∀ z1 : Int32, z1 = (σ.1 65 5) →
∀ σ2 : St, σ2 = sI σ 65 5 a1 →
P z1 σ2

set_option maxHeartbeats 8000000 in
set_option maxRecDepth 100000 in
theorem kX9_lot (l : Launch) (D : va_G) {cy : Nat → ClassId} {ad : Nat → Nat} {zb : Nat → Nat} (hw : xOk (wC ad cy zb)) {σ : St} {a1 : Int32} {P : Int32 → St → Prop} (h : wX9_lot σ a1 P) : MI l yX9_lot wsX9_lot rmX9_lot D cy (wC ad cy zb) [.ref (ad 0), .int a1] σ P := by
  unfold MI
  refine vv_met (cc := cX9_lot) (maxL := 3) (ret := (some .int)) hw (by decide +kernel) rfl [.ref (ad 0), .int a1] (Nat.le_of_ble_eq_true rfl) ?_
  intro p e s m args below meth c X hr
  have X : XX p s m args meth c cX9_lot 3 D cy (wC ad cy zb) wsX9_lot RX9 := X
  refine vv_sub (lv' := [(0, .ref (ad 0)), (1, .int a1)]) [0, 1] rfl ?_
  rw [wX9_lot] at h
  refine vv_aload_n (q := 1) X 0 dX9_lot_0 rfl rfl rfl ?_
  refine vv_getf (q := 4) (ref := "HalfLadders") (C := RX9) (T := TX9) (N := 14) X 0 9 9 (Nat.le_of_ble_eq_true rfl) rfl rfl (Nat.le_of_ble_eq_true rfl) (fun _ h => List.mem_cons_of_mem _ (List.mem_append_left _ (List.mem_append_right _ h))) (List.mem_of_getElem? (i := 1) rfl) rfl rfl dX9_lot_1 rfl ?_
  refine vv_getf (q := 7) (ref := "HalfLadders$Now") (C := RX2) (T := TX2) (N := 7) X 65 2 5 (Nat.le_of_ble_eq_true rfl) rfl rfl (Nat.le_of_ble_eq_true rfl) (fun _ h => List.mem_cons_of_mem _ (List.mem_append_right _ h)) (List.mem_of_getElem? (i := 2) rfl) rfl rfl dX9_lot_4 rfl ?_
  refine vv_topi (fun z1 hz1 => ?_)
  have h := h z1 hz1
  refine vv_istore_n (lv2 := [(2, .int z1), (0, .ref (ad 0)), (1, .int a1)]) (q := 8) X dX9_lot_7 rfl (Nat.le_of_ble_eq_true rfl) rfl rfl ?_
  refine vv_aload_n (q := 9) X 1 dX9_lot_8 rfl rfl rfl ?_
  refine vv_getf (q := 12) (ref := "HalfLadders") (C := RX9) (T := TX9) (N := 14) X 0 9 9 (Nat.le_of_ble_eq_true rfl) rfl rfl (Nat.le_of_ble_eq_true rfl) (fun _ h => List.mem_cons_of_mem _ (List.mem_append_left _ (List.mem_append_right _ h))) (List.mem_of_getElem? (i := 1) rfl) rfl rfl dX9_lot_9 rfl ?_
  refine vv_iload_n (q := 13) X 2 dX9_lot_12 rfl rfl rfl ?_
  refine vv_putf (q := 16) (ref := "HalfLadders$Now") (C := RX2) (T := TX2) (N := 7) X 65 2 5 tyX2 tyX2_ok nmX2 (Nat.le_of_ble_eq_true rfl) rfl rfl rfl (Nat.le_of_ble_eq_true rfl) rfl (fun _ h => List.mem_cons_of_mem _ (List.mem_append_right _ h)) (List.mem_of_getElem? (i := 2) rfl) rfl rfl rfl dX9_lot_13 rfl ?_
  refine vv_nm (fun σ2 hσ2 => ?_)
  have h := h σ2 hσ2
  refine vv_iload_n (q := 17) X 0 dX9_lot_16 rfl rfl rfl ?_
  exact vv_iret X hr dX9_lot_17 h

/-! X9_best: best(I)I -/
def rmX9_best : Room := { frames := 4, cells := 0, slots := 0, locals := 97 }
def wX9_best (σ : St) (a1 : Int32) (P : Int32 → St → Prop) : Prop :=
jn (isO σ.2.2.1 ∧
wX5_make σ (σ.2.2.1) 65 (fun (r3 : Int32) (σ4 : St) =>
(¬ a1 = (-1 : Int32) →
vp_in a1 5 ∧
∀ z7 : Int32, z7 = (σ4.1 51 a1.toNatClampNeg) →
(¬ z7 = (-1 : Int32) →
wX4_numberOf σ4 z7 (fun r9 : Int32 =>
P r9 σ4)) ∧
(z7 = (-1 : Int32) →
P (-9 : Int32) σ4)) ∧
(a1 = (-1 : Int32) →
P r3 σ4))) (fun J1 : Prop =>
(a1 = (-1 : Int32) →
J1) ∧
(¬ a1 = (-1 : Int32) →
isO σ.2.2.1 ∧
wX3_hasTree σ (σ.2.2.1) a1 (fun r12 : Int32 =>
(¬ r12 = 0 →
J1) ∧
(r12 = 0 →
P (-1 : Int32) σ))))

set_option maxHeartbeats 8000000 in
set_option maxRecDepth 100000 in
theorem kX9_best (l : Launch) (D : va_G) {cy : Nat → ClassId} {ad : Nat → Nat} {zb : Nat → Nat} (hw : xOk (wC ad cy zb)) {σ : St} {a1 : Int32} {P : Int32 → St → Prop} (h : wX9_best σ a1 P) : MI l yX9_best wsX9_best rmX9_best D cy (wC ad cy zb) [.ref (ad 0), .int a1] σ P := by
  unfold MI
  refine vv_met (cc := cX9_best) (maxL := 4) (ret := (some .int)) hw (by decide +kernel) rfl [.ref (ad 0), .int a1] (Nat.le_of_ble_eq_true rfl) ?_
  intro p e s m args below meth c X hr
  have X : XX p s m args meth c cX9_best 4 D cy (wC ad cy zb) wsX9_best RX9 := X
  refine vv_sub (lv' := [(0, .ref (ad 0)), (1, .int a1)]) [0, 1] rfl ?_
  rw [wX9_best] at h
  refine vv_iload_n (q := 1) X 1 dX9_best_0 rfl rfl rfl ?_
  refine vv_iconst (q := 2) X (-1 : Int32) dX9_best_1 (by decide) rfl ?_
  obtain ⟨J1, hJ1, h⟩ := jn_el h
  have tJ1 : J1 → VV p l e rmX9_best s m args below meth c (MQ below (va_Qi P (xPost D (wC ad cy zb)) (xA (wC ad cy zb))) args s 0 0 (xA (wC ad cy zb))) 4 D (wC ad cy zb) σ 18 [(0, .ref (ad 0)), (1, .int a1)] [] := by
    intro h
    rw [hJ1] at h
    refine vv_aload_n (q := 19) X 0 dX9_best_18 rfl rfl rfl ?_
    refine vv_getf (q := 22) (ref := "HalfLadders") (C := RX9) (T := TX9) (N := 14) X 0 9 8 (Nat.le_of_ble_eq_true rfl) rfl rfl (Nat.le_of_ble_eq_true rfl) (fun _ h => List.mem_cons_of_mem _ (List.mem_append_left _ (List.mem_append_left _ (List.mem_append_left _ (List.mem_append_left _ (List.mem_append_right _ h)))))) (List.mem_of_getElem? (i := 2) rfl) rfl rfl dX9_best_19 rfl ?_
    refine vv_aload_n (q := 23) X 0 dX9_best_22 rfl rfl rfl ?_
    obtain ⟨ho2, h⟩ := h
    refine vv_getf (q := 26) (ref := "HalfLadders") (C := RX9) (T := TX9) (N := 14) X 0 9 2 (Nat.le_of_ble_eq_true rfl) rfl rfl (Nat.le_of_ble_eq_true rfl) (fun _ h => List.mem_cons_of_mem _ (List.mem_append_left _ (List.mem_append_left _ (List.mem_append_left _ (List.mem_append_left _ (List.mem_append_right _ h)))))) (List.mem_of_getElem? (i := 1) rfl) rfl rfl dX9_best_23 rfl ?_
    refine vv_aload_n (q := 27) X 0 dX9_best_26 rfl rfl rfl ?_
    refine vv_getf (q := 30) (ref := "HalfLadders") (C := RX9) (T := TX9) (N := 14) X 0 9 4 (Nat.le_of_ble_eq_true rfl) rfl rfl (Nat.le_of_ble_eq_true rfl) (fun _ h => List.mem_cons_of_mem _ (List.mem_append_left _ (List.mem_append_left _ (List.mem_append_left _ (List.mem_append_left _ (List.mem_append_right _ h)))))) (List.mem_of_getElem? (i := 3) rfl) rfl rfl dX9_best_27 rfl ?_
    refine vv_aload_n (q := 31) X 0 dX9_best_30 rfl rfl rfl ?_
    refine vv_getf (q := 34) (ref := "HalfLadders") (C := RX9) (T := TX9) (N := 14) X 0 9 9 (Nat.le_of_ble_eq_true rfl) rfl rfl (Nat.le_of_ble_eq_true rfl) (fun _ h => List.mem_cons_of_mem _ (List.mem_append_left _ (List.mem_append_left _ (List.mem_append_left _ (List.mem_append_left _ (List.mem_append_right _ h)))))) (List.mem_of_getElem? (i := 4) rfl) rfl rfl dX9_best_31 rfl ?_
    refine vv_cVi (q := 37) (C := RX5) X 50 5 [.ref (ad (σ.2.2.1)), .ref (ad 25), .ref (ad 65)] (kX5_make l D X.2.2.1 h) (cwV 3 X.1.2.2.2.2 gX9_best_X5_make rfl rfl rfl (by decide +kernel) ⟨Nat.le_of_ble_eq_true rfl, Nat.le_of_ble_eq_true rfl⟩) (Nat.le_of_ble_eq_true rfl) rfl rfl rfl rfl (Nat.le_of_ble_eq_true rfl) dX9_best_34 rfl (fun r3 σ4 h => ?_)
    refine vv_istore_n (lv2 := [(2, .int r3), (0, .ref (ad 0)), (1, .int a1)]) (q := 38) X dX9_best_37 rfl (Nat.le_of_ble_eq_true rfl) rfl rfl ?_
    refine vv_iload_n (q := 39) X 2 dX9_best_38 rfl rfl rfl ?_
    refine vv_iconst (q := 40) X (-1 : Int32) dX9_best_39 (by decide) rfl ?_
    refine vv_icmp_ne (q := 43) X 45 dX9_best_40 (by decide) rfl (fun c5 => ?_) (fun c5 => ?_)
    · have h := h.1 c5
      refine vv_aload_n (q := 46) X 1 dX9_best_45 rfl rfl rfl ?_
      refine vv_getf (q := 49) (ref := "HalfLadders") (C := RX9) (T := TX9) (N := 14) X 0 9 8 (Nat.le_of_ble_eq_true rfl) rfl rfl (Nat.le_of_ble_eq_true rfl) (fun _ h => List.mem_cons_of_mem _ (List.mem_append_left _ (List.mem_append_left _ (List.mem_append_left _ (List.mem_append_left _ (List.mem_append_right _ h)))))) (List.mem_of_getElem? (i := 2) rfl) rfl rfl dX9_best_46 rfl ?_
      refine vv_getf (q := 52) (ref := "HalfLadders$Plan") (C := RX5) (T := TX5) (N := 3) X 50 5 0 (Nat.le_of_ble_eq_true rfl) rfl rfl (Nat.le_of_ble_eq_true rfl) (fun _ h => List.mem_cons_of_mem _ (List.mem_append_left _ (List.mem_append_left _ (List.mem_append_left _ (List.mem_append_right _ h))))) (List.mem_of_getElem? (i := 5) rfl) rfl rfl dX9_best_49 rfl ?_
      refine vv_iload_n (q := 53) X 2 dX9_best_52 rfl rfl rfl ?_
      obtain ⟨hin6, h⟩ := h
      refine vv_iald (q := 54) X 51 5 (Nat.le_of_ble_eq_true rfl) (fun _ => rfl) hin6 dX9_best_53 rfl ?_
      refine vv_topi (fun z7 hz7 => ?_)
      have h := h z7 hz7
      refine vv_istore_n (lv2 := [(3, .int z7), (2, .int r3), (0, .ref (ad 0)), (1, .int a1)]) (q := 55) X dX9_best_54 rfl (Nat.le_of_ble_eq_true rfl) rfl rfl ?_
      refine vv_iload_n (q := 56) X 0 dX9_best_55 rfl rfl rfl ?_
      refine vv_iconst (q := 57) X (-1 : Int32) dX9_best_56 (by decide) rfl ?_
      refine vv_icmp_ne (q := 60) X 65 dX9_best_57 (by decide) rfl (fun c8 => ?_) (fun c8 => ?_)
      · have h := h.1 c8
        refine vv_aload_n (q := 66) X 2 dX9_best_65 rfl rfl rfl ?_
        refine vv_getf (q := 69) (ref := "HalfLadders") (C := RX9) (T := TX9) (N := 14) X 0 9 4 (Nat.le_of_ble_eq_true rfl) rfl rfl (Nat.le_of_ble_eq_true rfl) (fun _ h => List.mem_cons_of_mem _ (List.mem_append_left _ (List.mem_append_left _ (List.mem_append_left _ (List.mem_append_left _ (List.mem_append_right _ h)))))) (List.mem_of_getElem? (i := 3) rfl) rfl rfl dX9_best_66 rfl ?_
        refine vv_iload_n (q := 70) X 0 dX9_best_69 rfl rfl rfl ?_
        refine vv_cVi (q := 73) (C := RX4) X 25 4 [.int z7] (kX4_numberOf l D X.2.2.1 h) (cwV 1 X.1.2.2.2.2 gX9_best_X4_numberOf rfl rfl rfl (by decide +kernel) ⟨Nat.le_of_ble_eq_true rfl, Nat.le_of_ble_eq_true rfl⟩) (Nat.le_of_ble_eq_true rfl) rfl rfl rfl rfl (Nat.le_of_ble_eq_true rfl) dX9_best_70 rfl (fun r9 u9 h9 => ?_)
        obtain ⟨h9, hu9⟩ := h9
        subst u9
        have h := h9
        exact vv_iret X hr dX9_best_73 h
      · have h := h.2 c8
        refine vv_bipush (q := 62) X (-9 : Int32) dX9_best_60 (by decide) rfl ?_
        refine vv_goto X 73 dX9_best_62 (by decide) ?_
        exact vv_iret X hr dX9_best_73 h
    · have h := h.2 c5
      refine vv_iload_n (q := 44) X 0 dX9_best_43 rfl rfl rfl ?_
      exact vv_iret X hr dX9_best_44 h
  refine vv_icmp_eq (q := 5) X 18 dX9_best_2 (by decide) rfl (fun c10 => ?_) (fun c10 => ?_)
  · have h := h.1 c10
    exact tJ1  h
  · have h := h.2 c10
    refine vv_aload_n (q := 6) X 0 dX9_best_5 rfl rfl rfl ?_
    obtain ⟨ho11, h⟩ := h
    refine vv_getf (q := 9) (ref := "HalfLadders") (C := RX9) (T := TX9) (N := 14) X 0 9 2 (Nat.le_of_ble_eq_true rfl) rfl rfl (Nat.le_of_ble_eq_true rfl) (fun _ h => List.mem_cons_of_mem _ (List.mem_append_left _ (List.mem_append_left _ (List.mem_append_left _ (List.mem_append_left _ (List.mem_append_right _ h)))))) (List.mem_of_getElem? (i := 1) rfl) rfl rfl dX9_best_6 rfl ?_
    refine vv_iload_n (q := 10) X 1 dX9_best_9 rfl rfl rfl ?_
    refine vv_cVi (q := 13) (C := RX3) X (σ.2.2.1) 3 [.int a1] (kX3_hasTree l D X.2.2.1 h) (cwV 1 X.1.2.2.2.2 gX9_best_X3_hasTree rfl rfl rfl (by decide +kernel) ⟨Nat.le_of_ble_eq_true rfl, Nat.le_of_ble_eq_true rfl⟩) (isO_lt 0 ho11 (Nat.le_of_ble_eq_true rfl)) (e_isO (ad := ad) (cy := cy) ho11 _ _) rfl rfl rfl (Nat.le_of_ble_eq_true rfl) dX9_best_10 rfl (fun r12 u9 h9 => ?_)
    obtain ⟨h9, hu9⟩ := h9
    subst u9
    have h := h9
    refine vv_if_ne (q := 16) X 18 dX9_best_13 (by decide) rfl (fun c13 => ?_) (fun c13 => ?_)
    · have h := h.1 c13
      exact tJ1  h
    · have h := h.2 c13
      refine vv_iconst (q := 17) X (-1 : Int32) dX9_best_16 (by decide) rfl ?_
      exact vv_iret X hr dX9_best_17 h

/-! X9_season: season(I)I -/
def rmX9_season : Room := { frames := 4, cells := 0, slots := 0, locals := 97 }
def wLX9_season_28 (f1 : Int32)  (K104 : St → Int32 → Prop) (P : Int32 → St → Prop) : Nat → St → Int32 → Int32 → Prop
  | 0, _, _, _ => False
  | n + 1, σ, x2, x3 =>
    (f1 ≤ x3 →
    K104 σ x2) ∧
    (¬ f1 ≤ x3 →
    ((30 : Int32) < (σ.1 67 0) →
    K104 σ x2) ∧
    (¬ (30 : Int32) < (σ.1 67 0) →
    isO σ.2.2.1 ∧
    wX5_make σ (σ.2.2.1) 67 (fun (r7 : Int32) (σ8 : St) =>
    ∀ z9 : Int32, z9 = (x2 + r7) →
    isO σ8.2.2.1 ∧
    wX5_carryOut σ8 (σ8.2.2.1) 67 (fun σ11 : St =>
    isO σ11.2.2.1 ∧
    wX2_endDay σ11 67 (σ11.2.2.1) (fun (r13 : Int32) (σ14 : St) =>
    ∀ z15 : Int32, z15 = x3 + (1 : Int32) →
    wLX9_season_28 f1 K104 P n σ14 z9 z15)))))

set_option maxHeartbeats 4000000 in
set_option maxRecDepth 100000 in
theorem twLX9_season_28 {p : Program} {l : Launch} {e : Env} {s : State} {m : MethodId} {args : Array Value} {below : List Frame} {meth : Method} {c : Code} {D : va_G} {cy : Nat → ClassId} {ad : Nat → Nat} {zb : Nat → Nat} (X : XX p s m args meth c cX9_season 4 D cy (wC ad cy zb) wsX9_season RX9) (hr : meth.sig.returnType = (some .int)) (f1 : Int32)   (K104 : St → Int32 → Prop) {P : Int32 → St → Prop} (hK104 : ∀ (σ : St) (x2 : Int32), K104 σ x2 → VV p l e rmX9_season s m args below meth c (MQ below (va_Qi P (xPost D (wC ad cy zb)) (xA (wC ad cy zb))) args s 0 0 (xA (wC ad cy zb))) 4 D (wC ad cy zb) σ 104 [(2, .int x2)] []) : ∀ (n : Nat) (σ : St) (x2 : Int32) (x3 : Int32), wLX9_season_28 f1 K104 P n σ x2 x3 → VV p l e rmX9_season s m args below meth c (MQ below (va_Qi P (xPost D (wC ad cy zb)) (xA (wC ad cy zb))) args s 0 0 (xA (wC ad cy zb))) 4 D (wC ad cy zb) σ 28 [(0, .ref (ad 0)), (1, .int f1), (2, .int x2), (3, .int x3)] [] := by
  intro n
  induction n with
  | zero => intro σ x2 x3 h; exact h.elim
  | succ n ih =>
    intro σ x2 x3 h
    rw [wLX9_season_28] at h
    refine vv_iload_n (q := 29) X 3 dX9_season_28 rfl rfl rfl ?_
    refine vv_iload_n (q := 30) X 1 dX9_season_29 rfl rfl rfl ?_
    refine vv_icmp_ge (q := 33) X 104 dX9_season_30 (by decide) rfl (fun c4 => ?_) (fun c4 => ?_)
    · have h := h.1 c4
      refine vv_sub (lv' := [(2, .int x2)]) [2] rfl ?_
      exact hK104 σ x2 h
    · have h := h.2 c4
      refine vv_aload_n (q := 34) X 0 dX9_season_33 rfl rfl rfl ?_
      refine vv_getf (q := 37) (ref := "HalfLadders") (C := RX9) (T := TX9) (N := 14) X 0 9 10 (Nat.le_of_ble_eq_true rfl) rfl rfl (Nat.le_of_ble_eq_true rfl) (fun _ h => List.mem_cons_of_mem _ (List.mem_append_left _ (List.mem_append_left _ (List.mem_append_left _ (List.mem_append_left _ (List.mem_append_right _ h)))))) (List.mem_of_getElem? (i := 1) rfl) rfl rfl dX9_season_34 rfl ?_
      refine vv_getf (q := 40) (ref := "HalfLadders$Now") (C := RX2) (T := TX2) (N := 7) X 67 2 0 (Nat.le_of_ble_eq_true rfl) rfl rfl (Nat.le_of_ble_eq_true rfl) (fun _ h => List.mem_cons_of_mem _ (List.mem_append_left _ (List.mem_append_left _ (List.mem_append_left _ (List.mem_append_right _ h))))) (List.mem_of_getElem? (i := 3) rfl) rfl rfl dX9_season_37 rfl ?_
      refine vv_bipush (q := 42) X (30 : Int32) dX9_season_40 (by decide) rfl ?_
      refine vv_icmp_gt (q := 45) X 104 dX9_season_42 (by decide) rfl (fun c5 => ?_) (fun c5 => ?_)
      · have h := h.1 c5
        refine vv_sub (lv' := [(2, .int x2)]) [2] rfl ?_
        exact hK104 σ x2 h
      · have h := h.2 c5
        refine vv_iload_n (q := 46) X 2 dX9_season_45 rfl rfl rfl ?_
        refine vv_aload_n (q := 47) X 0 dX9_season_46 rfl rfl rfl ?_
        refine vv_getf (q := 50) (ref := "HalfLadders") (C := RX9) (T := TX9) (N := 14) X 0 9 8 (Nat.le_of_ble_eq_true rfl) rfl rfl (Nat.le_of_ble_eq_true rfl) (fun _ h => List.mem_cons_of_mem _ (List.mem_append_left _ (List.mem_append_left _ (List.mem_append_left _ (List.mem_append_left _ (List.mem_append_right _ h)))))) (List.mem_of_getElem? (i := 4) rfl) rfl rfl dX9_season_47 rfl ?_
        refine vv_aload_n (q := 51) X 0 dX9_season_50 rfl rfl rfl ?_
        obtain ⟨ho6, h⟩ := h
        refine vv_getf (q := 54) (ref := "HalfLadders") (C := RX9) (T := TX9) (N := 14) X 0 9 2 (Nat.le_of_ble_eq_true rfl) rfl rfl (Nat.le_of_ble_eq_true rfl) (fun _ h => List.mem_cons_of_mem _ (List.mem_append_left _ (List.mem_append_left _ (List.mem_append_left _ (List.mem_append_left _ (List.mem_append_right _ h)))))) (List.mem_of_getElem? (i := 5) rfl) rfl rfl dX9_season_51 rfl ?_
        refine vv_aload_n (q := 55) X 0 dX9_season_54 rfl rfl rfl ?_
        refine vv_getf (q := 58) (ref := "HalfLadders") (C := RX9) (T := TX9) (N := 14) X 0 9 4 (Nat.le_of_ble_eq_true rfl) rfl rfl (Nat.le_of_ble_eq_true rfl) (fun _ h => List.mem_cons_of_mem _ (List.mem_append_left _ (List.mem_append_left _ (List.mem_append_left _ (List.mem_append_left _ (List.mem_append_right _ h)))))) (List.mem_of_getElem? (i := 6) rfl) rfl rfl dX9_season_55 rfl ?_
        refine vv_aload_n (q := 59) X 0 dX9_season_58 rfl rfl rfl ?_
        refine vv_getf (q := 62) (ref := "HalfLadders") (C := RX9) (T := TX9) (N := 14) X 0 9 10 (Nat.le_of_ble_eq_true rfl) rfl rfl (Nat.le_of_ble_eq_true rfl) (fun _ h => List.mem_cons_of_mem _ (List.mem_append_left _ (List.mem_append_left _ (List.mem_append_left _ (List.mem_append_left _ (List.mem_append_right _ h)))))) (List.mem_of_getElem? (i := 1) rfl) rfl rfl dX9_season_59 rfl ?_
        refine vv_cVi (q := 65) (C := RX5) X 50 5 [.ref (ad (σ.2.2.1)), .ref (ad 25), .ref (ad 67)] (kX5_make l D X.2.2.1 h) (cwV 3 X.1.2.2.2.2 gX9_season_X5_make rfl rfl rfl (by decide +kernel) ⟨Nat.le_of_ble_eq_true rfl, Nat.le_of_ble_eq_true rfl⟩) (Nat.le_of_ble_eq_true rfl) rfl rfl rfl rfl (Nat.le_of_ble_eq_true rfl) dX9_season_62 rfl (fun r7 σ8 h => ?_)
        refine vv_iadd (q := 66) X dX9_season_65 rfl ?_
        refine vv_topi (fun z9 hz9 => ?_)
        have h := h z9 hz9
        refine vv_istore_n (lv2 := [(2, .int z9), (0, .ref (ad 0)), (1, .int f1), (3, .int x3)]) (q := 67) X dX9_season_66 rfl (Nat.le_of_ble_eq_true rfl) rfl rfl ?_
        refine vv_aload_n (q := 68) X 1 dX9_season_67 rfl rfl rfl ?_
        refine vv_getf (q := 71) (ref := "HalfLadders") (C := RX9) (T := TX9) (N := 14) X 0 9 8 (Nat.le_of_ble_eq_true rfl) rfl rfl (Nat.le_of_ble_eq_true rfl) (fun _ h => List.mem_cons_of_mem _ (List.mem_append_left _ (List.mem_append_left _ (List.mem_append_left _ (List.mem_append_left _ (List.mem_append_right _ h)))))) (List.mem_of_getElem? (i := 4) rfl) rfl rfl dX9_season_68 rfl ?_
        refine vv_aload_n (q := 72) X 1 dX9_season_71 rfl rfl rfl ?_
        obtain ⟨ho10, h⟩ := h
        refine vv_getf (q := 75) (ref := "HalfLadders") (C := RX9) (T := TX9) (N := 14) X 0 9 2 (Nat.le_of_ble_eq_true rfl) rfl rfl (Nat.le_of_ble_eq_true rfl) (fun _ h => List.mem_cons_of_mem _ (List.mem_append_left _ (List.mem_append_left _ (List.mem_append_left _ (List.mem_append_left _ (List.mem_append_right _ h)))))) (List.mem_of_getElem? (i := 5) rfl) rfl rfl dX9_season_72 rfl ?_
        refine vv_aload_n (q := 76) X 1 dX9_season_75 rfl rfl rfl ?_
        refine vv_getf (q := 79) (ref := "HalfLadders") (C := RX9) (T := TX9) (N := 14) X 0 9 4 (Nat.le_of_ble_eq_true rfl) rfl rfl (Nat.le_of_ble_eq_true rfl) (fun _ h => List.mem_cons_of_mem _ (List.mem_append_left _ (List.mem_append_left _ (List.mem_append_left _ (List.mem_append_left _ (List.mem_append_right _ h)))))) (List.mem_of_getElem? (i := 6) rfl) rfl rfl dX9_season_76 rfl ?_
        refine vv_aload_n (q := 80) X 1 dX9_season_79 rfl rfl rfl ?_
        refine vv_getf (q := 83) (ref := "HalfLadders") (C := RX9) (T := TX9) (N := 14) X 0 9 10 (Nat.le_of_ble_eq_true rfl) rfl rfl (Nat.le_of_ble_eq_true rfl) (fun _ h => List.mem_cons_of_mem _ (List.mem_append_left _ (List.mem_append_left _ (List.mem_append_left _ (List.mem_append_left _ (List.mem_append_right _ h)))))) (List.mem_of_getElem? (i := 1) rfl) rfl rfl dX9_season_80 rfl ?_
        refine vv_cVv (q := 86) (C := RX5) X 50 5 [.ref (ad (σ8.2.2.1)), .ref (ad 25), .ref (ad 67)] (kX5_carryOut l D X.2.2.1 h) (cwV 3 X.1.2.2.2.2 gX9_season_X5_carryOut rfl rfl rfl (by decide +kernel) ⟨Nat.le_of_ble_eq_true rfl, Nat.le_of_ble_eq_true rfl⟩) (Nat.le_of_ble_eq_true rfl) rfl rfl rfl rfl (Nat.le_of_ble_eq_true rfl) dX9_season_83 rfl (fun σ11 h => ?_)
        refine vv_aload_n (q := 87) X 1 dX9_season_86 rfl rfl rfl ?_
        refine vv_getf (q := 90) (ref := "HalfLadders") (C := RX9) (T := TX9) (N := 14) X 0 9 10 (Nat.le_of_ble_eq_true rfl) rfl rfl (Nat.le_of_ble_eq_true rfl) (fun _ h => List.mem_cons_of_mem _ (List.mem_append_left _ (List.mem_append_left _ (List.mem_append_left _ (List.mem_append_left _ (List.mem_append_right _ h)))))) (List.mem_of_getElem? (i := 1) rfl) rfl rfl dX9_season_87 rfl ?_
        refine vv_aload_n (q := 91) X 1 dX9_season_90 rfl rfl rfl ?_
        obtain ⟨ho12, h⟩ := h
        refine vv_getf (q := 94) (ref := "HalfLadders") (C := RX9) (T := TX9) (N := 14) X 0 9 2 (Nat.le_of_ble_eq_true rfl) rfl rfl (Nat.le_of_ble_eq_true rfl) (fun _ h => List.mem_cons_of_mem _ (List.mem_append_left _ (List.mem_append_left _ (List.mem_append_left _ (List.mem_append_left _ (List.mem_append_right _ h)))))) (List.mem_of_getElem? (i := 5) rfl) rfl rfl dX9_season_91 rfl ?_
        refine vv_cVi (q := 97) (C := RX2) X 67 2 [.ref (ad (σ11.2.2.1))] (kX2_endDay l D X.2.2.1 h) (cwV 1 X.1.2.2.2.2 gX9_season_X2_endDay rfl rfl rfl (by decide +kernel) ⟨Nat.le_of_ble_eq_true rfl, Nat.le_of_ble_eq_true rfl⟩) (Nat.le_of_ble_eq_true rfl) rfl rfl rfl rfl (Nat.le_of_ble_eq_true rfl) dX9_season_94 rfl (fun r13 σ14 h => ?_)
        refine vv_pop (q := 98) X dX9_season_97 rfl rfl ?_
        obtain ⟨z15, hz15⟩ : ∃ y : Int32, y = x3 + (1 : Int32) := ⟨_, rfl⟩
        have h := h z15 hz15
        refine vv_iinc (v := z15) (lv2 := [(3, .int z15), (2, .int z9), (0, .ref (ad 0)), (1, .int f1)]) (q := 101) X 3 dX9_season_98 rfl (by rw [hz15]; rfl) (Nat.le_of_ble_eq_true rfl) rfl rfl ?_
        refine vv_goto X 28 dX9_season_101 (by decide) ?_
        refine vv_sub (lv' := [(0, .ref (ad 0)), (1, .int f1), (2, .int z9), (3, .int z15)]) [2, 3, 1, 0] rfl ?_
        exact ih σ14 z9 z15 h

def wX9_season (σ : St) (a1 : Int32) (P : Int32 → St → Prop) : Prop :=
(a1 < (1 : Int32) →
P (-1 : Int32) σ) ∧
(¬ a1 < (1 : Int32) →
(a1 ≤ (8 : Int32) →
wX2_become σ 67 65 (fun σ3 : St =>
∃ n18 : Nat, wLX9_season_28 a1 (fun (σ17 : St) (y16 : Int32) =>
P y16 σ17) P n18 σ3 (0 : Int32) (0 : Int32))) ∧
(¬ a1 ≤ (8 : Int32) →
P (-1 : Int32) σ))

set_option maxHeartbeats 8000000 in
set_option maxRecDepth 100000 in
theorem kX9_season (l : Launch) (D : va_G) {cy : Nat → ClassId} {ad : Nat → Nat} {zb : Nat → Nat} (hw : xOk (wC ad cy zb)) {σ : St} {a1 : Int32} {P : Int32 → St → Prop} (h : wX9_season σ a1 P) : MI l yX9_season wsX9_season rmX9_season D cy (wC ad cy zb) [.ref (ad 0), .int a1] σ P := by
  unfold MI
  refine vv_met (cc := cX9_season) (maxL := 4) (ret := (some .int)) hw (by decide +kernel) rfl [.ref (ad 0), .int a1] (Nat.le_of_ble_eq_true rfl) ?_
  intro p e s m args below meth c X hr
  have X : XX p s m args meth c cX9_season 4 D cy (wC ad cy zb) wsX9_season RX9 := X
  refine vv_sub (lv' := [(0, .ref (ad 0)), (1, .int a1)]) [0, 1] rfl ?_
  rw [wX9_season] at h
  refine vv_iload_n (q := 1) X 1 dX9_season_0 rfl rfl rfl ?_
  refine vv_iconst (q := 2) X (1 : Int32) dX9_season_1 (by decide) rfl ?_
  refine vv_icmp_lt (q := 5) X 11 dX9_season_2 (by decide) rfl (fun c1 => ?_) (fun c1 => ?_)
  · have h := h.1 c1
    refine vv_iconst (q := 12) X (-1 : Int32) dX9_season_11 (by decide) rfl ?_
    exact vv_iret X hr dX9_season_12 h
  · have h := h.2 c1
    refine vv_iload_n (q := 6) X 1 dX9_season_5 rfl rfl rfl ?_
    refine vv_bipush (q := 8) X (8 : Int32) dX9_season_6 (by decide) rfl ?_
    refine vv_icmp_le (q := 11) X 13 dX9_season_8 (by decide) rfl (fun c2 => ?_) (fun c2 => ?_)
    · have h := h.1 c2
      refine vv_aload_n (q := 14) X 0 dX9_season_13 rfl rfl rfl ?_
      refine vv_getf (q := 17) (ref := "HalfLadders") (C := RX9) (T := TX9) (N := 14) X 0 9 10 (Nat.le_of_ble_eq_true rfl) rfl rfl (Nat.le_of_ble_eq_true rfl) (fun _ h => List.mem_cons_of_mem _ (List.mem_append_left _ (List.mem_append_left _ (List.mem_append_left _ (List.mem_append_left _ (List.mem_append_right _ h)))))) (List.mem_of_getElem? (i := 1) rfl) rfl rfl dX9_season_14 rfl ?_
      refine vv_aload_n (q := 18) X 0 dX9_season_17 rfl rfl rfl ?_
      refine vv_getf (q := 21) (ref := "HalfLadders") (C := RX9) (T := TX9) (N := 14) X 0 9 9 (Nat.le_of_ble_eq_true rfl) rfl rfl (Nat.le_of_ble_eq_true rfl) (fun _ h => List.mem_cons_of_mem _ (List.mem_append_left _ (List.mem_append_left _ (List.mem_append_left _ (List.mem_append_left _ (List.mem_append_right _ h)))))) (List.mem_of_getElem? (i := 2) rfl) rfl rfl dX9_season_18 rfl ?_
      refine vv_cVv (q := 24) (C := RX2) X 67 2 [.ref (ad 65)] (kX2_become l D X.2.2.1 h) (cwV 1 X.1.2.2.2.2 gX9_season_X2_become rfl rfl rfl (by decide +kernel) ⟨Nat.le_of_ble_eq_true rfl, Nat.le_of_ble_eq_true rfl⟩) (Nat.le_of_ble_eq_true rfl) rfl rfl rfl rfl (Nat.le_of_ble_eq_true rfl) dX9_season_21 rfl (fun σ3 h => ?_)
      refine vv_iconst (q := 25) X (0 : Int32) dX9_season_24 (by decide) rfl ?_
      refine vv_istore_n (lv2 := [(2, .int (0 : Int32)), (0, .ref (ad 0)), (1, .int a1)]) (q := 26) X dX9_season_25 rfl (Nat.le_of_ble_eq_true rfl) rfl rfl ?_
      refine vv_iconst (q := 27) X (0 : Int32) dX9_season_26 (by decide) rfl ?_
      refine vv_istore_n (lv2 := [(3, .int (0 : Int32)), (2, .int (0 : Int32)), (0, .ref (ad 0)), (1, .int a1)]) (q := 28) X dX9_season_27 rfl (Nat.le_of_ble_eq_true rfl) rfl rfl ?_
      obtain ⟨n18, h⟩ := h
      refine vv_sub (lv' := [(0, .ref (ad 0)), (1, .int a1), (2, .int (0 : Int32)), (3, .int (0 : Int32))]) [2, 3, 1, 0] rfl ?_
      refine twLX9_season_28 X hr a1  _ ?_ n18 σ3 (0 : Int32) (0 : Int32) h
      intro σ17 y16 h
      refine vv_iload_n (q := 105) X 0 dX9_season_104 rfl rfl rfl ?_
      exact vv_iret X hr dX9_season_105 h
    · have h := h.2 c2
      refine vv_iconst (q := 12) X (-1 : Int32) dX9_season_11 (by decide) rfl ?_
      exact vv_iret X hr dX9_season_12 h

/-! X9_whole: whole(I)I -/
def rmX9_whole : Room := { frames := 1, cells := 0, slots := 0, locals := 20 }
def wX9_whole (σ : St) (a1 : Int32) (P : Int32 → Prop) : Prop :=
isO σ.2.2.1 ∧
wX3_everybody σ (σ.2.2.1) (fun r2 : Int32 =>
vp_in (a1 &&& r2) 256 ∧
P (σ.1 33 (a1 &&& r2).toNatClampNeg))

set_option maxHeartbeats 8000000 in
set_option maxRecDepth 100000 in
theorem kX9_whole (l : Launch) (D : va_G) {cy : Nat → ClassId} {ad : Nat → Nat} {zb : Nat → Nat} (hw : xOk (wC ad cy zb)) {σ : St} {a1 : Int32} {P : Int32 → Prop} (h : wX9_whole σ a1 P) : MI l yX9_whole wsX9_whole rmX9_whole D cy (wC ad cy zb) [.ref (ad 0), .int a1] σ (fun r u => P r ∧ u = σ) := by
  unfold MI
  refine vv_met (cc := cX9_whole) (maxL := 2) (ret := (some .int)) hw (by decide +kernel) rfl [.ref (ad 0), .int a1] (Nat.le_of_ble_eq_true rfl) ?_
  intro p e s m args below meth c X hr
  have X : XX p s m args meth c cX9_whole 2 D cy (wC ad cy zb) wsX9_whole RX9 := X
  refine vv_sub (lv' := [(0, .ref (ad 0)), (1, .int a1)]) [0, 1] rfl ?_
  rw [wX9_whole] at h
  refine vv_aload_n (q := 1) X 0 dX9_whole_0 rfl rfl rfl ?_
  refine vv_getf (q := 4) (ref := "HalfLadders") (C := RX9) (T := TX9) (N := 14) X 0 9 5 (Nat.le_of_ble_eq_true rfl) rfl rfl (Nat.le_of_ble_eq_true rfl) (fun _ h => List.mem_cons_of_mem _ (List.mem_append_left _ (List.mem_append_left _ (List.mem_append_right _ h)))) (List.mem_of_getElem? (i := 1) rfl) rfl rfl dX9_whole_1 rfl ?_
  refine vv_getf (q := 7) (ref := "HalfLadders$Sums") (C := RX7) (T := TX7) (N := 1) X 32 7 0 (Nat.le_of_ble_eq_true rfl) rfl rfl (Nat.le_of_ble_eq_true rfl) (fun _ h => List.mem_cons_of_mem _ (List.mem_append_left _ (List.mem_append_right _ h))) (List.mem_of_getElem? (i := 2) rfl) rfl rfl dX9_whole_4 rfl ?_
  refine vv_iload_n (q := 8) X 1 dX9_whole_7 rfl rfl rfl ?_
  refine vv_aload_n (q := 9) X 0 dX9_whole_8 rfl rfl rfl ?_
  obtain ⟨ho1, h⟩ := h
  refine vv_getf (q := 12) (ref := "HalfLadders") (C := RX9) (T := TX9) (N := 14) X 0 9 2 (Nat.le_of_ble_eq_true rfl) rfl rfl (Nat.le_of_ble_eq_true rfl) (fun _ h => List.mem_cons_of_mem _ (List.mem_append_left _ (List.mem_append_left _ (List.mem_append_right _ h)))) (List.mem_of_getElem? (i := 3) rfl) rfl rfl dX9_whole_9 rfl ?_
  refine vv_cVi (q := 15) (C := RX3) X (σ.2.2.1) 3 [] (kX3_everybody l D X.2.2.1 h) (cwV 0 X.1.2.2.2.2 gX9_whole_X3_everybody rfl rfl rfl (by decide +kernel) ⟨Nat.le_of_ble_eq_true rfl, Nat.le_of_ble_eq_true rfl⟩) (isO_lt 0 ho1 (Nat.le_of_ble_eq_true rfl)) (e_isO (ad := ad) (cy := cy) ho1 _ _) rfl rfl rfl (Nat.le_of_ble_eq_true rfl) dX9_whole_12 rfl (fun r2 u9 h9 => ?_)
  obtain ⟨h9, hu9⟩ := h9
  subst u9
  have h := h9
  refine vv_iand (q := 16) X dX9_whole_15 rfl ?_
  obtain ⟨hin3, h⟩ := h
  refine vv_iald (q := 17) X 33 256 (Nat.le_of_ble_eq_true rfl) (fun _ => rfl) hin3 dX9_whole_16 rfl ?_
  exact vv_iret X hr dX9_whole_17 ⟨h, rfl⟩

/-! X9_greatestDivisor: greatestDivisor(II)I -/
def rmX9_greatestDivisor : Room := { frames := 0, cells := 0, slots := 0, locals := 0 }
def wLX9_greatestDivisor_7  (σ : St) (K34 : Int32 → Prop) (P : Int32 → Prop) : Nat → Int32 → Int32 → Int32 → Prop
  | 0, _, _, _ => False
  | n + 1, x2, x3, x4 =>
    ((100 : Int32) ≤ x4 →
    K34 x2) ∧
    (¬ (100 : Int32) ≤ x4 →
    (x3 = 0 →
    K34 x2) ∧
    (¬ x3 = 0 →
    ¬ x3 = 0 ∧
    ∀ z4 : Int32, z4 = (x2 - x2 / x3 * x3) →
    ∀ z5 : Int32, z5 = x4 + (1 : Int32) →
    wLX9_greatestDivisor_7 σ K34 P n x3 z4 z5))

set_option maxHeartbeats 4000000 in
set_option maxRecDepth 100000 in
theorem twLX9_greatestDivisor_7 {p : Program} {l : Launch} {e : Env} {s : State} {m : MethodId} {args : Array Value} {below : List Frame} {meth : Method} {c : Code} {D : va_G} {cy : Nat → ClassId} {ad : Nat → Nat} {zb : Nat → Nat} (X : XX p s m args meth c cX9_greatestDivisor 6 D cy (wC ad cy zb) wsX9_greatestDivisor RX9) (hr : meth.sig.returnType = (some .int))   (σ : St) (K34 : Int32 → Prop) {P : Int32 → Prop} (hK34 : ∀ (x2 : Int32), K34 x2 → VV p l e rmX9_greatestDivisor s m args below meth c (MQ below (va_Qi (fun r u => P r ∧ u = σ) (xPost D (wC ad cy zb)) (xA (wC ad cy zb))) args s 0 0 (xA (wC ad cy zb))) 6 D (wC ad cy zb) σ 34 [(2, .int x2)] []) : ∀ (n : Nat) (x2 : Int32) (x3 : Int32) (x4 : Int32), wLX9_greatestDivisor_7 σ K34 P n x2 x3 x4 → VV p l e rmX9_greatestDivisor s m args below meth c (MQ below (va_Qi (fun r u => P r ∧ u = σ) (xPost D (wC ad cy zb)) (xA (wC ad cy zb))) args s 0 0 (xA (wC ad cy zb))) 6 D (wC ad cy zb) σ 7 [(2, .int x2), (3, .int x3), (4, .int x4)] [] := by
  intro n
  induction n with
  | zero => intro x2 x3 x4 h; exact h.elim
  | succ n ih =>
    intro x2 x3 x4 h
    rw [wLX9_greatestDivisor_7] at h
    refine vv_iload (q := 9) X 2 dX9_greatestDivisor_7 rfl rfl ?_
    refine vv_bipush (q := 11) X (100 : Int32) dX9_greatestDivisor_9 (by decide) rfl ?_
    refine vv_icmp_ge (q := 14) X 34 dX9_greatestDivisor_11 (by decide) rfl (fun c1 => ?_) (fun c1 => ?_)
    · have h := h.1 c1
      refine vv_sub (lv' := [(2, .int x2)]) [0] rfl ?_
      exact hK34 x2 h
    · have h := h.2 c1
      refine vv_iload_n (q := 15) X 1 dX9_greatestDivisor_14 rfl rfl rfl ?_
      refine vv_if_eq (q := 18) X 34 dX9_greatestDivisor_15 (by decide) rfl (fun c2 => ?_) (fun c2 => ?_)
      · have h := h.1 c2
        refine vv_sub (lv' := [(2, .int x2)]) [0] rfl ?_
        exact hK34 x2 h
      · have h := h.2 c2
        refine vv_iload_n (q := 19) X 0 dX9_greatestDivisor_18 rfl rfl rfl ?_
        refine vv_iload_n (q := 20) X 1 dX9_greatestDivisor_19 rfl rfl rfl ?_
        obtain ⟨hn3, h⟩ := h
        refine vv_irem (q := 21) X dX9_greatestDivisor_20 hn3 rfl ?_
        refine vv_topi (fun z4 hz4 => ?_)
        have h := h z4 hz4
        refine vv_istore (lv2 := [(5, .int z4), (2, .int x2), (3, .int x3), (4, .int x4)]) (q := 23) X dX9_greatestDivisor_21 (Nat.le_of_ble_eq_true rfl) rfl rfl ?_
        refine vv_iload_n (q := 24) X 2 dX9_greatestDivisor_23 rfl rfl rfl ?_
        refine vv_istore_n (lv2 := [(2, .int x3), (5, .int z4), (3, .int x3), (4, .int x4)]) (q := 25) X dX9_greatestDivisor_24 rfl (Nat.le_of_ble_eq_true rfl) rfl rfl ?_
        refine vv_iload (q := 27) X 1 dX9_greatestDivisor_25 rfl rfl ?_
        refine vv_istore_n (lv2 := [(3, .int z4), (2, .int x3), (5, .int z4), (4, .int x4)]) (q := 28) X dX9_greatestDivisor_27 rfl (Nat.le_of_ble_eq_true rfl) rfl rfl ?_
        obtain ⟨z5, hz5⟩ : ∃ y : Int32, y = x4 + (1 : Int32) := ⟨_, rfl⟩
        have h := h z5 hz5
        refine vv_iinc (v := z5) (lv2 := [(4, .int z5), (3, .int z4), (2, .int x3), (5, .int z4)]) (q := 31) X 3 dX9_greatestDivisor_28 rfl (by rw [hz5]; rfl) (Nat.le_of_ble_eq_true rfl) rfl rfl ?_
        refine vv_goto X 7 dX9_greatestDivisor_31 (by decide) ?_
        refine vv_sub (lv' := [(2, .int x3), (3, .int z4), (4, .int z5)]) [2, 1, 0] rfl ?_
        exact ih x3 z4 z5 h

def wX9_greatestDivisor (σ : St) (a0 : Int32) (a1 : Int32) (P : Int32 → Prop) : Prop :=
∃ n7 : Nat, wLX9_greatestDivisor_7 σ (fun (y6 : Int32) =>
P y6) P n7 a0 a1 (0 : Int32)

set_option maxHeartbeats 8000000 in
set_option maxRecDepth 100000 in
theorem kX9_greatestDivisor (l : Launch) (D : va_G) {cy : Nat → ClassId} {ad : Nat → Nat} {zb : Nat → Nat} (hw : xOk (wC ad cy zb)) {σ : St} {a0 : Int32} {a1 : Int32} {P : Int32 → Prop} (h : wX9_greatestDivisor σ a0 a1 P) : MI l yX9_greatestDivisor wsX9_greatestDivisor rmX9_greatestDivisor D cy (wC ad cy zb) [.int a0, .int a1] σ (fun r u => P r ∧ u = σ) := by
  unfold MI
  refine vv_met (cc := cX9_greatestDivisor) (maxL := 6) (ret := (some .int)) hw (by decide +kernel) rfl [.int a0, .int a1] (Nat.le_of_ble_eq_true rfl) ?_
  intro p e s m args below meth c X hr
  have X : XX p s m args meth c cX9_greatestDivisor 6 D cy (wC ad cy zb) wsX9_greatestDivisor RX9 := X
  refine vv_sub (lv' := [(0, .int a0), (1, .int a1)]) [0, 1] rfl ?_
  rw [wX9_greatestDivisor] at h
  refine vv_iload_n (q := 1) X 0 dX9_greatestDivisor_0 rfl rfl rfl ?_
  refine vv_istore_n (lv2 := [(2, .int a0), (0, .int a0), (1, .int a1)]) (q := 2) X dX9_greatestDivisor_1 rfl (Nat.le_of_ble_eq_true rfl) rfl rfl ?_
  refine vv_iload_n (q := 3) X 2 dX9_greatestDivisor_2 rfl rfl rfl ?_
  refine vv_istore_n (lv2 := [(3, .int a1), (2, .int a0), (0, .int a0), (1, .int a1)]) (q := 4) X dX9_greatestDivisor_3 rfl (Nat.le_of_ble_eq_true rfl) rfl rfl ?_
  refine vv_iconst (q := 5) X (0 : Int32) dX9_greatestDivisor_4 (by decide) rfl ?_
  refine vv_istore (lv2 := [(4, .int (0 : Int32)), (3, .int a1), (2, .int a0), (0, .int a0), (1, .int a1)]) (q := 7) X dX9_greatestDivisor_5 (Nat.le_of_ble_eq_true rfl) rfl rfl ?_
  obtain ⟨n7, h⟩ := h
  refine vv_sub (lv' := [(2, .int a0), (3, .int a1), (4, .int (0 : Int32))]) [2, 1, 0] rfl ?_
  refine twLX9_greatestDivisor_7 X hr  σ _ ?_ n7 a0 a1 (0 : Int32) h
  intro y6 h
  refine vv_iload_n (q := 35) X 0 dX9_greatestDivisor_34 rfl rfl rfl ?_
  exact vv_iret X hr dX9_greatestDivisor_35 ⟨h, rfl⟩

/-! X9_worth: worth(II)I -/
def rmX9_worth : Room := { frames := 2, cells := 0, slots := 0, locals := 47 }
def wX9_worth (σ : St) (a1 : Int32) (a2 : Int32) (P : Int32 → Prop) : Prop :=
isO σ.2.2.1 ∧
wX3_hasHalf σ (σ.2.2.1) a1 (fun r2 : Int32 =>
(r2 = 0 →
P (-1 : Int32)) ∧
(¬ r2 = 0 →
(a2 < 0 →
P (-1 : Int32)) ∧
(¬ a2 < 0 →
(a2 ≤ (1 : Int32) →
vp_in (σ.1 (σ.2.2.1) 0) 9 ∧
∀ z7 : Int32, z7 = (zT 2 (σ.1 (σ.2.2.1) 0).toNatClampNeg) →
wX7_grownOverOrders σ a1 (σ.1 (σ.2.2.1) 0) (fun r8 : Int32 =>
wX9_greatestDivisor σ r8 z7 (fun r9 : Int32 =>
(¬ r9 = 0 →
jn (fun (v12 : Int32) =>
¬ r9 = 0 ∧
P (v12 / r9)) (fun J11 : Int32 → Prop =>
(¬ a2 = 0 →
J11 z7) ∧
(a2 = 0 →
J11 r8))) ∧
(r9 = 0 →
P (-1 : Int32))))) ∧
(¬ a2 ≤ (1 : Int32) →
P (-1 : Int32)))))

set_option maxHeartbeats 8000000 in
set_option maxRecDepth 100000 in
theorem kX9_worth (l : Launch) (D : va_G) {cy : Nat → ClassId} {ad : Nat → Nat} {zb : Nat → Nat} (hw : xOk (wC ad cy zb)) {σ : St} {a1 : Int32} {a2 : Int32} {P : Int32 → Prop} (h : wX9_worth σ a1 a2 P) : MI l yX9_worth wsX9_worth rmX9_worth D cy (wC ad cy zb) [.ref (ad 0), .int a1, .int a2] σ (fun r u => P r ∧ u = σ) := by
  unfold MI
  refine vv_met (cc := cX9_worth) (maxL := 6) (ret := (some .int)) hw (by decide +kernel) rfl [.ref (ad 0), .int a1, .int a2] (Nat.le_of_ble_eq_true rfl) ?_
  intro p e s m args below meth c X hr
  have X : XX p s m args meth c cX9_worth 6 D cy (wC ad cy zb) wsX9_worth RX9 := X
  refine vv_sub (lv' := [(0, .ref (ad 0)), (1, .int a1), (2, .int a2)]) [0, 1, 2] rfl ?_
  rw [wX9_worth] at h
  refine vv_aload_n (q := 1) X 0 dX9_worth_0 rfl rfl rfl ?_
  obtain ⟨ho1, h⟩ := h
  refine vv_getf (q := 4) (ref := "HalfLadders") (C := RX9) (T := TX9) (N := 14) X 0 9 2 (Nat.le_of_ble_eq_true rfl) rfl rfl (Nat.le_of_ble_eq_true rfl) (fun _ h => List.mem_cons_of_mem _ (List.mem_append_left _ (List.mem_append_left _ (List.mem_append_right _ h)))) (List.mem_of_getElem? (i := 1) rfl) rfl rfl dX9_worth_1 rfl ?_
  refine vv_iload_n (q := 5) X 1 dX9_worth_4 rfl rfl rfl ?_
  refine vv_cVi (q := 8) (C := RX3) X (σ.2.2.1) 3 [.int a1] (kX3_hasHalf l D X.2.2.1 h) (cwV 1 X.1.2.2.2.2 gX9_worth_X3_hasHalf rfl rfl rfl (by decide +kernel) ⟨Nat.le_of_ble_eq_true rfl, Nat.le_of_ble_eq_true rfl⟩) (isO_lt 0 ho1 (Nat.le_of_ble_eq_true rfl)) (e_isO (ad := ad) (cy := cy) ho1 _ _) rfl rfl rfl (Nat.le_of_ble_eq_true rfl) dX9_worth_5 rfl (fun r2 u9 h9 => ?_)
  obtain ⟨h9, hu9⟩ := h9
  subst u9
  have h := h9
  refine vv_if_eq (q := 11) X 20 dX9_worth_8 (by decide) rfl (fun c3 => ?_) (fun c3 => ?_)
  · have h := h.1 c3
    refine vv_iconst (q := 21) X (-1 : Int32) dX9_worth_20 (by decide) rfl ?_
    exact vv_iret X hr dX9_worth_21 ⟨h, rfl⟩
  · have h := h.2 c3
    refine vv_iload_n (q := 12) X 2 dX9_worth_11 rfl rfl rfl ?_
    refine vv_if_lt (q := 15) X 20 dX9_worth_12 (by decide) rfl (fun c4 => ?_) (fun c4 => ?_)
    · have h := h.1 c4
      refine vv_iconst (q := 21) X (-1 : Int32) dX9_worth_20 (by decide) rfl ?_
      exact vv_iret X hr dX9_worth_21 ⟨h, rfl⟩
    · have h := h.2 c4
      refine vv_iload_n (q := 16) X 2 dX9_worth_15 rfl rfl rfl ?_
      refine vv_iconst (q := 17) X (1 : Int32) dX9_worth_16 (by decide) rfl ?_
      refine vv_icmp_le (q := 20) X 22 dX9_worth_17 (by decide) rfl (fun c5 => ?_) (fun c5 => ?_)
      · have h := h.1 c5
        refine vv_gets2 (q := 25) X (List.mem_of_getElem? (i := 2) rfl) dX9_worth_22 rfl ?_
        refine vv_aload_n (q := 26) X 0 dX9_worth_25 rfl rfl rfl ?_
        refine vv_getf (q := 29) (ref := "HalfLadders") (C := RX9) (T := TX9) (N := 14) X 0 9 2 (Nat.le_of_ble_eq_true rfl) rfl rfl (Nat.le_of_ble_eq_true rfl) (fun _ h => List.mem_cons_of_mem _ (List.mem_append_left _ (List.mem_append_left _ (List.mem_append_right _ h)))) (List.mem_of_getElem? (i := 1) rfl) rfl rfl dX9_worth_26 rfl ?_
        refine vv_getf (q := 32) (ref := "HalfLadders$Orchard") (C := RX3) (T := TX3) (N := 10) X (σ.2.2.1) 3 0 (isO_lt 0 ho1 (Nat.le_of_ble_eq_true rfl)) (e_isO (ad := ad) (cy := cy) ho1 _ _) rfl (Nat.le_of_ble_eq_true rfl) (fun _ h => List.mem_cons_of_mem _ (List.mem_append_left _ (List.mem_append_right _ h))) (List.mem_of_getElem? (i := 3) rfl) rfl rfl dX9_worth_29 rfl ?_
        obtain ⟨hin6, h⟩ := h
        refine vv_siald (q := 33) X 2 9 (Nat.le_of_ble_eq_true rfl) rfl hin6 dX9_worth_32 rfl ?_
        refine vv_topi (fun z7 hz7 => ?_)
        have h := h z7 hz7
        refine vv_istore_n (lv2 := [(3, .int z7), (0, .ref (ad 0)), (1, .int a1), (2, .int a2)]) (q := 34) X dX9_worth_33 rfl (Nat.le_of_ble_eq_true rfl) rfl rfl ?_
        refine vv_aload_n (q := 35) X 1 dX9_worth_34 rfl rfl rfl ?_
        refine vv_getf (q := 38) (ref := "HalfLadders") (C := RX9) (T := TX9) (N := 14) X 0 9 5 (Nat.le_of_ble_eq_true rfl) rfl rfl (Nat.le_of_ble_eq_true rfl) (fun _ h => List.mem_cons_of_mem _ (List.mem_append_left _ (List.mem_append_left _ (List.mem_append_right _ h)))) (List.mem_of_getElem? (i := 4) rfl) rfl rfl dX9_worth_35 rfl ?_
        refine vv_iload_n (q := 39) X 2 dX9_worth_38 rfl rfl rfl ?_
        refine vv_aload_n (q := 40) X 1 dX9_worth_39 rfl rfl rfl ?_
        refine vv_getf (q := 43) (ref := "HalfLadders") (C := RX9) (T := TX9) (N := 14) X 0 9 2 (Nat.le_of_ble_eq_true rfl) rfl rfl (Nat.le_of_ble_eq_true rfl) (fun _ h => List.mem_cons_of_mem _ (List.mem_append_left _ (List.mem_append_left _ (List.mem_append_right _ h)))) (List.mem_of_getElem? (i := 1) rfl) rfl rfl dX9_worth_40 rfl ?_
        refine vv_getf (q := 46) (ref := "HalfLadders$Orchard") (C := RX3) (T := TX3) (N := 10) X (σ.2.2.1) 3 0 (isO_lt 0 ho1 (Nat.le_of_ble_eq_true rfl)) (e_isO (ad := ad) (cy := cy) ho1 _ _) rfl (Nat.le_of_ble_eq_true rfl) (fun _ h => List.mem_cons_of_mem _ (List.mem_append_left _ (List.mem_append_right _ h))) (List.mem_of_getElem? (i := 3) rfl) rfl rfl dX9_worth_43 rfl ?_
        refine vv_cVi (q := 49) (C := RX7) X 32 7 [.int a1, .int (σ.1 (σ.2.2.1) 0)] (kX7_grownOverOrders l D X.2.2.1 h) (cwV 2 X.1.2.2.2.2 gX9_worth_X7_grownOverOrders rfl rfl rfl (by decide +kernel) ⟨Nat.le_of_ble_eq_true rfl, Nat.le_of_ble_eq_true rfl⟩) (Nat.le_of_ble_eq_true rfl) rfl rfl rfl rfl (Nat.le_of_ble_eq_true rfl) dX9_worth_46 rfl (fun r8 u9 h9 => ?_)
        obtain ⟨h9, hu9⟩ := h9
        subst u9
        have h := h9
        refine vv_istore (lv2 := [(4, .int r8), (3, .int z7), (0, .ref (ad 0)), (1, .int a1), (2, .int a2)]) (q := 51) X dX9_worth_49 (Nat.le_of_ble_eq_true rfl) rfl rfl ?_
        refine vv_iload (q := 53) X 0 dX9_worth_51 rfl rfl ?_
        refine vv_iload_n (q := 54) X 1 dX9_worth_53 rfl rfl rfl ?_
        refine vv_cSi (q := 57) X [.int r8, .int z7] (kX9_greatestDivisor l D X.2.2.1 h) (va_cwS 2 X.1.2.2.2.2 gX9_worth_X9_greatestDivisor rfl rfl rfl (by decide +kernel) ⟨Nat.le_of_ble_eq_true rfl, Nat.le_of_ble_eq_true rfl⟩) rfl rfl (Nat.le_of_ble_eq_true rfl) dX9_worth_54 rfl (fun r9 u9 h9 => ?_)
        obtain ⟨h9, hu9⟩ := h9
        subst u9
        have h := h9
        refine vv_istore (lv2 := [(5, .int r9), (4, .int r8), (3, .int z7), (0, .ref (ad 0)), (1, .int a1), (2, .int a2)]) (q := 59) X dX9_worth_57 (Nat.le_of_ble_eq_true rfl) rfl rfl ?_
        refine vv_iload (q := 61) X 0 dX9_worth_59 rfl rfl ?_
        refine vv_if_ne (q := 64) X 66 dX9_worth_61 (by decide) rfl (fun c10 => ?_) (fun c10 => ?_)
        · have h := h.1 c10
          refine vv_iload_n (q := 67) X 5 dX9_worth_66 rfl rfl rfl ?_
          obtain ⟨J11, hJ11, h⟩ := jn_el h
          have tJ11 : ∀ (v12 : Int32), J11 v12 → VV p l e rmX9_worth s m args below meth c (MQ below (va_Qi (fun r u => P r ∧ u = σ) (xPost D (wC ad cy zb)) (xA (wC ad cy zb))) args s 0 0 (xA (wC ad cy zb))) 6 D (wC ad cy zb) σ 76 [(5, .int r9)] [.int v12] := by
            intro v12 h
            rw [hJ11] at h
            refine vv_iload (q := 78) X 0 dX9_worth_76 rfl rfl ?_
            obtain ⟨hn13, h⟩ := h
            refine vv_idiv (q := 79) X dX9_worth_78 hn13 rfl ?_
            exact vv_iret X hr dX9_worth_79 ⟨h, rfl⟩
          refine vv_if_ne (q := 70) X 75 dX9_worth_67 (by decide) rfl (fun c14 => ?_) (fun c14 => ?_)
          · have h := h.1 c14
            refine vv_iload_n (q := 76) X 2 dX9_worth_75 rfl rfl rfl ?_
            refine vv_sub (lv' := [(5, .int r9)]) [0] rfl ?_
            exact tJ11 z7 h
          · have h := h.2 c14
            refine vv_iload (q := 72) X 1 dX9_worth_70 rfl rfl ?_
            refine vv_goto X 76 dX9_worth_72 (by decide) ?_
            refine vv_sub (lv' := [(5, .int r9)]) [0] rfl ?_
            exact tJ11 r8 h
        · have h := h.2 c10
          refine vv_iconst (q := 65) X (-1 : Int32) dX9_worth_64 (by decide) rfl ?_
          exact vv_iret X hr dX9_worth_65 ⟨h, rfl⟩
      · have h := h.2 c5
        refine vv_iconst (q := 21) X (-1 : Int32) dX9_worth_20 (by decide) rfl ?_
        exact vv_iret X hr dX9_worth_21 ⟨h, rfl⟩

/-! X9_asked: asked(I)I -/
def rmX9_asked : Room := { frames := 1, cells := 0, slots := 0, locals := 21 }
def wX9_asked (σ : St) (a1 : Int32) (P : Int32 → Prop) : Prop :=
isO σ.2.2.1 ∧
wX3_hasHalf σ (σ.2.2.1) a1 (fun r2 : Int32 =>
(r2 = 0 →
P (-1 : Int32)) ∧
(¬ r2 = 0 →
vp_in a1 8 ∧
P (σ.1 47 a1.toNatClampNeg)))

set_option maxHeartbeats 8000000 in
set_option maxRecDepth 100000 in
theorem kX9_asked (l : Launch) (D : va_G) {cy : Nat → ClassId} {ad : Nat → Nat} {zb : Nat → Nat} (hw : xOk (wC ad cy zb)) {σ : St} {a1 : Int32} {P : Int32 → Prop} (h : wX9_asked σ a1 P) : MI l yX9_asked wsX9_asked rmX9_asked D cy (wC ad cy zb) [.ref (ad 0), .int a1] σ (fun r u => P r ∧ u = σ) := by
  unfold MI
  refine vv_met (cc := cX9_asked) (maxL := 2) (ret := (some .int)) hw (by decide +kernel) rfl [.ref (ad 0), .int a1] (Nat.le_of_ble_eq_true rfl) ?_
  intro p e s m args below meth c X hr
  have X : XX p s m args meth c cX9_asked 2 D cy (wC ad cy zb) wsX9_asked RX9 := X
  refine vv_sub (lv' := [(0, .ref (ad 0)), (1, .int a1)]) [0, 1] rfl ?_
  rw [wX9_asked] at h
  refine vv_aload_n (q := 1) X 0 dX9_asked_0 rfl rfl rfl ?_
  obtain ⟨ho1, h⟩ := h
  refine vv_getf (q := 4) (ref := "HalfLadders") (C := RX9) (T := TX9) (N := 14) X 0 9 2 (Nat.le_of_ble_eq_true rfl) rfl rfl (Nat.le_of_ble_eq_true rfl) (fun _ h => List.mem_cons_of_mem _ (List.mem_append_left _ (List.mem_append_left _ (List.mem_append_right _ h)))) (List.mem_of_getElem? (i := 1) rfl) rfl rfl dX9_asked_1 rfl ?_
  refine vv_iload_n (q := 5) X 1 dX9_asked_4 rfl rfl rfl ?_
  refine vv_cVi (q := 8) (C := RX3) X (σ.2.2.1) 3 [.int a1] (kX3_hasHalf l D X.2.2.1 h) (cwV 1 X.1.2.2.2.2 gX9_asked_X3_hasHalf rfl rfl rfl (by decide +kernel) ⟨Nat.le_of_ble_eq_true rfl, Nat.le_of_ble_eq_true rfl⟩) (isO_lt 0 ho1 (Nat.le_of_ble_eq_true rfl)) (e_isO (ad := ad) (cy := cy) ho1 _ _) rfl rfl rfl (Nat.le_of_ble_eq_true rfl) dX9_asked_5 rfl (fun r2 u9 h9 => ?_)
  obtain ⟨h9, hu9⟩ := h9
  subst u9
  have h := h9
  refine vv_if_eq (q := 11) X 23 dX9_asked_8 (by decide) rfl (fun c3 => ?_) (fun c3 => ?_)
  · have h := h.1 c3
    refine vv_iconst (q := 24) X (-1 : Int32) dX9_asked_23 (by decide) rfl ?_
    exact vv_iret X hr dX9_asked_24 ⟨h, rfl⟩
  · have h := h.2 c3
    refine vv_aload_n (q := 12) X 0 dX9_asked_11 rfl rfl rfl ?_
    refine vv_getf (q := 15) (ref := "HalfLadders") (C := RX9) (T := TX9) (N := 14) X 0 9 7 (Nat.le_of_ble_eq_true rfl) rfl rfl (Nat.le_of_ble_eq_true rfl) (fun _ h => List.mem_cons_of_mem _ (List.mem_append_left _ (List.mem_append_left _ (List.mem_append_right _ h)))) (List.mem_of_getElem? (i := 2) rfl) rfl rfl dX9_asked_12 rfl ?_
    refine vv_getf (q := 18) (ref := "HalfLadders$Liking") (C := RX1) (T := TX1) (N := 5) X 37 1 1 (Nat.le_of_ble_eq_true rfl) rfl rfl (Nat.le_of_ble_eq_true rfl) (fun _ h => List.mem_cons_of_mem _ (List.mem_append_left _ (List.mem_append_right _ h))) (List.mem_of_getElem? (i := 3) rfl) rfl rfl dX9_asked_15 rfl ?_
    refine vv_iload_n (q := 19) X 1 dX9_asked_18 rfl rfl rfl ?_
    obtain ⟨hin4, h⟩ := h
    refine vv_iald (q := 20) X 47 8 (Nat.le_of_ble_eq_true rfl) (fun _ => rfl) hin4 dX9_asked_19 rfl ?_
    refine vv_goto X 24 dX9_asked_20 (by decide) ?_
    exact vv_iret X hr dX9_asked_24 ⟨h, rfl⟩

/-! X9_rests: rests()I -/
def rmX9_rests : Room := { frames := 0, cells := 0, slots := 0, locals := 0 }
def wX9_rests (σ : St)  (P : Int32 → Prop) : Prop :=
P (σ.1 37 4)

set_option maxHeartbeats 8000000 in
set_option maxRecDepth 100000 in
theorem kX9_rests (l : Launch) (D : va_G) {cy : Nat → ClassId} {ad : Nat → Nat} {zb : Nat → Nat} (hw : xOk (wC ad cy zb)) {σ : St}  {P : Int32 → Prop} (h : wX9_rests σ  P) : MI l yX9_rests wsX9_rests rmX9_rests D cy (wC ad cy zb) [.ref (ad 0)] σ (fun r u => P r ∧ u = σ) := by
  unfold MI
  refine vv_met (cc := cX9_rests) (maxL := 1) (ret := (some .int)) hw (by decide +kernel) rfl [.ref (ad 0)] (Nat.le_of_ble_eq_true rfl) ?_
  intro p e s m args below meth c X hr
  have X : XX p s m args meth c cX9_rests 1 D cy (wC ad cy zb) wsX9_rests RX9 := X
  refine vv_sub (lv' := [(0, .ref (ad 0))]) [0] rfl ?_
  rw [wX9_rests] at h
  refine vv_aload_n (q := 1) X 0 dX9_rests_0 rfl rfl rfl ?_
  refine vv_getf (q := 4) (ref := "HalfLadders") (C := RX9) (T := TX9) (N := 14) X 0 9 7 (Nat.le_of_ble_eq_true rfl) rfl rfl (Nat.le_of_ble_eq_true rfl) (fun _ h => List.mem_cons_of_mem _ (List.mem_append_left _ (List.mem_append_right _ h))) (List.mem_of_getElem? (i := 1) rfl) rfl rfl dX9_rests_1 rfl ?_
  refine vv_getf (q := 7) (ref := "HalfLadders$Liking") (C := RX1) (T := TX1) (N := 5) X 37 1 4 (Nat.le_of_ble_eq_true rfl) rfl rfl (Nat.le_of_ble_eq_true rfl) (fun _ h => List.mem_cons_of_mem _ (List.mem_append_right _ h)) (List.mem_of_getElem? (i := 2) rfl) rfl rfl dX9_rests_4 rfl ?_
  exact vv_iret X hr dX9_rests_7 ⟨h, rfl⟩

/-! X9_cuts: cuts(I)I -/
def rmX9_cuts : Room := { frames := 0, cells := 0, slots := 0, locals := 0 }
def wX9_cuts (σ : St) (a1 : Int32) (P : Int32 → Prop) : Prop :=
(a1 < (1 : Int32) →
P (-1 : Int32)) ∧
(¬ a1 < (1 : Int32) →
(a1 ≤ (4 : Int32) →
vp_in a1 5 ∧
P (σ.1 35 a1.toNatClampNeg)) ∧
(¬ a1 ≤ (4 : Int32) →
P (-1 : Int32)))

set_option maxHeartbeats 8000000 in
set_option maxRecDepth 100000 in
theorem kX9_cuts (l : Launch) (D : va_G) {cy : Nat → ClassId} {ad : Nat → Nat} {zb : Nat → Nat} (hw : xOk (wC ad cy zb)) {σ : St} {a1 : Int32} {P : Int32 → Prop} (h : wX9_cuts σ a1 P) : MI l yX9_cuts wsX9_cuts rmX9_cuts D cy (wC ad cy zb) [.ref (ad 0), .int a1] σ (fun r u => P r ∧ u = σ) := by
  unfold MI
  refine vv_met (cc := cX9_cuts) (maxL := 2) (ret := (some .int)) hw (by decide +kernel) rfl [.ref (ad 0), .int a1] (Nat.le_of_ble_eq_true rfl) ?_
  intro p e s m args below meth c X hr
  have X : XX p s m args meth c cX9_cuts 2 D cy (wC ad cy zb) wsX9_cuts RX9 := X
  refine vv_sub (lv' := [(0, .ref (ad 0)), (1, .int a1)]) [0, 1] rfl ?_
  rw [wX9_cuts] at h
  refine vv_iload_n (q := 1) X 1 dX9_cuts_0 rfl rfl rfl ?_
  refine vv_iconst (q := 2) X (1 : Int32) dX9_cuts_1 (by decide) rfl ?_
  refine vv_icmp_lt (q := 5) X 10 dX9_cuts_2 (by decide) rfl (fun c1 => ?_) (fun c1 => ?_)
  · have h := h.1 c1
    refine vv_iconst (q := 11) X (-1 : Int32) dX9_cuts_10 (by decide) rfl ?_
    refine vv_goto X 23 dX9_cuts_11 (by decide) ?_
    exact vv_iret X hr dX9_cuts_23 ⟨h, rfl⟩
  · have h := h.2 c1
    refine vv_iload_n (q := 6) X 1 dX9_cuts_5 rfl rfl rfl ?_
    refine vv_iconst (q := 7) X (4 : Int32) dX9_cuts_6 (by decide) rfl ?_
    refine vv_icmp_le (q := 10) X 14 dX9_cuts_7 (by decide) rfl (fun c2 => ?_) (fun c2 => ?_)
    · have h := h.1 c2
      refine vv_aload_n (q := 15) X 0 dX9_cuts_14 rfl rfl rfl ?_
      refine vv_getf (q := 18) (ref := "HalfLadders") (C := RX9) (T := TX9) (N := 14) X 0 9 6 (Nat.le_of_ble_eq_true rfl) rfl rfl (Nat.le_of_ble_eq_true rfl) (fun _ h => List.mem_cons_of_mem _ (List.mem_append_left _ (List.mem_append_right _ h))) (List.mem_of_getElem? (i := 1) rfl) rfl rfl dX9_cuts_15 rfl ?_
      refine vv_getf (q := 21) (ref := "HalfLadders$Cutting") (C := RX0) (T := TX0) (N := 2) X 34 0 0 (Nat.le_of_ble_eq_true rfl) rfl rfl (Nat.le_of_ble_eq_true rfl) (fun _ h => List.mem_cons_of_mem _ (List.mem_append_right _ h)) (List.mem_of_getElem? (i := 2) rfl) rfl rfl dX9_cuts_18 rfl ?_
      refine vv_iload_n (q := 22) X 1 dX9_cuts_21 rfl rfl rfl ?_
      obtain ⟨hin3, h⟩ := h
      refine vv_iald (q := 23) X 35 5 (Nat.le_of_ble_eq_true rfl) (fun _ => rfl) hin3 dX9_cuts_22 rfl ?_
      exact vv_iret X hr dX9_cuts_23 ⟨h, rfl⟩
    · have h := h.2 c2
      refine vv_iconst (q := 11) X (-1 : Int32) dX9_cuts_10 (by decide) rfl ?_
      refine vv_goto X 23 dX9_cuts_11 (by decide) ?_
      exact vv_iret X hr dX9_cuts_23 ⟨h, rfl⟩

/-! X9_whose: whose(III)I -/
def rmX9_whose : Room := { frames := 2, cells := 0, slots := 0, locals := 47 }
def wX9_whose (σ : St) (a1 : Int32) (a2 : Int32) (a3 : Int32) (P : Int32 → Prop) : Prop :=
(a1 < (1 : Int32) →
P (-1 : Int32)) ∧
(¬ a1 < (1 : Int32) →
((9 : Int32) < a1 →
P (-1 : Int32)) ∧
(¬ (9 : Int32) < a1 →
(a2 < (1 : Int32) →
P (-1 : Int32)) ∧
(¬ a2 < (1 : Int32) →
((9 : Int32) < a2 →
P (-1 : Int32)) ∧
(¬ (9 : Int32) < a2 →
(a3 < 0 →
P (-1 : Int32)) ∧
(¬ a3 < 0 →
(a3 ≤ (1 : Int32) →
(¬ a3 = 0 →
wX4_firstOf σ a1 a2 (fun r8 : Int32 =>
P r8)) ∧
(a3 = 0 →
wX4_howMany σ a1 a2 (fun r9 : Int32 =>
P r9))) ∧
(¬ a3 ≤ (1 : Int32) →
P (-1 : Int32)))))))

set_option maxHeartbeats 8000000 in
set_option maxRecDepth 100000 in
theorem kX9_whose (l : Launch) (D : va_G) {cy : Nat → ClassId} {ad : Nat → Nat} {zb : Nat → Nat} (hw : xOk (wC ad cy zb)) {σ : St} {a1 : Int32} {a2 : Int32} {a3 : Int32} {P : Int32 → Prop} (h : wX9_whose σ a1 a2 a3 P) : MI l yX9_whose wsX9_whose rmX9_whose D cy (wC ad cy zb) [.ref (ad 0), .int a1, .int a2, .int a3] σ (fun r u => P r ∧ u = σ) := by
  unfold MI
  refine vv_met (cc := cX9_whose) (maxL := 4) (ret := (some .int)) hw (by decide +kernel) rfl [.ref (ad 0), .int a1, .int a2, .int a3] (Nat.le_of_ble_eq_true rfl) ?_
  intro p e s m args below meth c X hr
  have X : XX p s m args meth c cX9_whose 4 D cy (wC ad cy zb) wsX9_whose RX9 := X
  refine vv_sub (lv' := [(0, .ref (ad 0)), (1, .int a1), (2, .int a2), (3, .int a3)]) [0, 1, 2, 3] rfl ?_
  rw [wX9_whose] at h
  refine vv_iload_n (q := 1) X 1 dX9_whose_0 rfl rfl rfl ?_
  refine vv_iconst (q := 2) X (1 : Int32) dX9_whose_1 (by decide) rfl ?_
  refine vv_icmp_lt (q := 5) X 31 dX9_whose_2 (by decide) rfl (fun c1 => ?_) (fun c1 => ?_)
  · have h := h.1 c1
    refine vv_iconst (q := 32) X (-1 : Int32) dX9_whose_31 (by decide) rfl ?_
    exact vv_iret X hr dX9_whose_32 ⟨h, rfl⟩
  · have h := h.2 c1
    refine vv_iload_n (q := 6) X 1 dX9_whose_5 rfl rfl rfl ?_
    refine vv_bipush (q := 8) X (9 : Int32) dX9_whose_6 (by decide) rfl ?_
    refine vv_icmp_gt (q := 11) X 31 dX9_whose_8 (by decide) rfl (fun c2 => ?_) (fun c2 => ?_)
    · have h := h.1 c2
      refine vv_iconst (q := 32) X (-1 : Int32) dX9_whose_31 (by decide) rfl ?_
      exact vv_iret X hr dX9_whose_32 ⟨h, rfl⟩
    · have h := h.2 c2
      refine vv_iload_n (q := 12) X 2 dX9_whose_11 rfl rfl rfl ?_
      refine vv_iconst (q := 13) X (1 : Int32) dX9_whose_12 (by decide) rfl ?_
      refine vv_icmp_lt (q := 16) X 31 dX9_whose_13 (by decide) rfl (fun c3 => ?_) (fun c3 => ?_)
      · have h := h.1 c3
        refine vv_iconst (q := 32) X (-1 : Int32) dX9_whose_31 (by decide) rfl ?_
        exact vv_iret X hr dX9_whose_32 ⟨h, rfl⟩
      · have h := h.2 c3
        refine vv_iload_n (q := 17) X 2 dX9_whose_16 rfl rfl rfl ?_
        refine vv_bipush (q := 19) X (9 : Int32) dX9_whose_17 (by decide) rfl ?_
        refine vv_icmp_gt (q := 22) X 31 dX9_whose_19 (by decide) rfl (fun c4 => ?_) (fun c4 => ?_)
        · have h := h.1 c4
          refine vv_iconst (q := 32) X (-1 : Int32) dX9_whose_31 (by decide) rfl ?_
          exact vv_iret X hr dX9_whose_32 ⟨h, rfl⟩
        · have h := h.2 c4
          refine vv_iload_n (q := 23) X 3 dX9_whose_22 rfl rfl rfl ?_
          refine vv_if_lt (q := 26) X 31 dX9_whose_23 (by decide) rfl (fun c5 => ?_) (fun c5 => ?_)
          · have h := h.1 c5
            refine vv_iconst (q := 32) X (-1 : Int32) dX9_whose_31 (by decide) rfl ?_
            exact vv_iret X hr dX9_whose_32 ⟨h, rfl⟩
          · have h := h.2 c5
            refine vv_iload_n (q := 27) X 3 dX9_whose_26 rfl rfl rfl ?_
            refine vv_iconst (q := 28) X (1 : Int32) dX9_whose_27 (by decide) rfl ?_
            refine vv_icmp_le (q := 31) X 33 dX9_whose_28 (by decide) rfl (fun c6 => ?_) (fun c6 => ?_)
            · have h := h.1 c6
              refine vv_iload_n (q := 34) X 3 dX9_whose_33 rfl rfl rfl ?_
              refine vv_if_ne (q := 37) X 49 dX9_whose_34 (by decide) rfl (fun c7 => ?_) (fun c7 => ?_)
              · have h := h.1 c7
                refine vv_aload_n (q := 50) X 0 dX9_whose_49 rfl rfl rfl ?_
                refine vv_getf (q := 53) (ref := "HalfLadders") (C := RX9) (T := TX9) (N := 14) X 0 9 4 (Nat.le_of_ble_eq_true rfl) rfl rfl (Nat.le_of_ble_eq_true rfl) (fun _ h => List.mem_cons_of_mem _ (List.mem_append_left _ (List.mem_append_right _ h))) (List.mem_of_getElem? (i := 1) rfl) rfl rfl dX9_whose_50 rfl ?_
                refine vv_iload_n (q := 54) X 1 dX9_whose_53 rfl rfl rfl ?_
                refine vv_iload_n (q := 55) X 2 dX9_whose_54 rfl rfl rfl ?_
                refine vv_cVi (q := 58) (C := RX4) X 25 4 [.int a1, .int a2] (kX4_firstOf l D X.2.2.1 h) (cwV 2 X.1.2.2.2.2 gX9_whose_X4_firstOf rfl rfl rfl (by decide +kernel) ⟨Nat.le_of_ble_eq_true rfl, Nat.le_of_ble_eq_true rfl⟩) (Nat.le_of_ble_eq_true rfl) rfl rfl rfl rfl (Nat.le_of_ble_eq_true rfl) dX9_whose_55 rfl (fun r8 u9 h9 => ?_)
                obtain ⟨h9, hu9⟩ := h9
                subst u9
                have h := h9
                exact vv_iret X hr dX9_whose_58 ⟨h, rfl⟩
              · have h := h.2 c7
                refine vv_aload_n (q := 38) X 0 dX9_whose_37 rfl rfl rfl ?_
                refine vv_getf (q := 41) (ref := "HalfLadders") (C := RX9) (T := TX9) (N := 14) X 0 9 4 (Nat.le_of_ble_eq_true rfl) rfl rfl (Nat.le_of_ble_eq_true rfl) (fun _ h => List.mem_cons_of_mem _ (List.mem_append_left _ (List.mem_append_right _ h))) (List.mem_of_getElem? (i := 1) rfl) rfl rfl dX9_whose_38 rfl ?_
                refine vv_iload_n (q := 42) X 1 dX9_whose_41 rfl rfl rfl ?_
                refine vv_iload_n (q := 43) X 2 dX9_whose_42 rfl rfl rfl ?_
                refine vv_cVi (q := 46) (C := RX4) X 25 4 [.int a1, .int a2] (kX4_howMany l D X.2.2.1 h) (cwV 2 X.1.2.2.2.2 gX9_whose_X4_howMany rfl rfl rfl (by decide +kernel) ⟨Nat.le_of_ble_eq_true rfl, Nat.le_of_ble_eq_true rfl⟩) (Nat.le_of_ble_eq_true rfl) rfl rfl rfl rfl (Nat.le_of_ble_eq_true rfl) dX9_whose_43 rfl (fun r9 u9 h9 => ?_)
                obtain ⟨h9, hu9⟩ := h9
                subst u9
                have h := h9
                refine vv_goto X 58 dX9_whose_46 (by decide) ?_
                exact vv_iret X hr dX9_whose_58 ⟨h, rfl⟩
            · have h := h.2 c6
              refine vv_iconst (q := 32) X (-1 : Int32) dX9_whose_31 (by decide) rfl ?_
              exact vv_iret X hr dX9_whose_32 ⟨h, rfl⟩

/-! X9_markAs: markAs(LHalfLadders;III)I -/
def rmX9_markAs (d : Nat) : Room := { frames := d + 1, cells := 0, slots := 0, locals := d * 24 + 23 }
def wX9_markAs : Nat → St → Int32 → Int32 → Int32 → (Int32 → St → Prop) → Prop
  | 0, _, _, _, _, _ => False
  | d + 1, σ, a1, a2, a3, P =>
    ((5 : Int32) < a3 →
    P (0 : Int32) σ) ∧
    (¬ (5 : Int32) < a3 →
    (a1 < 0 →
    P (0 : Int32) σ) ∧
    (¬ a1 < 0 →
    ((5 : Int32) < a1 →
    P (0 : Int32) σ) ∧
    (¬ (5 : Int32) < a1 →
    isO σ.2.2.1 ∧
    wX3_hasHalf σ (σ.2.2.1) a2 (fun r5 : Int32 =>
    (¬ r5 = 0 →
    vp_in a1 6 ∧
    ∀ σ8 : St, σ8 = (σ.1, ((σ.2.1) + ((zT 1 a1.toNatClampNeg).toInt64), σ.2.2.1, σ.2.2.2)) →
    (¬ a1 = 0 →
    vp_in a1 6 ∧
    wX9_markAs d σ8 (zT 0 a1.toNatClampNeg) a2 (a3 + (1 : Int32)) (fun (r11 : Int32) (σ12 : St) =>
    (a1 = (1 : Int32) →
    isO σ12.2.2.1 ∧
    vp_in a2 8 ∧
    P (r11 - (σ12.1 (σ12.2.2.1 + 2) a2.toNatClampNeg)) σ12) ∧
    (¬ a1 = (1 : Int32) →
    (a1 = (2 : Int32) →
    P (r11 * (2 : Int32)) σ12) ∧
    (¬ a1 = (2 : Int32) →
    (a1 = (3 : Int32) →
    isO σ12.2.2.1 ∧
    vp_in a2 8 ∧
    P (r11 + (σ12.1 (σ12.2.2.1 + 4) a2.toNatClampNeg)) σ12) ∧
    (¬ a1 = (3 : Int32) →
    (a1 = (4 : Int32) →
    wX4_howManyWith σ12 a2 (fun r21 : Int32 =>
    P (r11 + r21) σ12)) ∧
    (¬ a1 = (4 : Int32) →
    P (r11 + (σ12.1 65 0)) σ12)))))) ∧
    (a1 = 0 →
    isO σ8.2.2.1 ∧
    vp_in a2 8 ∧
    P (σ8.1 (σ8.2.2.1 + 3) a2.toNatClampNeg) σ8)) ∧
    (r5 = 0 →
    P (0 : Int32) σ)))))

set_option maxHeartbeats 8000000 in
set_option maxRecDepth 100000 in
theorem kX9_markAs (l : Launch) (D : va_G) {cy : Nat → ClassId} {ad : Nat → Nat} {zb : Nat → Nat} (hw : xOk (wC ad cy zb)) : ∀ (d : Nat) (σ : St) (a1 : Int32) (a2 : Int32) (a3 : Int32) (P : Int32 → St → Prop), wX9_markAs d σ a1 a2 a3 P → MI l yX9_markAs wsX9_markAs (rmX9_markAs d) D cy (wC ad cy zb) [.ref (ad 0), .int a1, .int a2, .int a3] σ P := by
  intro d
  induction d with
  | zero => intro σ a1 a2 a3 P h; exact h.elim
  | succ d ihd =>
  intro σ a1 a2 a3 P h
  unfold MI
  refine vv_met (cc := cX9_markAs) (maxL := 5) (ret := (some .int)) hw (by decide +kernel) rfl [.ref (ad 0), .int a1, .int a2, .int a3] (Nat.le_of_ble_eq_true rfl) ?_
  intro p e s m args below meth c X hr
  have X : XX p s m args meth c cX9_markAs 5 D cy (wC ad cy zb) wsX9_markAs RX9 := X
  refine vv_sub (lv' := [(0, .ref (ad 0)), (1, .int a1), (2, .int a2), (3, .int a3)]) [0, 1, 2, 3] rfl ?_
  rw [wX9_markAs] at h
  refine vv_iload_n (q := 1) X 3 dX9_markAs_0 rfl rfl rfl ?_
  refine vv_iconst (q := 2) X (5 : Int32) dX9_markAs_1 (by decide) rfl ?_
  refine vv_icmp_gt (q := 5) X 25 dX9_markAs_2 (by decide) rfl (fun c1 => ?_) (fun c1 => ?_)
  · have h := h.1 c1
    refine vv_iconst (q := 26) X (0 : Int32) dX9_markAs_25 (by decide) rfl ?_
    exact vv_iret X hr dX9_markAs_26 h
  · have h := h.2 c1
    refine vv_iload_n (q := 6) X 1 dX9_markAs_5 rfl rfl rfl ?_
    refine vv_if_lt (q := 9) X 25 dX9_markAs_6 (by decide) rfl (fun c2 => ?_) (fun c2 => ?_)
    · have h := h.1 c2
      refine vv_iconst (q := 26) X (0 : Int32) dX9_markAs_25 (by decide) rfl ?_
      exact vv_iret X hr dX9_markAs_26 h
    · have h := h.2 c2
      refine vv_iload_n (q := 10) X 1 dX9_markAs_9 rfl rfl rfl ?_
      refine vv_iconst (q := 11) X (5 : Int32) dX9_markAs_10 (by decide) rfl ?_
      refine vv_icmp_gt (q := 14) X 25 dX9_markAs_11 (by decide) rfl (fun c3 => ?_) (fun c3 => ?_)
      · have h := h.1 c3
        refine vv_iconst (q := 26) X (0 : Int32) dX9_markAs_25 (by decide) rfl ?_
        exact vv_iret X hr dX9_markAs_26 h
      · have h := h.2 c3
        refine vv_aload_n (q := 15) X 0 dX9_markAs_14 rfl rfl rfl ?_
        obtain ⟨ho4, h⟩ := h
        refine vv_getf (q := 18) (ref := "HalfLadders") (C := RX9) (T := TX9) (N := 14) X 0 9 2 (Nat.le_of_ble_eq_true rfl) rfl rfl (Nat.le_of_ble_eq_true rfl) (fun _ h => List.mem_cons_of_mem _ (List.mem_append_left _ (List.mem_append_left _ (List.mem_append_left _ (List.mem_append_right _ h))))) (List.mem_of_getElem? (i := 1) rfl) rfl rfl dX9_markAs_15 rfl ?_
        refine vv_iload_n (q := 19) X 2 dX9_markAs_18 rfl rfl rfl ?_
        refine vv_cVi (q := 22) (C := RX3) X (σ.2.2.1) 3 [.int a2] (kX3_hasHalf l D X.2.2.1 h) (cwV 1 X.1.2.2.2.2 gX9_markAs_X3_hasHalf rfl rfl rfl (by decide +kernel) ⟨by show _ ≤ _; simp only [rmX3_hasHalf, rmX9_markAs]; omega, by show _ ≤ _; simp only [rmX3_hasHalf, rmX9_markAs]; omega⟩) (isO_lt 0 ho4 (Nat.le_of_ble_eq_true rfl)) (e_isO (ad := ad) (cy := cy) ho4 _ _) rfl rfl rfl (Nat.le_of_ble_eq_true rfl) dX9_markAs_19 rfl (fun r5 u9 h9 => ?_)
        obtain ⟨h9, hu9⟩ := h9
        subst u9
        have h := h9
        refine vv_if_ne (q := 25) X 27 dX9_markAs_22 (by decide) rfl (fun c6 => ?_) (fun c6 => ?_)
        · have h := h.1 c6
          refine vv_aload_n (q := 28) X 0 dX9_markAs_27 rfl rfl rfl ?_
          refine vv_dup (q := 29) X dX9_markAs_28 rfl rfl ?_
          refine vv_getf (q := 32) (ref := "HalfLadders") (C := RX9) (T := TX9) (N := 14) X 0 9 13 (Nat.le_of_ble_eq_true rfl) rfl rfl (Nat.le_of_ble_eq_true rfl) (fun _ h => List.mem_cons_of_mem _ (List.mem_append_left _ (List.mem_append_left _ (List.mem_append_left _ (List.mem_append_right _ h))))) (List.mem_of_getElem? (i := 2) rfl) rfl rfl dX9_markAs_29 rfl ?_
          refine vv_gets1 (q := 35) X (List.mem_of_getElem? (i := 3) rfl) dX9_markAs_32 rfl ?_
          refine vv_iload_n (q := 36) X 1 dX9_markAs_35 rfl rfl rfl ?_
          obtain ⟨hin7, h⟩ := h
          refine vv_siald (q := 37) X 1 6 (Nat.le_of_ble_eq_true rfl) rfl hin7 dX9_markAs_36 rfl ?_
          refine vv_i2l (q := 38) X dX9_markAs_37 rfl ?_
          refine vv_ladd (q := 39) X dX9_markAs_38 rfl ?_
          refine vv_putT (q := 42) (ref := "HalfLadders") (C := RX9) (T := TX9) (N := 14) X 9 13 ((σ.2.1) + ((zT 1 a1.toNatClampNeg).toInt64), σ.2.2.1, σ.2.2.2) tyX9 tyX9_ok nmX9 (Nat.le_of_ble_eq_true rfl) rfl eC_T rfl rfl (Nat.le_of_ble_eq_true rfl) rfl (fun _ h => List.mem_cons_of_mem _ (List.mem_append_left _ (List.mem_append_left _ (List.mem_append_left _ (List.mem_append_right _ h))))) (List.mem_of_getElem? (i := 2) rfl) rfl rfl (ty := .long) rfl rfl rfl dX9_markAs_39 rfl ?_
          refine vv_nm (fun σ8 hσ8 => ?_)
          have h := h σ8 hσ8
          refine vv_iload_n (q := 43) X 1 dX9_markAs_42 rfl rfl rfl ?_
          refine vv_if_ne (q := 46) X 56 dX9_markAs_43 (by decide) rfl (fun c9 => ?_) (fun c9 => ?_)
          · have h := h.1 c9
            refine vv_aload_n (q := 57) X 0 dX9_markAs_56 rfl rfl rfl ?_
            refine vv_gets0 (q := 60) X (List.mem_of_getElem? (i := 5) rfl) dX9_markAs_57 rfl ?_
            refine vv_iload_n (q := 61) X 1 dX9_markAs_60 rfl rfl rfl ?_
            obtain ⟨hin10, h⟩ := h
            refine vv_siald (q := 62) X 0 6 (Nat.le_of_ble_eq_true rfl) rfl hin10 dX9_markAs_61 rfl ?_
            refine vv_iload_n (q := 63) X 2 dX9_markAs_62 rfl rfl rfl ?_
            refine vv_iload_n (q := 64) X 3 dX9_markAs_63 rfl rfl rfl ?_
            refine vv_iconst (q := 65) X (1 : Int32) dX9_markAs_64 (by decide) rfl ?_
            refine vv_iadd (q := 66) X dX9_markAs_65 rfl ?_
            refine vv_cSi (q := 69) X [.ref (ad 0), .int (zT 0 a1.toNatClampNeg), .int a2, .int (a3 + (1 : Int32))] (ihd σ8 (zT 0 a1.toNatClampNeg) a2 (a3 + (1 : Int32)) _ h) (va_cwS 4 X.1.2.2.2.2 gX9_markAs_X9_markAs rfl rfl rfl (by decide +kernel) ⟨by show _ ≤ _; simp only [rmX9_markAs]; omega, by show _ ≤ _; simp only [rmX9_markAs]; omega⟩) rfl rfl (Nat.le_of_ble_eq_true rfl) dX9_markAs_66 rfl (fun r11 σ12 h => ?_)
            refine vv_istore (lv2 := [(4, .int r11), (0, .ref (ad 0)), (1, .int a1), (2, .int a2), (3, .int a3)]) (q := 71) X dX9_markAs_69 (Nat.le_of_ble_eq_true rfl) rfl rfl ?_
            refine vv_iload_n (q := 72) X 2 dX9_markAs_71 rfl rfl rfl ?_
            by_cases c13 : a1 = (1 : Int32)
            · have h := h.1 c13
              refine vv_tabIn (off := 32) X 104 dX9_markAs_72 (by rw [c13]; decide) (by rw [c13]; decide) (by rw [c13]; rfl) (by decide) ?_
              refine vv_iload (q := 106) X 0 dX9_markAs_104 rfl rfl ?_
              refine vv_aload_n (q := 107) X 1 dX9_markAs_106 rfl rfl rfl ?_
              obtain ⟨ho14, h⟩ := h
              refine vv_getf (q := 110) (ref := "HalfLadders") (C := RX9) (T := TX9) (N := 14) X 0 9 2 (Nat.le_of_ble_eq_true rfl) rfl rfl (Nat.le_of_ble_eq_true rfl) (fun _ h => List.mem_cons_of_mem _ (List.mem_append_left _ (List.mem_append_left _ (List.mem_append_left _ (List.mem_append_right _ h))))) (List.mem_of_getElem? (i := 1) rfl) rfl rfl dX9_markAs_107 rfl ?_
              refine vv_getf (q := 113) (ref := "HalfLadders$Orchard") (C := RX3) (T := TX3) (N := 10) X (σ12.2.2.1) 3 3 (isO_lt 0 ho14 (Nat.le_of_ble_eq_true rfl)) (e_isO (ad := ad) (cy := cy) ho14 _ _) rfl (Nat.le_of_ble_eq_true rfl) (fun _ h => List.mem_cons_of_mem _ (List.mem_append_left _ (List.mem_append_left _ (List.mem_append_right _ h)))) (List.mem_of_getElem? (i := 6) rfl) rfl rfl dX9_markAs_110 rfl ?_
              refine vv_iload_n (q := 114) X 3 dX9_markAs_113 rfl rfl rfl ?_
              obtain ⟨hin15, h⟩ := h
              refine vv_iald (q := 115) X (σ12.2.2.1 + 2) 8 (isO_lt 2 ho14 (Nat.le_of_ble_eq_true rfl)) (fun f => e_isO_2 (ad := ad) (cy := cy) ho14 f σ12.2) hin15 dX9_markAs_114 rfl ?_
              refine vv_isub (q := 116) X dX9_markAs_115 rfl ?_
              exact vv_iret X hr dX9_markAs_116 h
            · have h := h.2 c13
              by_cases c16 : a1 = (2 : Int32)
              · have h := h.1 c16
                refine vv_tabIn (off := 45) X 117 dX9_markAs_72 (by rw [c16]; decide) (by rw [c16]; decide) (by rw [c16]; rfl) (by decide) ?_
                refine vv_iload (q := 119) X 0 dX9_markAs_117 rfl rfl ?_
                refine vv_iconst (q := 120) X (2 : Int32) dX9_markAs_119 (by decide) rfl ?_
                refine vv_imul (q := 121) X dX9_markAs_120 rfl ?_
                exact vv_iret X hr dX9_markAs_121 h
              · have h := h.2 c16
                by_cases c17 : a1 = (3 : Int32)
                · have h := h.1 c17
                  refine vv_tabIn (off := 50) X 122 dX9_markAs_72 (by rw [c17]; decide) (by rw [c17]; decide) (by rw [c17]; rfl) (by decide) ?_
                  refine vv_iload (q := 124) X 0 dX9_markAs_122 rfl rfl ?_
                  refine vv_aload_n (q := 125) X 1 dX9_markAs_124 rfl rfl rfl ?_
                  obtain ⟨ho18, h⟩ := h
                  refine vv_getf (q := 128) (ref := "HalfLadders") (C := RX9) (T := TX9) (N := 14) X 0 9 2 (Nat.le_of_ble_eq_true rfl) rfl rfl (Nat.le_of_ble_eq_true rfl) (fun _ h => List.mem_cons_of_mem _ (List.mem_append_left _ (List.mem_append_left _ (List.mem_append_left _ (List.mem_append_right _ h))))) (List.mem_of_getElem? (i := 1) rfl) rfl rfl dX9_markAs_125 rfl ?_
                  refine vv_getf (q := 131) (ref := "HalfLadders$Orchard") (C := RX3) (T := TX3) (N := 10) X (σ12.2.2.1) 3 5 (isO_lt 0 ho18 (Nat.le_of_ble_eq_true rfl)) (e_isO (ad := ad) (cy := cy) ho18 _ _) rfl (Nat.le_of_ble_eq_true rfl) (fun _ h => List.mem_cons_of_mem _ (List.mem_append_left _ (List.mem_append_left _ (List.mem_append_right _ h)))) (List.mem_of_getElem? (i := 7) rfl) rfl rfl dX9_markAs_128 rfl ?_
                  refine vv_iload_n (q := 132) X 3 dX9_markAs_131 rfl rfl rfl ?_
                  obtain ⟨hin19, h⟩ := h
                  refine vv_iald (q := 133) X (σ12.2.2.1 + 4) 8 (isO_lt 4 ho18 (Nat.le_of_ble_eq_true rfl)) (fun f => e_isO_4 (ad := ad) (cy := cy) ho18 f σ12.2) hin19 dX9_markAs_132 rfl ?_
                  refine vv_iadd (q := 134) X dX9_markAs_133 rfl ?_
                  exact vv_iret X hr dX9_markAs_134 h
                · have h := h.2 c17
                  by_cases c20 : a1 = (4 : Int32)
                  · have h := h.1 c20
                    refine vv_tabIn (off := 63) X 135 dX9_markAs_72 (by rw [c20]; decide) (by rw [c20]; decide) (by rw [c20]; rfl) (by decide) ?_
                    refine vv_iload (q := 137) X 0 dX9_markAs_135 rfl rfl ?_
                    refine vv_aload_n (q := 138) X 1 dX9_markAs_137 rfl rfl rfl ?_
                    refine vv_getf (q := 141) (ref := "HalfLadders") (C := RX9) (T := TX9) (N := 14) X 0 9 4 (Nat.le_of_ble_eq_true rfl) rfl rfl (Nat.le_of_ble_eq_true rfl) (fun _ h => List.mem_cons_of_mem _ (List.mem_append_left _ (List.mem_append_left _ (List.mem_append_left _ (List.mem_append_right _ h))))) (List.mem_of_getElem? (i := 8) rfl) rfl rfl dX9_markAs_138 rfl ?_
                    refine vv_iload_n (q := 142) X 3 dX9_markAs_141 rfl rfl rfl ?_
                    refine vv_cVi (q := 145) (C := RX4) X 25 4 [.int a2] (kX4_howManyWith l D X.2.2.1 h) (cwV 1 X.1.2.2.2.2 gX9_markAs_X4_howManyWith rfl rfl rfl (by decide +kernel) ⟨by show _ ≤ _; simp only [rmX4_howManyWith, rmX9_markAs]; omega, by show _ ≤ _; simp only [rmX4_howManyWith, rmX9_markAs]; omega⟩) (Nat.le_of_ble_eq_true rfl) rfl rfl rfl rfl (Nat.le_of_ble_eq_true rfl) dX9_markAs_142 rfl (fun r21 u9 h9 => ?_)
                    obtain ⟨h9, hu9⟩ := h9
                    subst u9
                    have h := h9
                    refine vv_iadd (q := 146) X dX9_markAs_145 rfl ?_
                    exact vv_iret X hr dX9_markAs_146 h
                  · have h := h.2 c20
                    refine vv_tabOut X 147 dX9_markAs_72 (by have n0 : ¬ a1.toInt = 1 := i32_ne c13; have n1 : ¬ a1.toInt = 2 := i32_ne c16; have n2 : ¬ a1.toInt = 3 := i32_ne c17; have n3 : ¬ a1.toInt = 4 := i32_ne c20; omega) (by decide) ?_
                    refine vv_iload (q := 149) X 0 dX9_markAs_147 rfl rfl ?_
                    refine vv_aload_n (q := 150) X 1 dX9_markAs_149 rfl rfl rfl ?_
                    refine vv_getf (q := 153) (ref := "HalfLadders") (C := RX9) (T := TX9) (N := 14) X 0 9 9 (Nat.le_of_ble_eq_true rfl) rfl rfl (Nat.le_of_ble_eq_true rfl) (fun _ h => List.mem_cons_of_mem _ (List.mem_append_left _ (List.mem_append_left _ (List.mem_append_left _ (List.mem_append_right _ h))))) (List.mem_of_getElem? (i := 9) rfl) rfl rfl dX9_markAs_150 rfl ?_
                    refine vv_getf (q := 156) (ref := "HalfLadders$Now") (C := RX2) (T := TX2) (N := 7) X 65 2 0 (Nat.le_of_ble_eq_true rfl) rfl rfl (Nat.le_of_ble_eq_true rfl) (fun _ h => List.mem_cons_of_mem _ (List.mem_append_left _ (List.mem_append_right _ h))) (List.mem_of_getElem? (i := 10) rfl) rfl rfl dX9_markAs_153 rfl ?_
                    refine vv_iadd (q := 157) X dX9_markAs_156 rfl ?_
                    exact vv_iret X hr dX9_markAs_157 h
          · have h := h.2 c9
            refine vv_aload_n (q := 47) X 0 dX9_markAs_46 rfl rfl rfl ?_
            obtain ⟨ho22, h⟩ := h
            refine vv_getf (q := 50) (ref := "HalfLadders") (C := RX9) (T := TX9) (N := 14) X 0 9 2 (Nat.le_of_ble_eq_true rfl) rfl rfl (Nat.le_of_ble_eq_true rfl) (fun _ h => List.mem_cons_of_mem _ (List.mem_append_left _ (List.mem_append_left _ (List.mem_append_left _ (List.mem_append_right _ h))))) (List.mem_of_getElem? (i := 1) rfl) rfl rfl dX9_markAs_47 rfl ?_
            refine vv_getf (q := 53) (ref := "HalfLadders$Orchard") (C := RX3) (T := TX3) (N := 10) X (σ8.2.2.1) 3 4 (isO_lt 0 ho22 (Nat.le_of_ble_eq_true rfl)) (e_isO (ad := ad) (cy := cy) ho22 _ _) rfl (Nat.le_of_ble_eq_true rfl) (fun _ h => List.mem_cons_of_mem _ (List.mem_append_left _ (List.mem_append_left _ (List.mem_append_right _ h)))) (List.mem_of_getElem? (i := 4) rfl) rfl rfl dX9_markAs_50 rfl ?_
            refine vv_iload_n (q := 54) X 2 dX9_markAs_53 rfl rfl rfl ?_
            obtain ⟨hin23, h⟩ := h
            refine vv_iald (q := 55) X (σ8.2.2.1 + 3) 8 (isO_lt 3 ho22 (Nat.le_of_ble_eq_true rfl)) (fun f => e_isO_3 (ad := ad) (cy := cy) ho22 f σ8.2) hin23 dX9_markAs_54 rfl ?_
            exact vv_iret X hr dX9_markAs_55 h
        · have h := h.2 c6
          refine vv_iconst (q := 26) X (0 : Int32) dX9_markAs_25 (by decide) rfl ?_
          exact vv_iret X hr dX9_markAs_26 h

/-! X9_mark: mark(II)I -/
def rmX9_mark : Room := { frames := 12, cells := 0, slots := 0, locals := 287 }
def wX9_mark (σ : St) (a1 : Int32) (a2 : Int32) (P : Int32 → St → Prop) : Prop :=
(a1 < 0 →
P (-1000000 : Int32) σ) ∧
(¬ a1 < 0 →
((5 : Int32) < a1 →
P (-1000000 : Int32) σ) ∧
(¬ (5 : Int32) < a1 →
isO σ.2.2.1 ∧
wX3_hasHalf σ (σ.2.2.1) a2 (fun r4 : Int32 =>
(¬ r4 = 0 →
∃ dd : Nat, dd ≤ 10 ∧ wX9_markAs dd σ a1 a2 (0 : Int32) (fun (r6 : Int32) (σ7 : St) =>
P r6 σ7)) ∧
(r4 = 0 →
P (-1000000 : Int32) σ))))

set_option maxHeartbeats 8000000 in
set_option maxRecDepth 100000 in
theorem kX9_mark (l : Launch) (D : va_G) {cy : Nat → ClassId} {ad : Nat → Nat} {zb : Nat → Nat} (hw : xOk (wC ad cy zb)) {σ : St} {a1 : Int32} {a2 : Int32} {P : Int32 → St → Prop} (h : wX9_mark σ a1 a2 P) : MI l yX9_mark wsX9_mark rmX9_mark D cy (wC ad cy zb) [.ref (ad 0), .int a1, .int a2] σ P := by
  unfold MI
  refine vv_met (cc := cX9_mark) (maxL := 3) (ret := (some .int)) hw (by decide +kernel) rfl [.ref (ad 0), .int a1, .int a2] (Nat.le_of_ble_eq_true rfl) ?_
  intro p e s m args below meth c X hr
  have X : XX p s m args meth c cX9_mark 3 D cy (wC ad cy zb) wsX9_mark RX9 := X
  refine vv_sub (lv' := [(0, .ref (ad 0)), (1, .int a1), (2, .int a2)]) [0, 1, 2] rfl ?_
  rw [wX9_mark] at h
  refine vv_iload_n (q := 1) X 1 dX9_mark_0 rfl rfl rfl ?_
  refine vv_if_lt (q := 4) X 20 dX9_mark_1 (by decide) rfl (fun c1 => ?_) (fun c1 => ?_)
  · have h := h.1 c1
    refine vv_ldc (q := 22) X (-1000000 : Int32) dX9_mark_20 (List.mem_of_getElem? (i := 2) rfl) rfl ?_
    exact vv_iret X hr dX9_mark_22 h
  · have h := h.2 c1
    refine vv_iload_n (q := 5) X 1 dX9_mark_4 rfl rfl rfl ?_
    refine vv_iconst (q := 6) X (5 : Int32) dX9_mark_5 (by decide) rfl ?_
    refine vv_icmp_gt (q := 9) X 20 dX9_mark_6 (by decide) rfl (fun c2 => ?_) (fun c2 => ?_)
    · have h := h.1 c2
      refine vv_ldc (q := 22) X (-1000000 : Int32) dX9_mark_20 (List.mem_of_getElem? (i := 2) rfl) rfl ?_
      exact vv_iret X hr dX9_mark_22 h
    · have h := h.2 c2
      refine vv_aload_n (q := 10) X 0 dX9_mark_9 rfl rfl rfl ?_
      obtain ⟨ho3, h⟩ := h
      refine vv_getf (q := 13) (ref := "HalfLadders") (C := RX9) (T := TX9) (N := 14) X 0 9 2 (Nat.le_of_ble_eq_true rfl) rfl rfl (Nat.le_of_ble_eq_true rfl) (fun _ h => List.mem_cons_of_mem _ (List.mem_append_left _ (List.mem_append_left _ (List.mem_append_left _ (List.mem_append_right _ h))))) (List.mem_of_getElem? (i := 1) rfl) rfl rfl dX9_mark_10 rfl ?_
      refine vv_iload_n (q := 14) X 2 dX9_mark_13 rfl rfl rfl ?_
      refine vv_cVi (q := 17) (C := RX3) X (σ.2.2.1) 3 [.int a2] (kX3_hasHalf l D X.2.2.1 h) (cwV 1 X.1.2.2.2.2 gX9_mark_X3_hasHalf rfl rfl rfl (by decide +kernel) ⟨Nat.le_of_ble_eq_true rfl, Nat.le_of_ble_eq_true rfl⟩) (isO_lt 0 ho3 (Nat.le_of_ble_eq_true rfl)) (e_isO (ad := ad) (cy := cy) ho3 _ _) rfl rfl rfl (Nat.le_of_ble_eq_true rfl) dX9_mark_14 rfl (fun r4 u9 h9 => ?_)
      obtain ⟨h9, hu9⟩ := h9
      subst u9
      have h := h9
      refine vv_if_ne (q := 20) X 23 dX9_mark_17 (by decide) rfl (fun c5 => ?_) (fun c5 => ?_)
      · have h := h.1 c5
        refine vv_aload_n (q := 24) X 0 dX9_mark_23 rfl rfl rfl ?_
        refine vv_iload_n (q := 25) X 1 dX9_mark_24 rfl rfl rfl ?_
        refine vv_iload_n (q := 26) X 2 dX9_mark_25 rfl rfl rfl ?_
        refine vv_iconst (q := 27) X (0 : Int32) dX9_mark_26 (by decide) rfl ?_
        obtain ⟨dd, hdd, h⟩ := h
        refine vv_cSi (q := 30) X [.ref (ad 0), .int a1, .int a2, .int (0 : Int32)] (kX9_markAs l D X.2.2.1 dd σ a1 a2 (0 : Int32) _ h) (va_cwS 4 X.1.2.2.2.2 gX9_mark_X9_markAs rfl rfl rfl (by decide +kernel) ⟨by show _ ≤ _; simp only [rmX9_markAs, rmX9_mark]; omega, by show _ ≤ _; simp only [rmX9_markAs, rmX9_mark]; omega⟩) rfl rfl (Nat.le_of_ble_eq_true rfl) dX9_mark_27 rfl (fun r6 σ7 h => ?_)
        exact vv_iret X hr dX9_mark_30 h
      · have h := h.2 c5
        refine vv_ldc (q := 22) X (-1000000 : Int32) dX9_mark_20 (List.mem_of_getElem? (i := 2) rfl) rfl ?_
        exact vv_iret X hr dX9_mark_22 h

/-! X9_isImage: isImage(I)Z -/
def rmX9_isImage : Room := { frames := 0, cells := 0, slots := 0, locals := 0 }
def wX9_isImage (σ : St) (a0 : Int32) (P : Int32 → Prop) : Prop :=
(a0 < 0 →
P (0 : Int32)) ∧
(¬ a0 < 0 →
((2 : Int32) ≤ a0 →
P (0 : Int32)) ∧
(¬ (2 : Int32) ≤ a0 →
P (1 : Int32)))

set_option maxHeartbeats 8000000 in
set_option maxRecDepth 100000 in
theorem kX9_isImage (l : Launch) (D : va_G) {cy : Nat → ClassId} {ad : Nat → Nat} {zb : Nat → Nat} (hw : xOk (wC ad cy zb)) {σ : St} {a0 : Int32} {P : Int32 → Prop} (h : wX9_isImage σ a0 P) : MI l yX9_isImage wsX9_isImage rmX9_isImage D cy (wC ad cy zb) [.int a0] σ (fun r u => P r ∧ u = σ) := by
  unfold MI
  refine vv_met (cc := cX9_isImage) (maxL := 1) (ret := (some .boolean)) hw (by decide +kernel) rfl [.int a0] (Nat.le_of_ble_eq_true rfl) ?_
  intro p e s m args below meth c X hr
  have X : XX p s m args meth c cX9_isImage 1 D cy (wC ad cy zb) wsX9_isImage RX9 := X
  refine vv_sub (lv' := [(0, .int a0)]) [0] rfl ?_
  rw [wX9_isImage] at h
  refine vv_iload_n (q := 1) X 0 dX9_isImage_0 rfl rfl rfl ?_
  refine vv_if_lt (q := 4) X 13 dX9_isImage_1 (by decide) rfl (fun c1 => ?_) (fun c1 => ?_)
  · have h := h.1 c1
    refine vv_iconst (q := 14) X (0 : Int32) dX9_isImage_13 (by decide) rfl ?_
    exact vv_zret X hr rfl dX9_isImage_14 ⟨h, rfl⟩
  · have h := h.2 c1
    refine vv_iload_n (q := 5) X 0 dX9_isImage_4 rfl rfl rfl ?_
    refine vv_iconst (q := 6) X (2 : Int32) dX9_isImage_5 (by decide) rfl ?_
    refine vv_icmp_ge (q := 9) X 13 dX9_isImage_6 (by decide) rfl (fun c2 => ?_) (fun c2 => ?_)
    · have h := h.1 c2
      refine vv_iconst (q := 14) X (0 : Int32) dX9_isImage_13 (by decide) rfl ?_
      exact vv_zret X hr rfl dX9_isImage_14 ⟨h, rfl⟩
    · have h := h.2 c2
      refine vv_iconst (q := 10) X (1 : Int32) dX9_isImage_9 (by decide) rfl ?_
      refine vv_goto X 14 dX9_isImage_10 (by decide) ?_
      exact vv_zret X hr rfl dX9_isImage_14 ⟨h, rfl⟩

/-! X9_keep: keep(I)I -/
def rmX9_keep : Room := { frames := 1, cells := 0, slots := 0, locals := 22 }
def wX9_keep (σ : St) (a1 : Int32) (P : Int32 → St → Prop) : Prop :=
wX9_isImage σ a1 (fun r1 : Int32 =>
(¬ r1 = 0 →
vp_in a1 2 ∧
wX2_become σ (71 + 2 * a1.toNatClampNeg) 65 (fun σ4 : St =>
vp_in a1 2 ∧
∀ σ6 : St, σ6 = sI σ4 70 a1.toNatClampNeg (vp_nar .boolean (1 : Int32)) →
P (σ6.1 65 0) σ6)) ∧
(r1 = 0 →
P (-1 : Int32) σ))

set_option maxHeartbeats 8000000 in
set_option maxRecDepth 100000 in
theorem kX9_keep (l : Launch) (D : va_G) {cy : Nat → ClassId} {ad : Nat → Nat} {zb : Nat → Nat} (hw : xOk (wC ad cy zb)) {σ : St} {a1 : Int32} {P : Int32 → St → Prop} (h : wX9_keep σ a1 P) : MI l yX9_keep wsX9_keep rmX9_keep D cy (wC ad cy zb) [.ref (ad 0), .int a1] σ P := by
  unfold MI
  refine vv_met (cc := cX9_keep) (maxL := 2) (ret := (some .int)) hw (by decide +kernel) rfl [.ref (ad 0), .int a1] (Nat.le_of_ble_eq_true rfl) ?_
  intro p e s m args below meth c X hr
  have X : XX p s m args meth c cX9_keep 2 D cy (wC ad cy zb) wsX9_keep RX9 := X
  refine vv_sub (lv' := [(0, .ref (ad 0)), (1, .int a1)]) [0, 1] rfl ?_
  rw [wX9_keep] at h
  refine vv_iload_n (q := 1) X 1 dX9_keep_0 rfl rfl rfl ?_
  refine vv_cSi (q := 4) X [.int a1] (kX9_isImage l D X.2.2.1 h) (va_cwS 1 X.1.2.2.2.2 gX9_keep_X9_isImage rfl rfl rfl (by decide +kernel) ⟨Nat.le_of_ble_eq_true rfl, Nat.le_of_ble_eq_true rfl⟩) rfl rfl (Nat.le_of_ble_eq_true rfl) dX9_keep_1 rfl (fun r1 u9 h9 => ?_)
  obtain ⟨h9, hu9⟩ := h9
  subst u9
  have h := h9
  refine vv_if_ne (q := 7) X 9 dX9_keep_4 (by decide) rfl (fun c2 => ?_) (fun c2 => ?_)
  · have h := h.1 c2
    refine vv_aload_n (q := 10) X 0 dX9_keep_9 rfl rfl rfl ?_
    refine vv_getf (q := 13) (ref := "HalfLadders") (C := RX9) (T := TX9) (N := 14) X 0 9 11 (Nat.le_of_ble_eq_true rfl) rfl rfl (Nat.le_of_ble_eq_true rfl) (fun _ h => List.mem_cons_of_mem _ (List.mem_append_left _ (List.mem_append_right _ h))) (List.mem_of_getElem? (i := 1) rfl) rfl rfl dX9_keep_10 rfl ?_
    refine vv_iload_n (q := 14) X 1 dX9_keep_13 rfl rfl rfl ?_
    obtain ⟨hin3, h⟩ := h
    refine vv_aldN (q := 15) X 69 2 (Nat.le_of_ble_eq_true rfl) rfl hin3 dX9_keep_14 rfl ?_
    refine vv_aload_n (q := 16) X 0 dX9_keep_15 rfl rfl rfl ?_
    refine vv_getf (q := 19) (ref := "HalfLadders") (C := RX9) (T := TX9) (N := 14) X 0 9 9 (Nat.le_of_ble_eq_true rfl) rfl rfl (Nat.le_of_ble_eq_true rfl) (fun _ h => List.mem_cons_of_mem _ (List.mem_append_left _ (List.mem_append_right _ h))) (List.mem_of_getElem? (i := 2) rfl) rfl rfl dX9_keep_16 rfl ?_
    refine vv_cVv (q := 22) (C := RX2) X (71 + 2 * a1.toNatClampNeg) 2 [.ref (ad 65)] (kX2_become l D X.2.2.1 h) (cwV 1 X.1.2.2.2.2 gX9_keep_X2_become rfl rfl rfl (by decide +kernel) ⟨Nat.le_of_ble_eq_true rfl, Nat.le_of_ble_eq_true rfl⟩) (isN_lt 0 (isN_im hin3) (Nat.le_of_ble_eq_true rfl)) (e_isN (ad := ad) (cy := cy) (isN_im hin3) _ _) rfl rfl rfl (Nat.le_of_ble_eq_true rfl) dX9_keep_19 rfl (fun σ4 h => ?_)
    refine vv_aload_n (q := 23) X 0 dX9_keep_22 rfl rfl rfl ?_
    refine vv_getf (q := 26) (ref := "HalfLadders") (C := RX9) (T := TX9) (N := 14) X 0 9 12 (Nat.le_of_ble_eq_true rfl) rfl rfl (Nat.le_of_ble_eq_true rfl) (fun _ h => List.mem_cons_of_mem _ (List.mem_append_left _ (List.mem_append_right _ h))) (List.mem_of_getElem? (i := 3) rfl) rfl rfl dX9_keep_23 rfl ?_
    refine vv_iload_n (q := 27) X 1 dX9_keep_26 rfl rfl rfl ?_
    refine vv_iconst (q := 28) X (1 : Int32) dX9_keep_27 (by decide) rfl ?_
    obtain ⟨hin5, h⟩ := h
    refine vv_zast (q := 29) X 70 2 (Nat.le_of_ble_eq_true rfl) (fun _ => rfl) hin5 dX9_keep_28 rfl ?_
    refine vv_nm (fun σ6 hσ6 => ?_)
    have h := h σ6 hσ6
    refine vv_aload_n (q := 30) X 0 dX9_keep_29 rfl rfl rfl ?_
    refine vv_getf (q := 33) (ref := "HalfLadders") (C := RX9) (T := TX9) (N := 14) X 0 9 9 (Nat.le_of_ble_eq_true rfl) rfl rfl (Nat.le_of_ble_eq_true rfl) (fun _ h => List.mem_cons_of_mem _ (List.mem_append_left _ (List.mem_append_right _ h))) (List.mem_of_getElem? (i := 2) rfl) rfl rfl dX9_keep_30 rfl ?_
    refine vv_getf (q := 36) (ref := "HalfLadders$Now") (C := RX2) (T := TX2) (N := 7) X 65 2 0 (Nat.le_of_ble_eq_true rfl) rfl rfl (Nat.le_of_ble_eq_true rfl) (fun _ h => List.mem_cons_of_mem _ (List.mem_append_right _ h)) (List.mem_of_getElem? (i := 4) rfl) rfl rfl dX9_keep_33 rfl ?_
    exact vv_iret X hr dX9_keep_36 h
  · have h := h.2 c2
    refine vv_iconst (q := 8) X (-1 : Int32) dX9_keep_7 (by decide) rfl ?_
    exact vv_iret X hr dX9_keep_8 h

/-! X9_back: back(I)I -/
def rmX9_back : Room := { frames := 1, cells := 0, slots := 0, locals := 22 }
def wX9_back (σ : St) (a1 : Int32) (P : Int32 → St → Prop) : Prop :=
wX9_isImage σ a1 (fun r1 : Int32 =>
(¬ r1 = 0 →
vp_in a1 2 ∧
(¬ (σ.1 70 a1.toNatClampNeg) = 0 →
vp_in a1 2 ∧
wX2_become σ 65 (71 + 2 * a1.toNatClampNeg) (fun σ6 : St =>
P (σ6.1 65 0) σ6)) ∧
((σ.1 70 a1.toNatClampNeg) = 0 →
P (-2 : Int32) σ)) ∧
(r1 = 0 →
P (-1 : Int32) σ))

set_option maxHeartbeats 8000000 in
set_option maxRecDepth 100000 in
theorem kX9_back (l : Launch) (D : va_G) {cy : Nat → ClassId} {ad : Nat → Nat} {zb : Nat → Nat} (hw : xOk (wC ad cy zb)) {σ : St} {a1 : Int32} {P : Int32 → St → Prop} (h : wX9_back σ a1 P) : MI l yX9_back wsX9_back rmX9_back D cy (wC ad cy zb) [.ref (ad 0), .int a1] σ P := by
  unfold MI
  refine vv_met (cc := cX9_back) (maxL := 2) (ret := (some .int)) hw (by decide +kernel) rfl [.ref (ad 0), .int a1] (Nat.le_of_ble_eq_true rfl) ?_
  intro p e s m args below meth c X hr
  have X : XX p s m args meth c cX9_back 2 D cy (wC ad cy zb) wsX9_back RX9 := X
  refine vv_sub (lv' := [(0, .ref (ad 0)), (1, .int a1)]) [0, 1] rfl ?_
  rw [wX9_back] at h
  refine vv_iload_n (q := 1) X 1 dX9_back_0 rfl rfl rfl ?_
  refine vv_cSi (q := 4) X [.int a1] (kX9_isImage l D X.2.2.1 h) (va_cwS 1 X.1.2.2.2.2 gX9_back_X9_isImage rfl rfl rfl (by decide +kernel) ⟨Nat.le_of_ble_eq_true rfl, Nat.le_of_ble_eq_true rfl⟩) rfl rfl (Nat.le_of_ble_eq_true rfl) dX9_back_1 rfl (fun r1 u9 h9 => ?_)
  obtain ⟨h9, hu9⟩ := h9
  subst u9
  have h := h9
  refine vv_if_ne (q := 7) X 9 dX9_back_4 (by decide) rfl (fun c2 => ?_) (fun c2 => ?_)
  · have h := h.1 c2
    refine vv_aload_n (q := 10) X 0 dX9_back_9 rfl rfl rfl ?_
    refine vv_getf (q := 13) (ref := "HalfLadders") (C := RX9) (T := TX9) (N := 14) X 0 9 12 (Nat.le_of_ble_eq_true rfl) rfl rfl (Nat.le_of_ble_eq_true rfl) (fun _ h => List.mem_cons_of_mem _ (List.mem_append_left _ (List.mem_append_right _ h))) (List.mem_of_getElem? (i := 1) rfl) rfl rfl dX9_back_10 rfl ?_
    refine vv_iload_n (q := 14) X 1 dX9_back_13 rfl rfl rfl ?_
    obtain ⟨hin3, h⟩ := h
    refine vv_zald (q := 15) X 70 2 (Nat.le_of_ble_eq_true rfl) (fun _ => rfl) hin3 dX9_back_14 rfl ?_
    refine vv_if_ne (q := 18) X 21 dX9_back_15 (by decide) rfl (fun c4 => ?_) (fun c4 => ?_)
    · have h := h.1 c4
      refine vv_aload_n (q := 22) X 0 dX9_back_21 rfl rfl rfl ?_
      refine vv_getf (q := 25) (ref := "HalfLadders") (C := RX9) (T := TX9) (N := 14) X 0 9 9 (Nat.le_of_ble_eq_true rfl) rfl rfl (Nat.le_of_ble_eq_true rfl) (fun _ h => List.mem_cons_of_mem _ (List.mem_append_left _ (List.mem_append_right _ h))) (List.mem_of_getElem? (i := 2) rfl) rfl rfl dX9_back_22 rfl ?_
      refine vv_aload_n (q := 26) X 0 dX9_back_25 rfl rfl rfl ?_
      refine vv_getf (q := 29) (ref := "HalfLadders") (C := RX9) (T := TX9) (N := 14) X 0 9 11 (Nat.le_of_ble_eq_true rfl) rfl rfl (Nat.le_of_ble_eq_true rfl) (fun _ h => List.mem_cons_of_mem _ (List.mem_append_left _ (List.mem_append_right _ h))) (List.mem_of_getElem? (i := 3) rfl) rfl rfl dX9_back_26 rfl ?_
      refine vv_iload_n (q := 30) X 1 dX9_back_29 rfl rfl rfl ?_
      obtain ⟨hin5, h⟩ := h
      refine vv_aldN (q := 31) X 69 2 (Nat.le_of_ble_eq_true rfl) rfl hin5 dX9_back_30 rfl ?_
      refine vv_cVv (q := 34) (C := RX2) X 65 2 [.ref (ad (71 + 2 * a1.toNatClampNeg))] (kX2_become l D X.2.2.1 h) (cwV 1 X.1.2.2.2.2 gX9_back_X2_become rfl rfl rfl (by decide +kernel) ⟨Nat.le_of_ble_eq_true rfl, Nat.le_of_ble_eq_true rfl⟩) (Nat.le_of_ble_eq_true rfl) rfl rfl rfl rfl (Nat.le_of_ble_eq_true rfl) dX9_back_31 rfl (fun σ6 h => ?_)
      refine vv_aload_n (q := 35) X 0 dX9_back_34 rfl rfl rfl ?_
      refine vv_getf (q := 38) (ref := "HalfLadders") (C := RX9) (T := TX9) (N := 14) X 0 9 9 (Nat.le_of_ble_eq_true rfl) rfl rfl (Nat.le_of_ble_eq_true rfl) (fun _ h => List.mem_cons_of_mem _ (List.mem_append_left _ (List.mem_append_right _ h))) (List.mem_of_getElem? (i := 2) rfl) rfl rfl dX9_back_35 rfl ?_
      refine vv_getf (q := 41) (ref := "HalfLadders$Now") (C := RX2) (T := TX2) (N := 7) X 65 2 0 (Nat.le_of_ble_eq_true rfl) rfl rfl (Nat.le_of_ble_eq_true rfl) (fun _ h => List.mem_cons_of_mem _ (List.mem_append_right _ h)) (List.mem_of_getElem? (i := 4) rfl) rfl rfl dX9_back_38 rfl ?_
      exact vv_iret X hr dX9_back_41 h
    · have h := h.2 c4
      refine vv_bipush (q := 20) X (-2 : Int32) dX9_back_18 (by decide) rfl ?_
      exact vv_iret X hr dX9_back_20 h
  · have h := h.2 c2
    refine vv_iconst (q := 8) X (-1 : Int32) dX9_back_7 (by decide) rfl ?_
    exact vv_iret X hr dX9_back_8 h

/-! X9_count: count(I)I -/
def rmX9_count : Room := { frames := 2, cells := 0, slots := 0, locals := 42 }
def wX9_count (σ : St) (a1 : Int32) (P : Int32 → Prop) : Prop :=
(a1 = (0 : Int32) →
isO σ.2.2.1 ∧
P (σ.1 (σ.2.2.1) 0)) ∧
(¬ a1 = (0 : Int32) →
(a1 = (1 : Int32) →
isO σ.2.2.1 ∧
P (σ.1 (σ.2.2.1) 1)) ∧
(¬ a1 = (1 : Int32) →
(a1 = (2 : Int32) →
isO σ.2.2.1 ∧
wX3_quarrelPairs σ (σ.2.2.1) (fun r7 : Int32 =>
P r7)) ∧
(¬ a1 = (2 : Int32) →
(a1 = (3 : Int32) →
P (σ.1 1 1)) ∧
(¬ a1 = (3 : Int32) →
P (-1 : Int32)))))

set_option maxHeartbeats 8000000 in
set_option maxRecDepth 100000 in
theorem kX9_count (l : Launch) (D : va_G) {cy : Nat → ClassId} {ad : Nat → Nat} {zb : Nat → Nat} (hw : xOk (wC ad cy zb)) {σ : St} {a1 : Int32} {P : Int32 → Prop} (h : wX9_count σ a1 P) : MI l yX9_count wsX9_count rmX9_count D cy (wC ad cy zb) [.ref (ad 0), .int a1] σ (fun r u => P r ∧ u = σ) := by
  unfold MI
  refine vv_met (cc := cX9_count) (maxL := 2) (ret := (some .int)) hw (by decide +kernel) rfl [.ref (ad 0), .int a1] (Nat.le_of_ble_eq_true rfl) ?_
  intro p e s m args below meth c X hr
  have X : XX p s m args meth c cX9_count 2 D cy (wC ad cy zb) wsX9_count RX9 := X
  refine vv_sub (lv' := [(0, .ref (ad 0)), (1, .int a1)]) [0, 1] rfl ?_
  rw [wX9_count] at h
  refine vv_iload_n (q := 1) X 1 dX9_count_0 rfl rfl rfl ?_
  by_cases c1 : a1 = (0 : Int32)
  · have h := h.1 c1
    refine vv_tabIn (off := 31) X 32 dX9_count_1 (by rw [c1]; decide) (by rw [c1]; decide) (by rw [c1]; rfl) (by decide) ?_
    refine vv_aload_n (q := 33) X 0 dX9_count_32 rfl rfl rfl ?_
    obtain ⟨ho2, h⟩ := h
    refine vv_getf (q := 36) (ref := "HalfLadders") (C := RX9) (T := TX9) (N := 14) X 0 9 2 (Nat.le_of_ble_eq_true rfl) rfl rfl (Nat.le_of_ble_eq_true rfl) (fun _ h => List.mem_cons_of_mem _ (List.mem_append_left _ (List.mem_append_left _ (List.mem_append_right _ h)))) (List.mem_of_getElem? (i := 1) rfl) rfl rfl dX9_count_33 rfl ?_
    refine vv_getf (q := 39) (ref := "HalfLadders$Orchard") (C := RX3) (T := TX3) (N := 10) X (σ.2.2.1) 3 0 (isO_lt 0 ho2 (Nat.le_of_ble_eq_true rfl)) (e_isO (ad := ad) (cy := cy) ho2 _ _) rfl (Nat.le_of_ble_eq_true rfl) (fun _ h => List.mem_cons_of_mem _ (List.mem_append_left _ (List.mem_append_right _ h))) (List.mem_of_getElem? (i := 2) rfl) rfl rfl dX9_count_36 rfl ?_
    exact vv_iret X hr dX9_count_39 ⟨h, rfl⟩
  · have h := h.2 c1
    by_cases c3 : a1 = (1 : Int32)
    · have h := h.1 c3
      refine vv_tabIn (off := 39) X 40 dX9_count_1 (by rw [c3]; decide) (by rw [c3]; decide) (by rw [c3]; rfl) (by decide) ?_
      refine vv_aload_n (q := 41) X 0 dX9_count_40 rfl rfl rfl ?_
      obtain ⟨ho4, h⟩ := h
      refine vv_getf (q := 44) (ref := "HalfLadders") (C := RX9) (T := TX9) (N := 14) X 0 9 2 (Nat.le_of_ble_eq_true rfl) rfl rfl (Nat.le_of_ble_eq_true rfl) (fun _ h => List.mem_cons_of_mem _ (List.mem_append_left _ (List.mem_append_left _ (List.mem_append_right _ h)))) (List.mem_of_getElem? (i := 1) rfl) rfl rfl dX9_count_41 rfl ?_
      refine vv_getf (q := 47) (ref := "HalfLadders$Orchard") (C := RX3) (T := TX3) (N := 10) X (σ.2.2.1) 3 1 (isO_lt 0 ho4 (Nat.le_of_ble_eq_true rfl)) (e_isO (ad := ad) (cy := cy) ho4 _ _) rfl (Nat.le_of_ble_eq_true rfl) (fun _ h => List.mem_cons_of_mem _ (List.mem_append_left _ (List.mem_append_right _ h))) (List.mem_of_getElem? (i := 3) rfl) rfl rfl dX9_count_44 rfl ?_
      exact vv_iret X hr dX9_count_47 ⟨h, rfl⟩
    · have h := h.2 c3
      by_cases c5 : a1 = (2 : Int32)
      · have h := h.1 c5
        refine vv_tabIn (off := 47) X 48 dX9_count_1 (by rw [c5]; decide) (by rw [c5]; decide) (by rw [c5]; rfl) (by decide) ?_
        refine vv_aload_n (q := 49) X 0 dX9_count_48 rfl rfl rfl ?_
        obtain ⟨ho6, h⟩ := h
        refine vv_getf (q := 52) (ref := "HalfLadders") (C := RX9) (T := TX9) (N := 14) X 0 9 2 (Nat.le_of_ble_eq_true rfl) rfl rfl (Nat.le_of_ble_eq_true rfl) (fun _ h => List.mem_cons_of_mem _ (List.mem_append_left _ (List.mem_append_left _ (List.mem_append_right _ h)))) (List.mem_of_getElem? (i := 1) rfl) rfl rfl dX9_count_49 rfl ?_
        refine vv_cVi (q := 55) (C := RX3) X (σ.2.2.1) 3 [] (kX3_quarrelPairs l D X.2.2.1 h) (cwV 0 X.1.2.2.2.2 gX9_count_X3_quarrelPairs rfl rfl rfl (by decide +kernel) ⟨Nat.le_of_ble_eq_true rfl, Nat.le_of_ble_eq_true rfl⟩) (isO_lt 0 ho6 (Nat.le_of_ble_eq_true rfl)) (e_isO (ad := ad) (cy := cy) ho6 _ _) rfl rfl rfl (Nat.le_of_ble_eq_true rfl) dX9_count_52 rfl (fun r7 u9 h9 => ?_)
        obtain ⟨h9, hu9⟩ := h9
        subst u9
        have h := h9
        exact vv_iret X hr dX9_count_55 ⟨h, rfl⟩
      · have h := h.2 c5
        by_cases c8 : a1 = (3 : Int32)
        · have h := h.1 c8
          refine vv_tabIn (off := 55) X 56 dX9_count_1 (by rw [c8]; decide) (by rw [c8]; decide) (by rw [c8]; rfl) (by decide) ?_
          refine vv_aload_n (q := 57) X 0 dX9_count_56 rfl rfl rfl ?_
          refine vv_getf (q := 60) (ref := "HalfLadders") (C := RX9) (T := TX9) (N := 14) X 0 9 0 (Nat.le_of_ble_eq_true rfl) rfl rfl (Nat.le_of_ble_eq_true rfl) (fun _ h => List.mem_cons_of_mem _ (List.mem_append_left _ (List.mem_append_left _ (List.mem_append_right _ h)))) (List.mem_of_getElem? (i := 4) rfl) rfl rfl dX9_count_57 rfl ?_
          refine vv_getf (q := 63) (ref := "HalfLadders$Text") (C := RX8) (T := TX8) (N := 5) X 1 8 1 (Nat.le_of_ble_eq_true rfl) rfl rfl (Nat.le_of_ble_eq_true rfl) (fun _ h => List.mem_cons_of_mem _ (List.mem_append_right _ h)) (List.mem_of_getElem? (i := 5) rfl) rfl rfl dX9_count_60 rfl ?_
          exact vv_iret X hr dX9_count_63 ⟨h, rfl⟩
        · have h := h.2 c8
          refine vv_tabOut X 64 dX9_count_1 (by have n0 : ¬ a1.toInt = 0 := i32_ne c1; have n1 : ¬ a1.toInt = 1 := i32_ne c3; have n2 : ¬ a1.toInt = 2 := i32_ne c5; have n3 : ¬ a1.toInt = 3 := i32_ne c8; omega) (by decide) ?_
          refine vv_iconst (q := 65) X (-1 : Int32) dX9_count_64 (by decide) rfl ?_
          exact vv_iret X hr dX9_count_65 ⟨h, rfl⟩

/-! X9_trace: trace()J -/
def rmX9_trace : Room := { frames := 0, cells := 0, slots := 0, locals := 0 }
def wX9_trace (σ : St)  (P : Int64 → Prop) : Prop :=
P (σ.2.1)

set_option maxHeartbeats 8000000 in
set_option maxRecDepth 100000 in
theorem kX9_trace (l : Launch) (D : va_G) {cy : Nat → ClassId} {ad : Nat → Nat} {zb : Nat → Nat} (hw : xOk (wC ad cy zb)) {σ : St}  {P : Int64 → Prop} (h : wX9_trace σ  P) : ML l yX9_trace wsX9_trace rmX9_trace D cy (wC ad cy zb) [.ref (ad 0)] σ (fun r u => P r ∧ u = σ) := by
  unfold ML
  refine vv_met (cc := cX9_trace) (maxL := 1) (ret := (some .long)) hw (by decide +kernel) rfl [.ref (ad 0)] (Nat.le_of_ble_eq_true rfl) ?_
  intro p e s m args below meth c X hr
  have X : XX p s m args meth c cX9_trace 1 D cy (wC ad cy zb) wsX9_trace RX9 := X
  refine vv_sub (lv' := [(0, .ref (ad 0))]) [0] rfl ?_
  rw [wX9_trace] at h
  refine vv_aload_n (q := 1) X 0 dX9_trace_0 rfl rfl rfl ?_
  refine vv_getf (q := 4) (ref := "HalfLadders") (C := RX9) (T := TX9) (N := 14) X 0 9 13 (Nat.le_of_ble_eq_true rfl) rfl rfl (Nat.le_of_ble_eq_true rfl) (fun _ h => List.mem_cons_of_mem _ (List.mem_append_right _ h)) (List.mem_of_getElem? (i := 1) rfl) rfl rfl dX9_trace_1 rfl ?_
  exact vv_lret X hr dX9_trace_4 ⟨h, rfl⟩

