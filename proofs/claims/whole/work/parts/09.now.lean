/-! X2_begin: begin()V -/
def rmX2_begin : Room := { frames := 0, cells := 0, slots := 0, locals := 0 }
def wX2_begin (σ : St) (a0 : Nat) (P : St → Prop) : Prop :=
isN a0 ∧
∀ σ1 : St, σ1 = sI σ a0 0 (0 : Int32) →
∀ σ2 : St, σ2 = sI σ1 a0 1 (0 : Int32) →
∀ σ3 : St, σ3 = sI σ2 a0 2 (0 : Int32) →
∀ σ4 : St, σ4 = sI σ3 a0 3 (0 : Int32) →
∀ σ5 : St, σ5 = sI σ4 a0 4 (0 : Int32) →
P σ5

set_option maxHeartbeats 8000000 in
set_option maxRecDepth 100000 in
theorem kX2_begin (l : Launch) (D : va_G) {cy : Nat → ClassId} {ad : Nat → Nat} {zb : Nat → Nat} (hw : xOk (wC ad cy zb)) {σ : St} {a0 : Nat} {P : St → Prop} (h : wX2_begin σ a0 P) : MV l yX2_begin wsX2_begin rmX2_begin D cy (wC ad cy zb) [.ref (ad a0)] σ P := by
  unfold MV
  refine vv_met (cc := cX2_begin) (maxL := 1) (ret := none) hw (by decide +kernel) rfl [.ref (ad a0)] (Nat.le_of_ble_eq_true rfl) ?_
  intro p e s m args below meth c X hr
  have X : XX p s m args meth c cX2_begin 1 D cy (wC ad cy zb) wsX2_begin RX2 := X
  refine vv_sub (lv' := [(0, .ref (ad a0))]) [0] rfl ?_
  rw [wX2_begin] at h
  obtain ⟨ha0, h⟩ := h
  refine vv_aload_n (q := 1) X 0 dX2_begin_0 rfl rfl rfl ?_
  refine vv_iconst (q := 2) X (0 : Int32) dX2_begin_1 (by decide) rfl ?_
  refine vv_putf (q := 5) (ref := "HalfLadders$Now") (C := RX2) (T := TX2) (N := 7) X a0 2 0 tyX2 tyX2_ok nmX2 (isN_lt 0 ha0 (Nat.le_of_ble_eq_true rfl)) (e_isN (ad := ad) (cy := cy) ha0 _ _) (e_isN (ad := ad) (cy := cy) ha0 _ _) rfl (Nat.le_of_ble_eq_true rfl) rfl (fun _ h => List.mem_cons_of_mem _ (List.mem_append_right _ h)) (List.mem_of_getElem? (i := 1) rfl) rfl rfl rfl dX2_begin_2 rfl ?_
  refine vv_nm (fun σ1 hσ1 => ?_)
  have h := h σ1 hσ1
  refine vv_aload_n (q := 6) X 0 dX2_begin_5 rfl rfl rfl ?_
  refine vv_iconst (q := 7) X (0 : Int32) dX2_begin_6 (by decide) rfl ?_
  refine vv_putf (q := 10) (ref := "HalfLadders$Now") (C := RX2) (T := TX2) (N := 7) X a0 2 1 tyX2 tyX2_ok nmX2 (isN_lt 0 ha0 (Nat.le_of_ble_eq_true rfl)) (e_isN (ad := ad) (cy := cy) ha0 _ _) (e_isN (ad := ad) (cy := cy) ha0 _ _) rfl (Nat.le_of_ble_eq_true rfl) rfl (fun _ h => List.mem_cons_of_mem _ (List.mem_append_right _ h)) (List.mem_of_getElem? (i := 2) rfl) rfl rfl rfl dX2_begin_7 rfl ?_
  refine vv_nm (fun σ2 hσ2 => ?_)
  have h := h σ2 hσ2
  refine vv_aload_n (q := 11) X 0 dX2_begin_10 rfl rfl rfl ?_
  refine vv_iconst (q := 12) X (0 : Int32) dX2_begin_11 (by decide) rfl ?_
  refine vv_putf (q := 15) (ref := "HalfLadders$Now") (C := RX2) (T := TX2) (N := 7) X a0 2 2 tyX2 tyX2_ok nmX2 (isN_lt 0 ha0 (Nat.le_of_ble_eq_true rfl)) (e_isN (ad := ad) (cy := cy) ha0 _ _) (e_isN (ad := ad) (cy := cy) ha0 _ _) rfl (Nat.le_of_ble_eq_true rfl) rfl (fun _ h => List.mem_cons_of_mem _ (List.mem_append_right _ h)) (List.mem_of_getElem? (i := 3) rfl) rfl rfl rfl dX2_begin_12 rfl ?_
  refine vv_nm (fun σ3 hσ3 => ?_)
  have h := h σ3 hσ3
  refine vv_aload_n (q := 16) X 0 dX2_begin_15 rfl rfl rfl ?_
  refine vv_iconst (q := 17) X (0 : Int32) dX2_begin_16 (by decide) rfl ?_
  refine vv_putf (q := 20) (ref := "HalfLadders$Now") (C := RX2) (T := TX2) (N := 7) X a0 2 3 tyX2 tyX2_ok nmX2 (isN_lt 0 ha0 (Nat.le_of_ble_eq_true rfl)) (e_isN (ad := ad) (cy := cy) ha0 _ _) (e_isN (ad := ad) (cy := cy) ha0 _ _) rfl (Nat.le_of_ble_eq_true rfl) rfl (fun _ h => List.mem_cons_of_mem _ (List.mem_append_right _ h)) (List.mem_of_getElem? (i := 4) rfl) rfl rfl rfl dX2_begin_17 rfl ?_
  refine vv_nm (fun σ4 hσ4 => ?_)
  have h := h σ4 hσ4
  refine vv_aload_n (q := 21) X 0 dX2_begin_20 rfl rfl rfl ?_
  refine vv_iconst (q := 22) X (0 : Int32) dX2_begin_21 (by decide) rfl ?_
  refine vv_putf (q := 25) (ref := "HalfLadders$Now") (C := RX2) (T := TX2) (N := 7) X a0 2 4 tyX2 tyX2_ok nmX2 (isN_lt 0 ha0 (Nat.le_of_ble_eq_true rfl)) (e_isN (ad := ad) (cy := cy) ha0 _ _) (e_isN (ad := ad) (cy := cy) ha0 _ _) rfl (Nat.le_of_ble_eq_true rfl) rfl (fun _ h => List.mem_cons_of_mem _ (List.mem_append_right _ h)) (List.mem_of_getElem? (i := 5) rfl) rfl rfl rfl dX2_begin_22 rfl ?_
  refine vv_nm (fun σ5 hσ5 => ?_)
  have h := h σ5 hσ5
  exact vv_vret X hr dX2_begin_25 h

/-! X2_bearAsTold: bearAsTold(LHalfLadders$Orchard;)V -/
def rmX2_bearAsTold : Room := { frames := 0, cells := 0, slots := 0, locals := 0 }
def wLX2_bearAsTold_2 (f0 : Nat) (f1 : Nat)  (K28 : St → Prop) (P : St → Prop) : Nat → St → Int32 → Prop
  | 0, _, _ => False
  | n + 1, σ, x2 =>
    ((σ.1 f1 1) ≤ x2 →
    K28 σ) ∧
    (¬ (σ.1 f1 1) ≤ x2 →
    vp_in x2 5 ∧
    vp_in x2 5 ∧
    ∀ σ4 : St, σ4 = sI σ (f0 + 1) x2.toNatClampNeg (σ.1 (f1 + 8) x2.toNatClampNeg) →
    ∀ z5 : Int32, z5 = x2 + (1 : Int32) →
    wLX2_bearAsTold_2 f0 f1 K28 P n σ4 z5)

set_option maxHeartbeats 4000000 in
set_option maxRecDepth 100000 in
theorem twLX2_bearAsTold_2 {p : Program} {l : Launch} {e : Env} {s : State} {m : MethodId} {args : Array Value} {below : List Frame} {meth : Method} {c : Code} {D : va_G} {cy : Nat → ClassId} {ad : Nat → Nat} {zb : Nat → Nat} (X : XX p s m args meth c cX2_bearAsTold 3 D cy (wC ad cy zb) wsX2_bearAsTold RX2) (hr : meth.sig.returnType = none) (f0 : Nat) (f1 : Nat) (hf0 : isN f0) (hf1 : isO f1)  (K28 : St → Prop) {P : St → Prop} (hK28 : ∀ (σ : St), K28 σ → VV p l e rmX2_bearAsTold s m args below meth c (MQ below (va_Qv P (xPost D (wC ad cy zb)) (xA (wC ad cy zb))) args s 0 0 (xA (wC ad cy zb))) 3 D (wC ad cy zb) σ 28 [] []) : ∀ (n : Nat) (σ : St) (x2 : Int32), wLX2_bearAsTold_2 f0 f1 K28 P n σ x2 → VV p l e rmX2_bearAsTold s m args below meth c (MQ below (va_Qv P (xPost D (wC ad cy zb)) (xA (wC ad cy zb))) args s 0 0 (xA (wC ad cy zb))) 3 D (wC ad cy zb) σ 2 [(0, .ref (ad f0)), (1, .ref (ad f1)), (2, .int x2)] [] := by
  intro n
  induction n with
  | zero => intro σ x2 h; exact h.elim
  | succ n ih =>
    intro σ x2 h
    rw [wLX2_bearAsTold_2] at h
    refine vv_iload_n (q := 3) X 2 dX2_bearAsTold_2 rfl rfl rfl ?_
    refine vv_aload_n (q := 4) X 1 dX2_bearAsTold_3 rfl rfl rfl ?_
    refine vv_getf (q := 7) (ref := "HalfLadders$Orchard") (C := RX3) (T := TX3) (N := 10) X f1 3 1 (isO_lt 0 hf1 (Nat.le_of_ble_eq_true rfl)) (e_isO (ad := ad) (cy := cy) hf1 _ _) rfl (Nat.le_of_ble_eq_true rfl) (fun _ h => List.mem_cons_of_mem _ (List.mem_append_left _ (List.mem_append_right _ h))) (List.mem_of_getElem? (i := 1) rfl) rfl rfl dX2_bearAsTold_4 rfl ?_
    refine vv_icmp_ge (q := 10) X 28 dX2_bearAsTold_7 (by decide) rfl (fun c1 => ?_) (fun c1 => ?_)
    · have h := h.1 c1
      refine vv_sub (lv' := []) [] rfl ?_
      exact hK28 σ h
    · have h := h.2 c1
      refine vv_aload_n (q := 11) X 0 dX2_bearAsTold_10 rfl rfl rfl ?_
      refine vv_getf (q := 14) (ref := "HalfLadders$Now") (C := RX2) (T := TX2) (N := 7) X f0 2 6 (isN_lt 0 hf0 (Nat.le_of_ble_eq_true rfl)) (e_isN (ad := ad) (cy := cy) hf0 _ _) rfl (Nat.le_of_ble_eq_true rfl) (fun _ h => List.mem_cons_of_mem _ (List.mem_append_right _ h)) (List.mem_of_getElem? (i := 2) rfl) rfl rfl dX2_bearAsTold_11 rfl ?_
      refine vv_iload_n (q := 15) X 2 dX2_bearAsTold_14 rfl rfl rfl ?_
      refine vv_aload_n (q := 16) X 1 dX2_bearAsTold_15 rfl rfl rfl ?_
      refine vv_getf (q := 19) (ref := "HalfLadders$Orchard") (C := RX3) (T := TX3) (N := 10) X f1 3 9 (isO_lt 0 hf1 (Nat.le_of_ble_eq_true rfl)) (e_isO (ad := ad) (cy := cy) hf1 _ _) rfl (Nat.le_of_ble_eq_true rfl) (fun _ h => List.mem_cons_of_mem _ (List.mem_append_left _ (List.mem_append_right _ h))) (List.mem_of_getElem? (i := 3) rfl) rfl rfl dX2_bearAsTold_16 rfl ?_
      refine vv_iload_n (q := 20) X 2 dX2_bearAsTold_19 rfl rfl rfl ?_
      obtain ⟨hin2, h⟩ := h
      refine vv_iald (q := 21) X (f1 + 8) 5 (isO_lt 8 hf1 (Nat.le_of_ble_eq_true rfl)) (fun f => e_isO_8 (ad := ad) (cy := cy) hf1 f σ.2) hin2 dX2_bearAsTold_20 rfl ?_
      obtain ⟨hin3, h⟩ := h
      refine vv_iast (q := 22) X (f0 + 1) 5 (isN_lt 1 hf0 (Nat.le_of_ble_eq_true rfl)) (fun f => e_isN_1 (ad := ad) (cy := cy) hf0 f σ.2) hin3 dX2_bearAsTold_21 rfl ?_
      refine vv_nm (fun σ4 hσ4 => ?_)
      have h := h σ4 hσ4
      obtain ⟨z5, hz5⟩ : ∃ y : Int32, y = x2 + (1 : Int32) := ⟨_, rfl⟩
      have h := h z5 hz5
      refine vv_iinc (v := z5) (lv2 := [(2, .int z5), (0, .ref (ad f0)), (1, .ref (ad f1))]) (q := 25) X 2 dX2_bearAsTold_22 rfl (by rw [hz5]; rfl) (Nat.le_of_ble_eq_true rfl) rfl rfl ?_
      refine vv_goto X 2 dX2_bearAsTold_25 (by decide) ?_
      refine vv_sub (lv' := [(0, .ref (ad f0)), (1, .ref (ad f1)), (2, .int z5)]) [1, 2, 0] rfl ?_
      exact ih σ4 z5 h

def wX2_bearAsTold (σ : St) (a0 : Nat) (a1 : Nat) (P : St → Prop) : Prop :=
isN a0 ∧
isO a1 ∧
∃ n7 : Nat, wLX2_bearAsTold_2 a0 a1 (fun (σ6 : St) =>
P σ6) P n7 σ (0 : Int32)

set_option maxHeartbeats 8000000 in
set_option maxRecDepth 100000 in
theorem kX2_bearAsTold (l : Launch) (D : va_G) {cy : Nat → ClassId} {ad : Nat → Nat} {zb : Nat → Nat} (hw : xOk (wC ad cy zb)) {σ : St} {a0 : Nat} {a1 : Nat} {P : St → Prop} (h : wX2_bearAsTold σ a0 a1 P) : MV l yX2_bearAsTold wsX2_bearAsTold rmX2_bearAsTold D cy (wC ad cy zb) [.ref (ad a0), .ref (ad a1)] σ P := by
  unfold MV
  refine vv_met (cc := cX2_bearAsTold) (maxL := 3) (ret := none) hw (by decide +kernel) rfl [.ref (ad a0), .ref (ad a1)] (Nat.le_of_ble_eq_true rfl) ?_
  intro p e s m args below meth c X hr
  have X : XX p s m args meth c cX2_bearAsTold 3 D cy (wC ad cy zb) wsX2_bearAsTold RX2 := X
  refine vv_sub (lv' := [(0, .ref (ad a0)), (1, .ref (ad a1))]) [0, 1] rfl ?_
  rw [wX2_bearAsTold] at h
  obtain ⟨ha0, h⟩ := h
  obtain ⟨ha1, h⟩ := h
  refine vv_iconst (q := 1) X (0 : Int32) dX2_bearAsTold_0 (by decide) rfl ?_
  refine vv_istore_n (lv2 := [(2, .int (0 : Int32)), (0, .ref (ad a0)), (1, .ref (ad a1))]) (q := 2) X dX2_bearAsTold_1 rfl (Nat.le_of_ble_eq_true rfl) rfl rfl ?_
  obtain ⟨n7, h⟩ := h
  refine vv_sub (lv' := [(0, .ref (ad a0)), (1, .ref (ad a1)), (2, .int (0 : Int32))]) [1, 2, 0] rfl ?_
  refine twLX2_bearAsTold_2 X hr a0 a1 ha0 ha1 _ ?_ n7 σ (0 : Int32) h
  intro σ6 h
  exact vv_vret X hr dX2_bearAsTold_28 h

/-! X2_blossom: blossom(LHalfLadders$Orchard;)V -/
def rmX2_blossom : Room := { frames := 0, cells := 0, slots := 0, locals := 0 }
def wLX2_blossom_2 (f0 : Nat) (f1 : Nat)  (K59 : St → Prop) (P : St → Prop) : Nat → St → Int32 → Prop
  | 0, _, _ => False
  | n + 1, σ, x2 =>
    ((σ.1 f1 1) ≤ x2 →
    K59 σ) ∧
    (¬ (σ.1 f1 1) ≤ x2 →
    ∀ σ2 : St, σ2 = sI σ f0 5 (((σ.1 f0 5) * (1103515245 : Int32)) + (12345 : Int32)) →
    ∀ z3 : Int32, z3 = ((((σ2.1 f0 5).toUInt32 >>> ((16 : Int32).toUInt32 &&& Int32.toUInt32 31)).toInt32) - (((σ2.1 f0 5).toUInt32 >>> ((16 : Int32).toUInt32 &&& Int32.toUInt32 31)).toInt32) / (21 : Int32) * (21 : Int32)) →
    vp_in x2 5 ∧
    vp_in x2 5 ∧
    ∀ σ6 : St, σ6 = sI σ2 (f0 + 1) x2.toNatClampNeg (((σ2.1 (f1 + 8) x2.toNatClampNeg) * z3) / (10 : Int32)) →
    ∀ z7 : Int32, z7 = x2 + (1 : Int32) →
    wLX2_blossom_2 f0 f1 K59 P n σ6 z7)

set_option maxHeartbeats 4000000 in
set_option maxRecDepth 100000 in
theorem twLX2_blossom_2 {p : Program} {l : Launch} {e : Env} {s : State} {m : MethodId} {args : Array Value} {below : List Frame} {meth : Method} {c : Code} {D : va_G} {cy : Nat → ClassId} {ad : Nat → Nat} {zb : Nat → Nat} (X : XX p s m args meth c cX2_blossom 4 D cy (wC ad cy zb) wsX2_blossom RX2) (hr : meth.sig.returnType = none) (f0 : Nat) (f1 : Nat) (hf0 : isN f0) (hf1 : isO f1)  (K59 : St → Prop) {P : St → Prop} (hK59 : ∀ (σ : St), K59 σ → VV p l e rmX2_blossom s m args below meth c (MQ below (va_Qv P (xPost D (wC ad cy zb)) (xA (wC ad cy zb))) args s 0 0 (xA (wC ad cy zb))) 4 D (wC ad cy zb) σ 59 [] []) : ∀ (n : Nat) (σ : St) (x2 : Int32), wLX2_blossom_2 f0 f1 K59 P n σ x2 → VV p l e rmX2_blossom s m args below meth c (MQ below (va_Qv P (xPost D (wC ad cy zb)) (xA (wC ad cy zb))) args s 0 0 (xA (wC ad cy zb))) 4 D (wC ad cy zb) σ 2 [(0, .ref (ad f0)), (1, .ref (ad f1)), (2, .int x2)] [] := by
  intro n
  induction n with
  | zero => intro σ x2 h; exact h.elim
  | succ n ih =>
    intro σ x2 h
    rw [wLX2_blossom_2] at h
    refine vv_iload_n (q := 3) X 2 dX2_blossom_2 rfl rfl rfl ?_
    refine vv_aload_n (q := 4) X 1 dX2_blossom_3 rfl rfl rfl ?_
    refine vv_getf (q := 7) (ref := "HalfLadders$Orchard") (C := RX3) (T := TX3) (N := 10) X f1 3 1 (isO_lt 0 hf1 (Nat.le_of_ble_eq_true rfl)) (e_isO (ad := ad) (cy := cy) hf1 _ _) rfl (Nat.le_of_ble_eq_true rfl) (fun _ h => List.mem_cons_of_mem _ (List.mem_append_left _ (List.mem_append_right _ h))) (List.mem_of_getElem? (i := 1) rfl) rfl rfl dX2_blossom_4 rfl ?_
    refine vv_icmp_ge (q := 10) X 59 dX2_blossom_7 (by decide) rfl (fun c1 => ?_) (fun c1 => ?_)
    · have h := h.1 c1
      refine vv_sub (lv' := []) [] rfl ?_
      exact hK59 σ h
    · have h := h.2 c1
      refine vv_aload_n (q := 11) X 0 dX2_blossom_10 rfl rfl rfl ?_
      refine vv_aload_n (q := 12) X 0 dX2_blossom_11 rfl rfl rfl ?_
      refine vv_getf (q := 15) (ref := "HalfLadders$Now") (C := RX2) (T := TX2) (N := 7) X f0 2 5 (isN_lt 0 hf0 (Nat.le_of_ble_eq_true rfl)) (e_isN (ad := ad) (cy := cy) hf0 _ _) rfl (Nat.le_of_ble_eq_true rfl) (fun _ h => List.mem_cons_of_mem _ (List.mem_append_right _ h)) (List.mem_of_getElem? (i := 2) rfl) rfl rfl dX2_blossom_12 rfl ?_
      refine vv_ldc (q := 17) X (1103515245 : Int32) dX2_blossom_15 (List.mem_of_getElem? (i := 3) rfl) rfl ?_
      refine vv_imul (q := 18) X dX2_blossom_17 rfl ?_
      refine vv_sipush (q := 21) X (12345 : Int32) dX2_blossom_18 (by decide) rfl ?_
      refine vv_iadd (q := 22) X dX2_blossom_21 rfl ?_
      refine vv_putf (q := 25) (ref := "HalfLadders$Now") (C := RX2) (T := TX2) (N := 7) X f0 2 5 tyX2 tyX2_ok nmX2 (isN_lt 0 hf0 (Nat.le_of_ble_eq_true rfl)) (e_isN (ad := ad) (cy := cy) hf0 _ _) (e_isN (ad := ad) (cy := cy) hf0 _ _) rfl (Nat.le_of_ble_eq_true rfl) rfl (fun _ h => List.mem_cons_of_mem _ (List.mem_append_right _ h)) (List.mem_of_getElem? (i := 2) rfl) rfl rfl rfl dX2_blossom_22 rfl ?_
      refine vv_nm (fun σ2 hσ2 => ?_)
      have h := h σ2 hσ2
      refine vv_aload_n (q := 26) X 0 dX2_blossom_25 rfl rfl rfl ?_
      refine vv_getf (q := 29) (ref := "HalfLadders$Now") (C := RX2) (T := TX2) (N := 7) X f0 2 5 (isN_lt 0 hf0 (Nat.le_of_ble_eq_true rfl)) (e_isN (ad := ad) (cy := cy) hf0 _ _) rfl (Nat.le_of_ble_eq_true rfl) (fun _ h => List.mem_cons_of_mem _ (List.mem_append_right _ h)) (List.mem_of_getElem? (i := 2) rfl) rfl rfl dX2_blossom_26 rfl ?_
      refine vv_bipush (q := 31) X (16 : Int32) dX2_blossom_29 (by decide) rfl ?_
      refine vv_iushr (q := 32) X dX2_blossom_31 rfl ?_
      refine vv_bipush (q := 34) X (21 : Int32) dX2_blossom_32 (by decide) rfl ?_
      refine vv_irem (q := 35) X dX2_blossom_34 (by decide) rfl ?_
      refine vv_topi (fun z3 hz3 => ?_)
      have h := h z3 hz3
      refine vv_istore_n (lv2 := [(3, .int z3), (0, .ref (ad f0)), (1, .ref (ad f1)), (2, .int x2)]) (q := 36) X dX2_blossom_35 rfl (Nat.le_of_ble_eq_true rfl) rfl rfl ?_
      refine vv_aload_n (q := 37) X 1 dX2_blossom_36 rfl rfl rfl ?_
      refine vv_getf (q := 40) (ref := "HalfLadders$Now") (C := RX2) (T := TX2) (N := 7) X f0 2 6 (isN_lt 0 hf0 (Nat.le_of_ble_eq_true rfl)) (e_isN (ad := ad) (cy := cy) hf0 _ _) rfl (Nat.le_of_ble_eq_true rfl) (fun _ h => List.mem_cons_of_mem _ (List.mem_append_right _ h)) (List.mem_of_getElem? (i := 4) rfl) rfl rfl dX2_blossom_37 rfl ?_
      refine vv_iload_n (q := 41) X 3 dX2_blossom_40 rfl rfl rfl ?_
      refine vv_aload_n (q := 42) X 2 dX2_blossom_41 rfl rfl rfl ?_
      refine vv_getf (q := 45) (ref := "HalfLadders$Orchard") (C := RX3) (T := TX3) (N := 10) X f1 3 9 (isO_lt 0 hf1 (Nat.le_of_ble_eq_true rfl)) (e_isO (ad := ad) (cy := cy) hf1 _ _) rfl (Nat.le_of_ble_eq_true rfl) (fun _ h => List.mem_cons_of_mem _ (List.mem_append_left _ (List.mem_append_right _ h))) (List.mem_of_getElem? (i := 5) rfl) rfl rfl dX2_blossom_42 rfl ?_
      refine vv_iload_n (q := 46) X 3 dX2_blossom_45 rfl rfl rfl ?_
      obtain ⟨hin4, h⟩ := h
      refine vv_iald (q := 47) X (f1 + 8) 5 (isO_lt 8 hf1 (Nat.le_of_ble_eq_true rfl)) (fun f => e_isO_8 (ad := ad) (cy := cy) hf1 f σ2.2) hin4 dX2_blossom_46 rfl ?_
      refine vv_iload_n (q := 48) X 0 dX2_blossom_47 rfl rfl rfl ?_
      refine vv_imul (q := 49) X dX2_blossom_48 rfl ?_
      refine vv_bipush (q := 51) X (10 : Int32) dX2_blossom_49 (by decide) rfl ?_
      refine vv_idiv (q := 52) X dX2_blossom_51 (by decide) rfl ?_
      obtain ⟨hin5, h⟩ := h
      refine vv_iast (q := 53) X (f0 + 1) 5 (isN_lt 1 hf0 (Nat.le_of_ble_eq_true rfl)) (fun f => e_isN_1 (ad := ad) (cy := cy) hf0 f σ2.2) hin5 dX2_blossom_52 rfl ?_
      refine vv_nm (fun σ6 hσ6 => ?_)
      have h := h σ6 hσ6
      obtain ⟨z7, hz7⟩ : ∃ y : Int32, y = x2 + (1 : Int32) := ⟨_, rfl⟩
      have h := h z7 hz7
      refine vv_iinc (v := z7) (lv2 := [(2, .int z7), (3, .int z3), (0, .ref (ad f0)), (1, .ref (ad f1))]) (q := 56) X 3 dX2_blossom_53 rfl (by rw [hz7]; rfl) (Nat.le_of_ble_eq_true rfl) rfl rfl ?_
      refine vv_goto X 2 dX2_blossom_56 (by decide) ?_
      refine vv_sub (lv' := [(0, .ref (ad f0)), (1, .ref (ad f1)), (2, .int z7)]) [2, 3, 0] rfl ?_
      exact ih σ6 z7 h

def wX2_blossom (σ : St) (a0 : Nat) (a1 : Nat) (P : St → Prop) : Prop :=
isN a0 ∧
isO a1 ∧
∃ n9 : Nat, wLX2_blossom_2 a0 a1 (fun (σ8 : St) =>
P σ8) P n9 σ (0 : Int32)

set_option maxHeartbeats 8000000 in
set_option maxRecDepth 100000 in
theorem kX2_blossom (l : Launch) (D : va_G) {cy : Nat → ClassId} {ad : Nat → Nat} {zb : Nat → Nat} (hw : xOk (wC ad cy zb)) {σ : St} {a0 : Nat} {a1 : Nat} {P : St → Prop} (h : wX2_blossom σ a0 a1 P) : MV l yX2_blossom wsX2_blossom rmX2_blossom D cy (wC ad cy zb) [.ref (ad a0), .ref (ad a1)] σ P := by
  unfold MV
  refine vv_met (cc := cX2_blossom) (maxL := 4) (ret := none) hw (by decide +kernel) rfl [.ref (ad a0), .ref (ad a1)] (Nat.le_of_ble_eq_true rfl) ?_
  intro p e s m args below meth c X hr
  have X : XX p s m args meth c cX2_blossom 4 D cy (wC ad cy zb) wsX2_blossom RX2 := X
  refine vv_sub (lv' := [(0, .ref (ad a0)), (1, .ref (ad a1))]) [0, 1] rfl ?_
  rw [wX2_blossom] at h
  obtain ⟨ha0, h⟩ := h
  obtain ⟨ha1, h⟩ := h
  refine vv_iconst (q := 1) X (0 : Int32) dX2_blossom_0 (by decide) rfl ?_
  refine vv_istore_n (lv2 := [(2, .int (0 : Int32)), (0, .ref (ad a0)), (1, .ref (ad a1))]) (q := 2) X dX2_blossom_1 rfl (Nat.le_of_ble_eq_true rfl) rfl rfl ?_
  obtain ⟨n9, h⟩ := h
  refine vv_sub (lv' := [(0, .ref (ad a0)), (1, .ref (ad a1)), (2, .int (0 : Int32))]) [1, 2, 0] rfl ?_
  refine twLX2_blossom_2 X hr a0 a1 ha0 ha1 _ ?_ n9 σ (0 : Int32) h
  intro σ8 h
  exact vv_vret X hr dX2_blossom_59 h

/-! X2_become: become(LHalfLadders$Now;)V -/
def rmX2_become : Room := { frames := 0, cells := 0, slots := 0, locals := 0 }
def wLX2_become_50 (f0 : Nat) (f1 : Nat)  (K73 : St → Prop) (P : St → Prop) : Nat → St → Int32 → Prop
  | 0, _, _ => False
  | n + 1, σ, x2 =>
    ((5 : Int32) ≤ x2 →
    K73 σ) ∧
    (¬ (5 : Int32) ≤ x2 →
    vp_in x2 5 ∧
    vp_in x2 5 ∧
    ∀ σ10 : St, σ10 = sI σ (f0 + 1) x2.toNatClampNeg (σ.1 (f1 + 1) x2.toNatClampNeg) →
    ∀ z11 : Int32, z11 = x2 + (1 : Int32) →
    wLX2_become_50 f0 f1 K73 P n σ10 z11)

set_option maxHeartbeats 4000000 in
set_option maxRecDepth 100000 in
theorem twLX2_become_50 {p : Program} {l : Launch} {e : Env} {s : State} {m : MethodId} {args : Array Value} {below : List Frame} {meth : Method} {c : Code} {D : va_G} {cy : Nat → ClassId} {ad : Nat → Nat} {zb : Nat → Nat} (X : XX p s m args meth c cX2_become 3 D cy (wC ad cy zb) wsX2_become RX2) (hr : meth.sig.returnType = none) (f0 : Nat) (f1 : Nat) (hf0 : isN f0) (hf1 : isN f1)  (K73 : St → Prop) {P : St → Prop} (hK73 : ∀ (σ : St), K73 σ → VV p l e rmX2_become s m args below meth c (MQ below (va_Qv P (xPost D (wC ad cy zb)) (xA (wC ad cy zb))) args s 0 0 (xA (wC ad cy zb))) 3 D (wC ad cy zb) σ 73 [] []) : ∀ (n : Nat) (σ : St) (x2 : Int32), wLX2_become_50 f0 f1 K73 P n σ x2 → VV p l e rmX2_become s m args below meth c (MQ below (va_Qv P (xPost D (wC ad cy zb)) (xA (wC ad cy zb))) args s 0 0 (xA (wC ad cy zb))) 3 D (wC ad cy zb) σ 50 [(0, .ref (ad f0)), (1, .ref (ad f1)), (2, .int x2)] [] := by
  intro n
  induction n with
  | zero => intro σ x2 h; exact h.elim
  | succ n ih =>
    intro σ x2 h
    rw [wLX2_become_50] at h
    refine vv_iload_n (q := 51) X 2 dX2_become_50 rfl rfl rfl ?_
    refine vv_iconst (q := 52) X (5 : Int32) dX2_become_51 (by decide) rfl ?_
    refine vv_icmp_ge (q := 55) X 73 dX2_become_52 (by decide) rfl (fun c7 => ?_) (fun c7 => ?_)
    · have h := h.1 c7
      refine vv_sub (lv' := []) [] rfl ?_
      exact hK73 σ h
    · have h := h.2 c7
      refine vv_aload_n (q := 56) X 0 dX2_become_55 rfl rfl rfl ?_
      refine vv_getf (q := 59) (ref := "HalfLadders$Now") (C := RX2) (T := TX2) (N := 7) X f0 2 6 (isN_lt 0 hf0 (Nat.le_of_ble_eq_true rfl)) (e_isN (ad := ad) (cy := cy) hf0 _ _) rfl (Nat.le_of_ble_eq_true rfl) (fun _ h => List.mem_cons_of_mem _ (List.mem_append_right _ h)) (List.mem_of_getElem? (i := 7) rfl) rfl rfl dX2_become_56 rfl ?_
      refine vv_iload_n (q := 60) X 2 dX2_become_59 rfl rfl rfl ?_
      refine vv_aload_n (q := 61) X 1 dX2_become_60 rfl rfl rfl ?_
      refine vv_getf (q := 64) (ref := "HalfLadders$Now") (C := RX2) (T := TX2) (N := 7) X f1 2 6 (isN_lt 0 hf1 (Nat.le_of_ble_eq_true rfl)) (e_isN (ad := ad) (cy := cy) hf1 _ _) rfl (Nat.le_of_ble_eq_true rfl) (fun _ h => List.mem_cons_of_mem _ (List.mem_append_right _ h)) (List.mem_of_getElem? (i := 7) rfl) rfl rfl dX2_become_61 rfl ?_
      refine vv_iload_n (q := 65) X 2 dX2_become_64 rfl rfl rfl ?_
      obtain ⟨hin8, h⟩ := h
      refine vv_iald (q := 66) X (f1 + 1) 5 (isN_lt 1 hf1 (Nat.le_of_ble_eq_true rfl)) (fun f => e_isN_1 (ad := ad) (cy := cy) hf1 f σ.2) hin8 dX2_become_65 rfl ?_
      obtain ⟨hin9, h⟩ := h
      refine vv_iast (q := 67) X (f0 + 1) 5 (isN_lt 1 hf0 (Nat.le_of_ble_eq_true rfl)) (fun f => e_isN_1 (ad := ad) (cy := cy) hf0 f σ.2) hin9 dX2_become_66 rfl ?_
      refine vv_nm (fun σ10 hσ10 => ?_)
      have h := h σ10 hσ10
      obtain ⟨z11, hz11⟩ : ∃ y : Int32, y = x2 + (1 : Int32) := ⟨_, rfl⟩
      have h := h z11 hz11
      refine vv_iinc (v := z11) (lv2 := [(2, .int z11), (0, .ref (ad f0)), (1, .ref (ad f1))]) (q := 70) X 2 dX2_become_67 rfl (by rw [hz11]; rfl) (Nat.le_of_ble_eq_true rfl) rfl rfl ?_
      refine vv_goto X 50 dX2_become_70 (by decide) ?_
      refine vv_sub (lv' := [(0, .ref (ad f0)), (1, .ref (ad f1)), (2, .int z11)]) [1, 2, 0] rfl ?_
      exact ih σ10 z11 h

def wX2_become (σ : St) (a0 : Nat) (a1 : Nat) (P : St → Prop) : Prop :=
isN a0 ∧
isN a1 ∧
∀ σ1 : St, σ1 = sI σ a0 0 (σ.1 a1 0) →
∀ σ2 : St, σ2 = sI σ1 a0 1 (σ1.1 a1 1) →
∀ σ3 : St, σ3 = sI σ2 a0 2 (σ2.1 a1 2) →
∀ σ4 : St, σ4 = sI σ3 a0 3 (σ3.1 a1 3) →
∀ σ5 : St, σ5 = sI σ4 a0 4 (σ4.1 a1 4) →
∀ σ6 : St, σ6 = sI σ5 a0 5 (σ5.1 a1 5) →
∃ n13 : Nat, wLX2_become_50 a0 a1 (fun (σ12 : St) =>
P σ12) P n13 σ6 (0 : Int32)

set_option maxHeartbeats 8000000 in
set_option maxRecDepth 100000 in
theorem kX2_become (l : Launch) (D : va_G) {cy : Nat → ClassId} {ad : Nat → Nat} {zb : Nat → Nat} (hw : xOk (wC ad cy zb)) {σ : St} {a0 : Nat} {a1 : Nat} {P : St → Prop} (h : wX2_become σ a0 a1 P) : MV l yX2_become wsX2_become rmX2_become D cy (wC ad cy zb) [.ref (ad a0), .ref (ad a1)] σ P := by
  unfold MV
  refine vv_met (cc := cX2_become) (maxL := 3) (ret := none) hw (by decide +kernel) rfl [.ref (ad a0), .ref (ad a1)] (Nat.le_of_ble_eq_true rfl) ?_
  intro p e s m args below meth c X hr
  have X : XX p s m args meth c cX2_become 3 D cy (wC ad cy zb) wsX2_become RX2 := X
  refine vv_sub (lv' := [(0, .ref (ad a0)), (1, .ref (ad a1))]) [0, 1] rfl ?_
  rw [wX2_become] at h
  obtain ⟨ha0, h⟩ := h
  obtain ⟨ha1, h⟩ := h
  refine vv_aload_n (q := 1) X 0 dX2_become_0 rfl rfl rfl ?_
  refine vv_aload_n (q := 2) X 1 dX2_become_1 rfl rfl rfl ?_
  refine vv_getf (q := 5) (ref := "HalfLadders$Now") (C := RX2) (T := TX2) (N := 7) X a1 2 0 (isN_lt 0 ha1 (Nat.le_of_ble_eq_true rfl)) (e_isN (ad := ad) (cy := cy) ha1 _ _) rfl (Nat.le_of_ble_eq_true rfl) (fun _ h => List.mem_cons_of_mem _ (List.mem_append_right _ h)) (List.mem_of_getElem? (i := 1) rfl) rfl rfl dX2_become_2 rfl ?_
  refine vv_putf (q := 8) (ref := "HalfLadders$Now") (C := RX2) (T := TX2) (N := 7) X a0 2 0 tyX2 tyX2_ok nmX2 (isN_lt 0 ha0 (Nat.le_of_ble_eq_true rfl)) (e_isN (ad := ad) (cy := cy) ha0 _ _) (e_isN (ad := ad) (cy := cy) ha0 _ _) rfl (Nat.le_of_ble_eq_true rfl) rfl (fun _ h => List.mem_cons_of_mem _ (List.mem_append_right _ h)) (List.mem_of_getElem? (i := 1) rfl) rfl rfl rfl dX2_become_5 rfl ?_
  refine vv_nm (fun σ1 hσ1 => ?_)
  have h := h σ1 hσ1
  refine vv_aload_n (q := 9) X 0 dX2_become_8 rfl rfl rfl ?_
  refine vv_aload_n (q := 10) X 1 dX2_become_9 rfl rfl rfl ?_
  refine vv_getf (q := 13) (ref := "HalfLadders$Now") (C := RX2) (T := TX2) (N := 7) X a1 2 1 (isN_lt 0 ha1 (Nat.le_of_ble_eq_true rfl)) (e_isN (ad := ad) (cy := cy) ha1 _ _) rfl (Nat.le_of_ble_eq_true rfl) (fun _ h => List.mem_cons_of_mem _ (List.mem_append_right _ h)) (List.mem_of_getElem? (i := 2) rfl) rfl rfl dX2_become_10 rfl ?_
  refine vv_putf (q := 16) (ref := "HalfLadders$Now") (C := RX2) (T := TX2) (N := 7) X a0 2 1 tyX2 tyX2_ok nmX2 (isN_lt 0 ha0 (Nat.le_of_ble_eq_true rfl)) (e_isN (ad := ad) (cy := cy) ha0 _ _) (e_isN (ad := ad) (cy := cy) ha0 _ _) rfl (Nat.le_of_ble_eq_true rfl) rfl (fun _ h => List.mem_cons_of_mem _ (List.mem_append_right _ h)) (List.mem_of_getElem? (i := 2) rfl) rfl rfl rfl dX2_become_13 rfl ?_
  refine vv_nm (fun σ2 hσ2 => ?_)
  have h := h σ2 hσ2
  refine vv_aload_n (q := 17) X 0 dX2_become_16 rfl rfl rfl ?_
  refine vv_aload_n (q := 18) X 1 dX2_become_17 rfl rfl rfl ?_
  refine vv_getf (q := 21) (ref := "HalfLadders$Now") (C := RX2) (T := TX2) (N := 7) X a1 2 2 (isN_lt 0 ha1 (Nat.le_of_ble_eq_true rfl)) (e_isN (ad := ad) (cy := cy) ha1 _ _) rfl (Nat.le_of_ble_eq_true rfl) (fun _ h => List.mem_cons_of_mem _ (List.mem_append_right _ h)) (List.mem_of_getElem? (i := 3) rfl) rfl rfl dX2_become_18 rfl ?_
  refine vv_putf (q := 24) (ref := "HalfLadders$Now") (C := RX2) (T := TX2) (N := 7) X a0 2 2 tyX2 tyX2_ok nmX2 (isN_lt 0 ha0 (Nat.le_of_ble_eq_true rfl)) (e_isN (ad := ad) (cy := cy) ha0 _ _) (e_isN (ad := ad) (cy := cy) ha0 _ _) rfl (Nat.le_of_ble_eq_true rfl) rfl (fun _ h => List.mem_cons_of_mem _ (List.mem_append_right _ h)) (List.mem_of_getElem? (i := 3) rfl) rfl rfl rfl dX2_become_21 rfl ?_
  refine vv_nm (fun σ3 hσ3 => ?_)
  have h := h σ3 hσ3
  refine vv_aload_n (q := 25) X 0 dX2_become_24 rfl rfl rfl ?_
  refine vv_aload_n (q := 26) X 1 dX2_become_25 rfl rfl rfl ?_
  refine vv_getf (q := 29) (ref := "HalfLadders$Now") (C := RX2) (T := TX2) (N := 7) X a1 2 3 (isN_lt 0 ha1 (Nat.le_of_ble_eq_true rfl)) (e_isN (ad := ad) (cy := cy) ha1 _ _) rfl (Nat.le_of_ble_eq_true rfl) (fun _ h => List.mem_cons_of_mem _ (List.mem_append_right _ h)) (List.mem_of_getElem? (i := 4) rfl) rfl rfl dX2_become_26 rfl ?_
  refine vv_putf (q := 32) (ref := "HalfLadders$Now") (C := RX2) (T := TX2) (N := 7) X a0 2 3 tyX2 tyX2_ok nmX2 (isN_lt 0 ha0 (Nat.le_of_ble_eq_true rfl)) (e_isN (ad := ad) (cy := cy) ha0 _ _) (e_isN (ad := ad) (cy := cy) ha0 _ _) rfl (Nat.le_of_ble_eq_true rfl) rfl (fun _ h => List.mem_cons_of_mem _ (List.mem_append_right _ h)) (List.mem_of_getElem? (i := 4) rfl) rfl rfl rfl dX2_become_29 rfl ?_
  refine vv_nm (fun σ4 hσ4 => ?_)
  have h := h σ4 hσ4
  refine vv_aload_n (q := 33) X 0 dX2_become_32 rfl rfl rfl ?_
  refine vv_aload_n (q := 34) X 1 dX2_become_33 rfl rfl rfl ?_
  refine vv_getf (q := 37) (ref := "HalfLadders$Now") (C := RX2) (T := TX2) (N := 7) X a1 2 4 (isN_lt 0 ha1 (Nat.le_of_ble_eq_true rfl)) (e_isN (ad := ad) (cy := cy) ha1 _ _) rfl (Nat.le_of_ble_eq_true rfl) (fun _ h => List.mem_cons_of_mem _ (List.mem_append_right _ h)) (List.mem_of_getElem? (i := 5) rfl) rfl rfl dX2_become_34 rfl ?_
  refine vv_putf (q := 40) (ref := "HalfLadders$Now") (C := RX2) (T := TX2) (N := 7) X a0 2 4 tyX2 tyX2_ok nmX2 (isN_lt 0 ha0 (Nat.le_of_ble_eq_true rfl)) (e_isN (ad := ad) (cy := cy) ha0 _ _) (e_isN (ad := ad) (cy := cy) ha0 _ _) rfl (Nat.le_of_ble_eq_true rfl) rfl (fun _ h => List.mem_cons_of_mem _ (List.mem_append_right _ h)) (List.mem_of_getElem? (i := 5) rfl) rfl rfl rfl dX2_become_37 rfl ?_
  refine vv_nm (fun σ5 hσ5 => ?_)
  have h := h σ5 hσ5
  refine vv_aload_n (q := 41) X 0 dX2_become_40 rfl rfl rfl ?_
  refine vv_aload_n (q := 42) X 1 dX2_become_41 rfl rfl rfl ?_
  refine vv_getf (q := 45) (ref := "HalfLadders$Now") (C := RX2) (T := TX2) (N := 7) X a1 2 5 (isN_lt 0 ha1 (Nat.le_of_ble_eq_true rfl)) (e_isN (ad := ad) (cy := cy) ha1 _ _) rfl (Nat.le_of_ble_eq_true rfl) (fun _ h => List.mem_cons_of_mem _ (List.mem_append_right _ h)) (List.mem_of_getElem? (i := 6) rfl) rfl rfl dX2_become_42 rfl ?_
  refine vv_putf (q := 48) (ref := "HalfLadders$Now") (C := RX2) (T := TX2) (N := 7) X a0 2 5 tyX2 tyX2_ok nmX2 (isN_lt 0 ha0 (Nat.le_of_ble_eq_true rfl)) (e_isN (ad := ad) (cy := cy) ha0 _ _) (e_isN (ad := ad) (cy := cy) ha0 _ _) rfl (Nat.le_of_ble_eq_true rfl) rfl (fun _ h => List.mem_cons_of_mem _ (List.mem_append_right _ h)) (List.mem_of_getElem? (i := 6) rfl) rfl rfl rfl dX2_become_45 rfl ?_
  refine vv_nm (fun σ6 hσ6 => ?_)
  have h := h σ6 hσ6
  refine vv_iconst (q := 49) X (0 : Int32) dX2_become_48 (by decide) rfl ?_
  refine vv_istore_n (lv2 := [(2, .int (0 : Int32)), (0, .ref (ad a0)), (1, .ref (ad a1))]) (q := 50) X dX2_become_49 rfl (Nat.le_of_ble_eq_true rfl) rfl rfl ?_
  obtain ⟨n13, h⟩ := h
  refine vv_sub (lv' := [(0, .ref (ad a0)), (1, .ref (ad a1)), (2, .int (0 : Int32))]) [1, 2, 0] rfl ?_
  refine twLX2_become_50 X hr a0 a1 ha0 ha1 _ ?_ n13 σ6 (0 : Int32) h
  intro σ12 h
  exact vv_vret X hr dX2_become_73 h

/-! X2_leftOnAll: leftOnAll(LHalfLadders$Orchard;)I -/
def rmX2_leftOnAll : Room := { frames := 0, cells := 0, slots := 0, locals := 0 }
def wLX2_leftOnAll_4 (f0 : Nat) (f1 : Nat) (σ : St) (K27 : Int32 → Prop) (P : Int32 → Prop) : Nat → Int32 → Int32 → Prop
  | 0, _, _ => False
  | n + 1, x2, x3 =>
    ((σ.1 f1 1) ≤ x3 →
    K27 x2) ∧
    (¬ (σ.1 f1 1) ≤ x3 →
    vp_in x3 5 ∧
    ∀ z3 : Int32, z3 = (x2 + (σ.1 (f0 + 1) x3.toNatClampNeg)) →
    ∀ z4 : Int32, z4 = x3 + (1 : Int32) →
    wLX2_leftOnAll_4 f0 f1 σ K27 P n z3 z4)

set_option maxHeartbeats 4000000 in
set_option maxRecDepth 100000 in
theorem twLX2_leftOnAll_4 {p : Program} {l : Launch} {e : Env} {s : State} {m : MethodId} {args : Array Value} {below : List Frame} {meth : Method} {c : Code} {D : va_G} {cy : Nat → ClassId} {ad : Nat → Nat} {zb : Nat → Nat} (X : XX p s m args meth c cX2_leftOnAll 4 D cy (wC ad cy zb) wsX2_leftOnAll RX2) (hr : meth.sig.returnType = (some .int)) (f0 : Nat) (f1 : Nat) (hf0 : isN f0) (hf1 : isO f1) (σ : St) (K27 : Int32 → Prop) {P : Int32 → Prop} (hK27 : ∀ (x2 : Int32), K27 x2 → VV p l e rmX2_leftOnAll s m args below meth c (MQ below (va_Qi (fun r u => P r ∧ u = σ) (xPost D (wC ad cy zb)) (xA (wC ad cy zb))) args s 0 0 (xA (wC ad cy zb))) 4 D (wC ad cy zb) σ 27 [(2, .int x2)] []) : ∀ (n : Nat) (x2 : Int32) (x3 : Int32), wLX2_leftOnAll_4 f0 f1 σ K27 P n x2 x3 → VV p l e rmX2_leftOnAll s m args below meth c (MQ below (va_Qi (fun r u => P r ∧ u = σ) (xPost D (wC ad cy zb)) (xA (wC ad cy zb))) args s 0 0 (xA (wC ad cy zb))) 4 D (wC ad cy zb) σ 4 [(0, .ref (ad f0)), (1, .ref (ad f1)), (2, .int x2), (3, .int x3)] [] := by
  intro n
  induction n with
  | zero => intro x2 x3 h; exact h.elim
  | succ n ih =>
    intro x2 x3 h
    rw [wLX2_leftOnAll_4] at h
    refine vv_iload_n (q := 5) X 3 dX2_leftOnAll_4 rfl rfl rfl ?_
    refine vv_aload_n (q := 6) X 1 dX2_leftOnAll_5 rfl rfl rfl ?_
    refine vv_getf (q := 9) (ref := "HalfLadders$Orchard") (C := RX3) (T := TX3) (N := 10) X f1 3 1 (isO_lt 0 hf1 (Nat.le_of_ble_eq_true rfl)) (e_isO (ad := ad) (cy := cy) hf1 _ _) rfl (Nat.le_of_ble_eq_true rfl) (fun _ h => List.mem_cons_of_mem _ (List.mem_append_left _ (List.mem_append_right _ h))) (List.mem_of_getElem? (i := 1) rfl) rfl rfl dX2_leftOnAll_6 rfl ?_
    refine vv_icmp_ge (q := 12) X 27 dX2_leftOnAll_9 (by decide) rfl (fun c1 => ?_) (fun c1 => ?_)
    · have h := h.1 c1
      refine vv_sub (lv' := [(2, .int x2)]) [2] rfl ?_
      exact hK27 x2 h
    · have h := h.2 c1
      refine vv_iload_n (q := 13) X 2 dX2_leftOnAll_12 rfl rfl rfl ?_
      refine vv_aload_n (q := 14) X 0 dX2_leftOnAll_13 rfl rfl rfl ?_
      refine vv_getf (q := 17) (ref := "HalfLadders$Now") (C := RX2) (T := TX2) (N := 7) X f0 2 6 (isN_lt 0 hf0 (Nat.le_of_ble_eq_true rfl)) (e_isN (ad := ad) (cy := cy) hf0 _ _) rfl (Nat.le_of_ble_eq_true rfl) (fun _ h => List.mem_cons_of_mem _ (List.mem_append_right _ h)) (List.mem_of_getElem? (i := 2) rfl) rfl rfl dX2_leftOnAll_14 rfl ?_
      refine vv_iload_n (q := 18) X 3 dX2_leftOnAll_17 rfl rfl rfl ?_
      obtain ⟨hin2, h⟩ := h
      refine vv_iald (q := 19) X (f0 + 1) 5 (isN_lt 1 hf0 (Nat.le_of_ble_eq_true rfl)) (fun f => e_isN_1 (ad := ad) (cy := cy) hf0 f σ.2) hin2 dX2_leftOnAll_18 rfl ?_
      refine vv_iadd (q := 20) X dX2_leftOnAll_19 rfl ?_
      refine vv_topi (fun z3 hz3 => ?_)
      have h := h z3 hz3
      refine vv_istore_n (lv2 := [(2, .int z3), (0, .ref (ad f0)), (1, .ref (ad f1)), (3, .int x3)]) (q := 21) X dX2_leftOnAll_20 rfl (Nat.le_of_ble_eq_true rfl) rfl rfl ?_
      obtain ⟨z4, hz4⟩ : ∃ y : Int32, y = x3 + (1 : Int32) := ⟨_, rfl⟩
      have h := h z4 hz4
      refine vv_iinc (v := z4) (lv2 := [(3, .int z4), (2, .int z3), (0, .ref (ad f0)), (1, .ref (ad f1))]) (q := 24) X 3 dX2_leftOnAll_21 rfl (by rw [hz4]; rfl) (Nat.le_of_ble_eq_true rfl) rfl rfl ?_
      refine vv_goto X 4 dX2_leftOnAll_24 (by decide) ?_
      refine vv_sub (lv' := [(0, .ref (ad f0)), (1, .ref (ad f1)), (2, .int z3), (3, .int z4)]) [2, 3, 1, 0] rfl ?_
      exact ih z3 z4 h

def wX2_leftOnAll (σ : St) (a0 : Nat) (a1 : Nat) (P : Int32 → Prop) : Prop :=
isN a0 ∧
isO a1 ∧
∃ n6 : Nat, wLX2_leftOnAll_4 a0 a1 σ (fun (y5 : Int32) =>
P y5) P n6 (0 : Int32) (0 : Int32)

set_option maxHeartbeats 8000000 in
set_option maxRecDepth 100000 in
theorem kX2_leftOnAll (l : Launch) (D : va_G) {cy : Nat → ClassId} {ad : Nat → Nat} {zb : Nat → Nat} (hw : xOk (wC ad cy zb)) {σ : St} {a0 : Nat} {a1 : Nat} {P : Int32 → Prop} (h : wX2_leftOnAll σ a0 a1 P) : MI l yX2_leftOnAll wsX2_leftOnAll rmX2_leftOnAll D cy (wC ad cy zb) [.ref (ad a0), .ref (ad a1)] σ (fun r u => P r ∧ u = σ) := by
  unfold MI
  refine vv_met (cc := cX2_leftOnAll) (maxL := 4) (ret := (some .int)) hw (by decide +kernel) rfl [.ref (ad a0), .ref (ad a1)] (Nat.le_of_ble_eq_true rfl) ?_
  intro p e s m args below meth c X hr
  have X : XX p s m args meth c cX2_leftOnAll 4 D cy (wC ad cy zb) wsX2_leftOnAll RX2 := X
  refine vv_sub (lv' := [(0, .ref (ad a0)), (1, .ref (ad a1))]) [0, 1] rfl ?_
  rw [wX2_leftOnAll] at h
  obtain ⟨ha0, h⟩ := h
  obtain ⟨ha1, h⟩ := h
  refine vv_iconst (q := 1) X (0 : Int32) dX2_leftOnAll_0 (by decide) rfl ?_
  refine vv_istore_n (lv2 := [(2, .int (0 : Int32)), (0, .ref (ad a0)), (1, .ref (ad a1))]) (q := 2) X dX2_leftOnAll_1 rfl (Nat.le_of_ble_eq_true rfl) rfl rfl ?_
  refine vv_iconst (q := 3) X (0 : Int32) dX2_leftOnAll_2 (by decide) rfl ?_
  refine vv_istore_n (lv2 := [(3, .int (0 : Int32)), (2, .int (0 : Int32)), (0, .ref (ad a0)), (1, .ref (ad a1))]) (q := 4) X dX2_leftOnAll_3 rfl (Nat.le_of_ble_eq_true rfl) rfl rfl ?_
  obtain ⟨n6, h⟩ := h
  refine vv_sub (lv' := [(0, .ref (ad a0)), (1, .ref (ad a1)), (2, .int (0 : Int32)), (3, .int (0 : Int32))]) [2, 3, 1, 0] rfl ?_
  refine twLX2_leftOnAll_4 X hr a0 a1 ha0 ha1 σ _ ?_ n6 (0 : Int32) (0 : Int32) h
  intro y5 h
  refine vv_iload_n (q := 28) X 0 dX2_leftOnAll_27 rfl rfl rfl ?_
  exact vv_iret X hr dX2_leftOnAll_28 ⟨h, rfl⟩

/-! X2_pickable: pickable(LHalfLadders$Orchard;LHalfLadders$Pairs;II)I -/
def rmX2_pickable : Room := { frames := 2, cells := 0, slots := 0, locals := 43 }
def wX2_pickable (σ : St) (a0 : Nat) (a1 : Nat) (a3 : Int32) (a4 : Int32) (P : Int32 → Prop) : Prop :=
isN a0 ∧
isO a1 ∧
wX3_isRipe σ a1 a4 (σ.1 a0 0) (fun r1 : Int32 =>
(r1 = 0 →
P (0 : Int32)) ∧
(¬ r1 = 0 →
((((σ.1 a0 2) >>> (a4 &&& 31)) &&& (1 : Int32)) = 0 →
vp_in a3 16 ∧
(¬ ((σ.1 a0 1) &&& (σ.1 28 a3.toNatClampNeg)) = 0 →
P (0 : Int32)) ∧
(((σ.1 a0 1) &&& (σ.1 28 a3.toNatClampNeg)) = 0 →
vp_in a3 16 ∧
vp_in a4 5 ∧
((σ.1 (a1 + 6) a4.toNatClampNeg) ≤ (σ.1 30 a3.toNatClampNeg) →
vp_in a3 16 ∧
vp_in a4 5 ∧
P (if (σ.1 (a0 + 1) a4.toNatClampNeg) < (σ.1 31 a3.toNatClampNeg) then (σ.1 (a0 + 1) a4.toNatClampNeg) else (σ.1 31 a3.toNatClampNeg))) ∧
(¬ (σ.1 (a1 + 6) a4.toNatClampNeg) ≤ (σ.1 30 a3.toNatClampNeg) →
P (0 : Int32)))) ∧
(¬ (((σ.1 a0 2) >>> (a4 &&& 31)) &&& (1 : Int32)) = 0 →
P (0 : Int32))))

set_option maxHeartbeats 8000000 in
set_option maxRecDepth 100000 in
theorem kX2_pickable (l : Launch) (D : va_G) {cy : Nat → ClassId} {ad : Nat → Nat} {zb : Nat → Nat} (hw : xOk (wC ad cy zb)) {σ : St} {a0 : Nat} {a1 : Nat} {a3 : Int32} {a4 : Int32} {P : Int32 → Prop} (h : wX2_pickable σ a0 a1 a3 a4 P) : MI l yX2_pickable wsX2_pickable rmX2_pickable D cy (wC ad cy zb) [.ref (ad a0), .ref (ad a1), .ref (ad 25), .int a3, .int a4] σ (fun r u => P r ∧ u = σ) := by
  unfold MI
  refine vv_met (cc := cX2_pickable) (maxL := 5) (ret := (some .int)) hw (by decide +kernel) rfl [.ref (ad a0), .ref (ad a1), .ref (ad 25), .int a3, .int a4] (Nat.le_of_ble_eq_true rfl) ?_
  intro p e s m args below meth c X hr
  have X : XX p s m args meth c cX2_pickable 5 D cy (wC ad cy zb) wsX2_pickable RX2 := X
  refine vv_sub (lv' := [(0, .ref (ad a0)), (1, .ref (ad a1)), (2, .ref (ad 25)), (3, .int a3), (4, .int a4)]) [0, 1, 2, 3, 4] rfl ?_
  rw [wX2_pickable] at h
  obtain ⟨ha0, h⟩ := h
  obtain ⟨ha1, h⟩ := h
  refine vv_aload_n (q := 1) X 1 dX2_pickable_0 rfl rfl rfl ?_
  refine vv_iload (q := 3) X 4 dX2_pickable_1 rfl rfl ?_
  refine vv_aload_n (q := 4) X 0 dX2_pickable_3 rfl rfl rfl ?_
  refine vv_getf (q := 7) (ref := "HalfLadders$Now") (C := RX2) (T := TX2) (N := 7) X a0 2 0 (isN_lt 0 ha0 (Nat.le_of_ble_eq_true rfl)) (e_isN (ad := ad) (cy := cy) ha0 _ _) rfl (Nat.le_of_ble_eq_true rfl) (fun _ h => List.mem_cons_of_mem _ (List.mem_append_left _ (List.mem_append_left _ (List.mem_append_right _ h)))) (List.mem_of_getElem? (i := 1) rfl) rfl rfl dX2_pickable_4 rfl ?_
  refine vv_cVi (q := 10) (C := RX3) X a1 3 [.int a4, .int (σ.1 a0 0)] (kX3_isRipe l D X.2.2.1 h) (cwV 2 X.1.2.2.2.2 gX2_pickable_X3_isRipe rfl rfl rfl (by decide +kernel) ⟨Nat.le_of_ble_eq_true rfl, Nat.le_of_ble_eq_true rfl⟩) (isO_lt 0 ha1 (Nat.le_of_ble_eq_true rfl)) (e_isO (ad := ad) (cy := cy) ha1 _ _) rfl rfl rfl (Nat.le_of_ble_eq_true rfl) dX2_pickable_7 rfl (fun r1 u9 h9 => ?_)
  obtain ⟨h9, hu9⟩ := h9
  subst u9
  have h := h9
  refine vv_if_eq (q := 13) X 25 dX2_pickable_10 (by decide) rfl (fun c2 => ?_) (fun c2 => ?_)
  · have h := h.1 c2
    refine vv_iconst (q := 26) X (0 : Int32) dX2_pickable_25 (by decide) rfl ?_
    exact vv_iret X hr dX2_pickable_26 ⟨h, rfl⟩
  · have h := h.2 c2
    refine vv_aload_n (q := 14) X 0 dX2_pickable_13 rfl rfl rfl ?_
    refine vv_getf (q := 17) (ref := "HalfLadders$Now") (C := RX2) (T := TX2) (N := 7) X a0 2 2 (isN_lt 0 ha0 (Nat.le_of_ble_eq_true rfl)) (e_isN (ad := ad) (cy := cy) ha0 _ _) rfl (Nat.le_of_ble_eq_true rfl) (fun _ h => List.mem_cons_of_mem _ (List.mem_append_left _ (List.mem_append_left _ (List.mem_append_right _ h)))) (List.mem_of_getElem? (i := 2) rfl) rfl rfl dX2_pickable_14 rfl ?_
    refine vv_iload (q := 19) X 4 dX2_pickable_17 rfl rfl ?_
    refine vv_ishr (q := 20) X dX2_pickable_19 rfl ?_
    refine vv_iconst (q := 21) X (1 : Int32) dX2_pickable_20 (by decide) rfl ?_
    refine vv_iand (q := 22) X dX2_pickable_21 rfl ?_
    refine vv_if_eq (q := 25) X 27 dX2_pickable_22 (by decide) rfl (fun c3 => ?_) (fun c3 => ?_)
    · have h := h.1 c3
      refine vv_aload_n (q := 28) X 0 dX2_pickable_27 rfl rfl rfl ?_
      refine vv_getf (q := 31) (ref := "HalfLadders$Now") (C := RX2) (T := TX2) (N := 7) X a0 2 1 (isN_lt 0 ha0 (Nat.le_of_ble_eq_true rfl)) (e_isN (ad := ad) (cy := cy) ha0 _ _) rfl (Nat.le_of_ble_eq_true rfl) (fun _ h => List.mem_cons_of_mem _ (List.mem_append_left _ (List.mem_append_left _ (List.mem_append_right _ h)))) (List.mem_of_getElem? (i := 3) rfl) rfl rfl dX2_pickable_28 rfl ?_
      refine vv_aload_n (q := 32) X 2 dX2_pickable_31 rfl rfl rfl ?_
      refine vv_getf (q := 35) (ref := "HalfLadders$Pairs") (C := RX4) (T := TX4) (N := 8) X 25 4 4 (Nat.le_of_ble_eq_true rfl) rfl rfl (Nat.le_of_ble_eq_true rfl) (fun _ h => List.mem_cons_of_mem _ (List.mem_append_left _ (List.mem_append_right _ h))) (List.mem_of_getElem? (i := 4) rfl) rfl rfl dX2_pickable_32 rfl ?_
      refine vv_iload_n (q := 36) X 3 dX2_pickable_35 rfl rfl rfl ?_
      obtain ⟨hin4, h⟩ := h
      refine vv_iald (q := 37) X 28 16 (Nat.le_of_ble_eq_true rfl) (fun _ => rfl) hin4 dX2_pickable_36 rfl ?_
      refine vv_iand (q := 38) X dX2_pickable_37 rfl ?_
      refine vv_if_ne (q := 41) X 57 dX2_pickable_38 (by decide) rfl (fun c5 => ?_) (fun c5 => ?_)
      · have h := h.1 c5
        refine vv_iconst (q := 58) X (0 : Int32) dX2_pickable_57 (by decide) rfl ?_
        exact vv_iret X hr dX2_pickable_58 ⟨h, rfl⟩
      · have h := h.2 c5
        refine vv_aload_n (q := 42) X 2 dX2_pickable_41 rfl rfl rfl ?_
        refine vv_getf (q := 45) (ref := "HalfLadders$Pairs") (C := RX4) (T := TX4) (N := 8) X 25 4 6 (Nat.le_of_ble_eq_true rfl) rfl rfl (Nat.le_of_ble_eq_true rfl) (fun _ h => List.mem_cons_of_mem _ (List.mem_append_left _ (List.mem_append_right _ h))) (List.mem_of_getElem? (i := 5) rfl) rfl rfl dX2_pickable_42 rfl ?_
        refine vv_iload_n (q := 46) X 3 dX2_pickable_45 rfl rfl rfl ?_
        obtain ⟨hin6, h⟩ := h
        refine vv_iald (q := 47) X 30 16 (Nat.le_of_ble_eq_true rfl) (fun _ => rfl) hin6 dX2_pickable_46 rfl ?_
        refine vv_aload_n (q := 48) X 1 dX2_pickable_47 rfl rfl rfl ?_
        refine vv_getf (q := 51) (ref := "HalfLadders$Orchard") (C := RX3) (T := TX3) (N := 10) X a1 3 7 (isO_lt 0 ha1 (Nat.le_of_ble_eq_true rfl)) (e_isO (ad := ad) (cy := cy) ha1 _ _) rfl (Nat.le_of_ble_eq_true rfl) (fun _ h => List.mem_cons_of_mem _ (List.mem_append_right _ h)) (List.mem_of_getElem? (i := 6) rfl) rfl rfl dX2_pickable_48 rfl ?_
        refine vv_iload (q := 53) X 4 dX2_pickable_51 rfl rfl ?_
        obtain ⟨hin7, h⟩ := h
        refine vv_iald (q := 54) X (a1 + 6) 5 (isO_lt 6 ha1 (Nat.le_of_ble_eq_true rfl)) (fun f => e_isO_6 (ad := ad) (cy := cy) ha1 f σ.2) hin7 dX2_pickable_53 rfl ?_
        refine vv_icmp_ge (q := 57) X 59 dX2_pickable_54 (by decide) rfl (fun c8 => ?_) (fun c8 => ?_)
        · have h := h.1 c8
          refine vv_aload_n (q := 60) X 2 dX2_pickable_59 rfl rfl rfl ?_
          refine vv_getf (q := 63) (ref := "HalfLadders$Pairs") (C := RX4) (T := TX4) (N := 8) X 25 4 7 (Nat.le_of_ble_eq_true rfl) rfl rfl (Nat.le_of_ble_eq_true rfl) (fun _ h => List.mem_cons_of_mem _ (List.mem_append_left _ (List.mem_append_right _ h))) (List.mem_of_getElem? (i := 7) rfl) rfl rfl dX2_pickable_60 rfl ?_
          refine vv_iload_n (q := 64) X 3 dX2_pickable_63 rfl rfl rfl ?_
          obtain ⟨hin9, h⟩ := h
          refine vv_iald (q := 65) X 31 16 (Nat.le_of_ble_eq_true rfl) (fun _ => rfl) hin9 dX2_pickable_64 rfl ?_
          refine vv_aload_n (q := 66) X 0 dX2_pickable_65 rfl rfl rfl ?_
          refine vv_getf (q := 69) (ref := "HalfLadders$Now") (C := RX2) (T := TX2) (N := 7) X a0 2 6 (isN_lt 0 ha0 (Nat.le_of_ble_eq_true rfl)) (e_isN (ad := ad) (cy := cy) ha0 _ _) rfl (Nat.le_of_ble_eq_true rfl) (fun _ h => List.mem_cons_of_mem _ (List.mem_append_left _ (List.mem_append_left _ (List.mem_append_right _ h)))) (List.mem_of_getElem? (i := 8) rfl) rfl rfl dX2_pickable_66 rfl ?_
          refine vv_iload (q := 71) X 4 dX2_pickable_69 rfl rfl ?_
          obtain ⟨hin10, h⟩ := h
          refine vv_iald (q := 72) X (a0 + 1) 5 (isN_lt 1 ha0 (Nat.le_of_ble_eq_true rfl)) (fun f => e_isN_1 (ad := ad) (cy := cy) ha0 f σ.2) hin10 dX2_pickable_71 rfl ?_
          refine vv_mmin (q := 75) X (List.mem_of_getElem? (i := 9) rfl) (List.mem_of_getElem? (i := 10) rfl) (List.mem_of_getElem? (i := 11) rfl) (List.mem_of_getElem? (i := 12) rfl) (Nat.le_of_ble_eq_true rfl) (Nat.le_of_ble_eq_true rfl) dX2_pickable_72 rfl ?_
          exact vv_iret X hr dX2_pickable_75 ⟨h, rfl⟩
        · have h := h.2 c8
          refine vv_iconst (q := 58) X (0 : Int32) dX2_pickable_57 (by decide) rfl ?_
          exact vv_iret X hr dX2_pickable_58 ⟨h, rfl⟩
    · have h := h.2 c3
      refine vv_iconst (q := 26) X (0 : Int32) dX2_pickable_25 (by decide) rfl ?_
      exact vv_iret X hr dX2_pickable_26 ⟨h, rfl⟩

/-! X2_pick: pick(III)V -/
def rmX2_pick : Room := { frames := 0, cells := 0, slots := 0, locals := 0 }
def wX2_pick (σ : St) (a0 : Nat) (a1 : Int32) (a2 : Int32) (a3 : Int32) (P : St → Prop) : Prop :=
isN a0 ∧
∀ σ1 : St, σ1 = sI σ a0 1 ((σ.1 a0 1) ||| a1) →
∀ σ2 : St, σ2 = sI σ1 a0 2 ((σ1.1 a0 2) ||| ((1 : Int32) <<< (a2 &&& 31))) →
vp_in a2 5 ∧
vp_in a2 5 ∧
∀ σ5 : St, σ5 = sI σ2 (a0 + 1) a2.toNatClampNeg ((σ2.1 (a0 + 1) a2.toNatClampNeg) - a3) →
∀ σ6 : St, σ6 = sI σ5 a0 3 ((σ5.1 a0 3) + a3) →
P σ6

set_option maxHeartbeats 8000000 in
set_option maxRecDepth 100000 in
theorem kX2_pick (l : Launch) (D : va_G) {cy : Nat → ClassId} {ad : Nat → Nat} {zb : Nat → Nat} (hw : xOk (wC ad cy zb)) {σ : St} {a0 : Nat} {a1 : Int32} {a2 : Int32} {a3 : Int32} {P : St → Prop} (h : wX2_pick σ a0 a1 a2 a3 P) : MV l yX2_pick wsX2_pick rmX2_pick D cy (wC ad cy zb) [.ref (ad a0), .int a1, .int a2, .int a3] σ P := by
  unfold MV
  refine vv_met (cc := cX2_pick) (maxL := 4) (ret := none) hw (by decide +kernel) rfl [.ref (ad a0), .int a1, .int a2, .int a3] (Nat.le_of_ble_eq_true rfl) ?_
  intro p e s m args below meth c X hr
  have X : XX p s m args meth c cX2_pick 4 D cy (wC ad cy zb) wsX2_pick RX2 := X
  refine vv_sub (lv' := [(0, .ref (ad a0)), (1, .int a1), (2, .int a2), (3, .int a3)]) [0, 1, 2, 3] rfl ?_
  rw [wX2_pick] at h
  obtain ⟨ha0, h⟩ := h
  refine vv_aload_n (q := 1) X 0 dX2_pick_0 rfl rfl rfl ?_
  refine vv_dup (q := 2) X dX2_pick_1 rfl rfl ?_
  refine vv_getf (q := 5) (ref := "HalfLadders$Now") (C := RX2) (T := TX2) (N := 7) X a0 2 1 (isN_lt 0 ha0 (Nat.le_of_ble_eq_true rfl)) (e_isN (ad := ad) (cy := cy) ha0 _ _) rfl (Nat.le_of_ble_eq_true rfl) (fun _ h => List.mem_cons_of_mem _ (List.mem_append_right _ h)) (List.mem_of_getElem? (i := 1) rfl) rfl rfl dX2_pick_2 rfl ?_
  refine vv_iload_n (q := 6) X 1 dX2_pick_5 rfl rfl rfl ?_
  refine vv_ior (q := 7) X dX2_pick_6 rfl ?_
  refine vv_putf (q := 10) (ref := "HalfLadders$Now") (C := RX2) (T := TX2) (N := 7) X a0 2 1 tyX2 tyX2_ok nmX2 (isN_lt 0 ha0 (Nat.le_of_ble_eq_true rfl)) (e_isN (ad := ad) (cy := cy) ha0 _ _) (e_isN (ad := ad) (cy := cy) ha0 _ _) rfl (Nat.le_of_ble_eq_true rfl) rfl (fun _ h => List.mem_cons_of_mem _ (List.mem_append_right _ h)) (List.mem_of_getElem? (i := 1) rfl) rfl rfl rfl dX2_pick_7 rfl ?_
  refine vv_nm (fun σ1 hσ1 => ?_)
  have h := h σ1 hσ1
  refine vv_aload_n (q := 11) X 0 dX2_pick_10 rfl rfl rfl ?_
  refine vv_dup (q := 12) X dX2_pick_11 rfl rfl ?_
  refine vv_getf (q := 15) (ref := "HalfLadders$Now") (C := RX2) (T := TX2) (N := 7) X a0 2 2 (isN_lt 0 ha0 (Nat.le_of_ble_eq_true rfl)) (e_isN (ad := ad) (cy := cy) ha0 _ _) rfl (Nat.le_of_ble_eq_true rfl) (fun _ h => List.mem_cons_of_mem _ (List.mem_append_right _ h)) (List.mem_of_getElem? (i := 2) rfl) rfl rfl dX2_pick_12 rfl ?_
  refine vv_iconst (q := 16) X (1 : Int32) dX2_pick_15 (by decide) rfl ?_
  refine vv_iload_n (q := 17) X 2 dX2_pick_16 rfl rfl rfl ?_
  refine vv_ishl (q := 18) X dX2_pick_17 rfl ?_
  refine vv_ior (q := 19) X dX2_pick_18 rfl ?_
  refine vv_putf (q := 22) (ref := "HalfLadders$Now") (C := RX2) (T := TX2) (N := 7) X a0 2 2 tyX2 tyX2_ok nmX2 (isN_lt 0 ha0 (Nat.le_of_ble_eq_true rfl)) (e_isN (ad := ad) (cy := cy) ha0 _ _) (e_isN (ad := ad) (cy := cy) ha0 _ _) rfl (Nat.le_of_ble_eq_true rfl) rfl (fun _ h => List.mem_cons_of_mem _ (List.mem_append_right _ h)) (List.mem_of_getElem? (i := 2) rfl) rfl rfl rfl dX2_pick_19 rfl ?_
  refine vv_nm (fun σ2 hσ2 => ?_)
  have h := h σ2 hσ2
  refine vv_aload_n (q := 23) X 0 dX2_pick_22 rfl rfl rfl ?_
  refine vv_getf (q := 26) (ref := "HalfLadders$Now") (C := RX2) (T := TX2) (N := 7) X a0 2 6 (isN_lt 0 ha0 (Nat.le_of_ble_eq_true rfl)) (e_isN (ad := ad) (cy := cy) ha0 _ _) rfl (Nat.le_of_ble_eq_true rfl) (fun _ h => List.mem_cons_of_mem _ (List.mem_append_right _ h)) (List.mem_of_getElem? (i := 3) rfl) rfl rfl dX2_pick_23 rfl ?_
  refine vv_iload_n (q := 27) X 2 dX2_pick_26 rfl rfl rfl ?_
  refine vv_dup2 (q := 28) X dX2_pick_27 rfl rfl rfl ?_
  obtain ⟨hin3, h⟩ := h
  refine vv_iald (q := 29) X (a0 + 1) 5 (isN_lt 1 ha0 (Nat.le_of_ble_eq_true rfl)) (fun f => e_isN_1 (ad := ad) (cy := cy) ha0 f σ2.2) hin3 dX2_pick_28 rfl ?_
  refine vv_iload_n (q := 30) X 3 dX2_pick_29 rfl rfl rfl ?_
  refine vv_isub (q := 31) X dX2_pick_30 rfl ?_
  obtain ⟨hin4, h⟩ := h
  refine vv_iast (q := 32) X (a0 + 1) 5 (isN_lt 1 ha0 (Nat.le_of_ble_eq_true rfl)) (fun f => e_isN_1 (ad := ad) (cy := cy) ha0 f σ2.2) hin4 dX2_pick_31 rfl ?_
  refine vv_nm (fun σ5 hσ5 => ?_)
  have h := h σ5 hσ5
  refine vv_aload_n (q := 33) X 0 dX2_pick_32 rfl rfl rfl ?_
  refine vv_dup (q := 34) X dX2_pick_33 rfl rfl ?_
  refine vv_getf (q := 37) (ref := "HalfLadders$Now") (C := RX2) (T := TX2) (N := 7) X a0 2 3 (isN_lt 0 ha0 (Nat.le_of_ble_eq_true rfl)) (e_isN (ad := ad) (cy := cy) ha0 _ _) rfl (Nat.le_of_ble_eq_true rfl) (fun _ h => List.mem_cons_of_mem _ (List.mem_append_right _ h)) (List.mem_of_getElem? (i := 4) rfl) rfl rfl dX2_pick_34 rfl ?_
  refine vv_iload_n (q := 38) X 3 dX2_pick_37 rfl rfl rfl ?_
  refine vv_iadd (q := 39) X dX2_pick_38 rfl ?_
  refine vv_putf (q := 42) (ref := "HalfLadders$Now") (C := RX2) (T := TX2) (N := 7) X a0 2 3 tyX2 tyX2_ok nmX2 (isN_lt 0 ha0 (Nat.le_of_ble_eq_true rfl)) (e_isN (ad := ad) (cy := cy) ha0 _ _) (e_isN (ad := ad) (cy := cy) ha0 _ _) rfl (Nat.le_of_ble_eq_true rfl) rfl (fun _ h => List.mem_cons_of_mem _ (List.mem_append_right _ h)) (List.mem_of_getElem? (i := 4) rfl) rfl rfl rfl dX2_pick_39 rfl ?_
  refine vv_nm (fun σ6 hσ6 => ?_)
  have h := h σ6 hσ6
  exact vv_vret X hr dX2_pick_42 h

/-! X2_endDay: endDay(LHalfLadders$Orchard;)I -/
def rmX2_endDay : Room := { frames := 0, cells := 0, slots := 0, locals := 0 }
def wLX2_endDay_24 (f0 : Nat) (f1 : Nat)  (K69 : St → Int32 → Prop) (P : Int32 → St → Prop) : Nat → St → Int32 → Int32 → Prop
  | 0, _, _, _ => False
  | n + 1, σ, x2, x3 =>
    ((σ.1 f1 1) ≤ x3 →
    K69 σ x2) ∧
    (¬ (σ.1 f1 1) ≤ x3 →
    vp_in x3 5 ∧
    ((σ.1 f0 0) ≤ ((σ.1 (f1 + 7) x3.toNatClampNeg) + (3 : Int32)) →
    ∀ z7 : Int32, z7 = x3 + (1 : Int32) →
    wLX2_endDay_24 f0 f1 K69 P n σ x2 z7) ∧
    (¬ (σ.1 f0 0) ≤ ((σ.1 (f1 + 7) x3.toNatClampNeg) + (3 : Int32)) →
    vp_in x3 5 ∧
    ∀ z9 : Int32, z9 = (x2 + (σ.1 (f0 + 1) x3.toNatClampNeg)) →
    vp_in x3 5 ∧
    ∀ σ11 : St, σ11 = sI σ (f0 + 1) x3.toNatClampNeg (0 : Int32) →
    ∀ z12 : Int32, z12 = x3 + (1 : Int32) →
    wLX2_endDay_24 f0 f1 K69 P n σ11 z9 z12))

set_option maxHeartbeats 4000000 in
set_option maxRecDepth 100000 in
theorem twLX2_endDay_24 {p : Program} {l : Launch} {e : Env} {s : State} {m : MethodId} {args : Array Value} {below : List Frame} {meth : Method} {c : Code} {D : va_G} {cy : Nat → ClassId} {ad : Nat → Nat} {zb : Nat → Nat} (X : XX p s m args meth c cX2_endDay 4 D cy (wC ad cy zb) wsX2_endDay RX2) (hr : meth.sig.returnType = (some .int)) (f0 : Nat) (f1 : Nat) (hf0 : isN f0) (hf1 : isO f1)  (K69 : St → Int32 → Prop) {P : Int32 → St → Prop} (hK69 : ∀ (σ : St) (x2 : Int32), K69 σ x2 → VV p l e rmX2_endDay s m args below meth c (MQ below (va_Qi P (xPost D (wC ad cy zb)) (xA (wC ad cy zb))) args s 0 0 (xA (wC ad cy zb))) 4 D (wC ad cy zb) σ 69 [(0, .ref (ad f0)), (2, .int x2)] []) : ∀ (n : Nat) (σ : St) (x2 : Int32) (x3 : Int32), wLX2_endDay_24 f0 f1 K69 P n σ x2 x3 → VV p l e rmX2_endDay s m args below meth c (MQ below (va_Qi P (xPost D (wC ad cy zb)) (xA (wC ad cy zb))) args s 0 0 (xA (wC ad cy zb))) 4 D (wC ad cy zb) σ 24 [(0, .ref (ad f0)), (1, .ref (ad f1)), (2, .int x2), (3, .int x3)] [] := by
  intro n
  induction n with
  | zero => intro σ x2 x3 h; exact h.elim
  | succ n ih =>
    intro σ x2 x3 h
    rw [wLX2_endDay_24] at h
    refine vv_iload_n (q := 25) X 3 dX2_endDay_24 rfl rfl rfl ?_
    refine vv_aload_n (q := 26) X 1 dX2_endDay_25 rfl rfl rfl ?_
    refine vv_getf (q := 29) (ref := "HalfLadders$Orchard") (C := RX3) (T := TX3) (N := 10) X f1 3 1 (isO_lt 0 hf1 (Nat.le_of_ble_eq_true rfl)) (e_isO (ad := ad) (cy := cy) hf1 _ _) rfl (Nat.le_of_ble_eq_true rfl) (fun _ h => List.mem_cons_of_mem _ (List.mem_append_right _ h)) (List.mem_of_getElem? (i := 4) rfl) rfl rfl dX2_endDay_26 rfl ?_
    refine vv_icmp_ge (q := 32) X 69 dX2_endDay_29 (by decide) rfl (fun c4 => ?_) (fun c4 => ?_)
    · have h := h.1 c4
      refine vv_sub (lv' := [(0, .ref (ad f0)), (2, .int x2)]) [0, 2] rfl ?_
      exact hK69 σ x2 h
    · have h := h.2 c4
      refine vv_aload_n (q := 33) X 0 dX2_endDay_32 rfl rfl rfl ?_
      refine vv_getf (q := 36) (ref := "HalfLadders$Now") (C := RX2) (T := TX2) (N := 7) X f0 2 0 (isN_lt 0 hf0 (Nat.le_of_ble_eq_true rfl)) (e_isN (ad := ad) (cy := cy) hf0 _ _) rfl (Nat.le_of_ble_eq_true rfl) (fun _ h => List.mem_cons_of_mem _ (List.mem_append_left _ (List.mem_append_right _ h))) (List.mem_of_getElem? (i := 1) rfl) rfl rfl dX2_endDay_33 rfl ?_
      refine vv_aload_n (q := 37) X 1 dX2_endDay_36 rfl rfl rfl ?_
      refine vv_getf (q := 40) (ref := "HalfLadders$Orchard") (C := RX3) (T := TX3) (N := 10) X f1 3 8 (isO_lt 0 hf1 (Nat.le_of_ble_eq_true rfl)) (e_isO (ad := ad) (cy := cy) hf1 _ _) rfl (Nat.le_of_ble_eq_true rfl) (fun _ h => List.mem_cons_of_mem _ (List.mem_append_right _ h)) (List.mem_of_getElem? (i := 5) rfl) rfl rfl dX2_endDay_37 rfl ?_
      refine vv_iload_n (q := 41) X 3 dX2_endDay_40 rfl rfl rfl ?_
      obtain ⟨hin5, h⟩ := h
      refine vv_iald (q := 42) X (f1 + 7) 5 (isO_lt 7 hf1 (Nat.le_of_ble_eq_true rfl)) (fun f => e_isO_7 (ad := ad) (cy := cy) hf1 f σ.2) hin5 dX2_endDay_41 rfl ?_
      refine vv_iconst (q := 43) X (3 : Int32) dX2_endDay_42 (by decide) rfl ?_
      refine vv_iadd (q := 44) X dX2_endDay_43 rfl ?_
      refine vv_icmp_le (q := 47) X 63 dX2_endDay_44 (by decide) rfl (fun c6 => ?_) (fun c6 => ?_)
      · have h := h.1 c6
        obtain ⟨z7, hz7⟩ : ∃ y : Int32, y = x3 + (1 : Int32) := ⟨_, rfl⟩
        have h := h z7 hz7
        refine vv_iinc (v := z7) (lv2 := [(3, .int z7), (0, .ref (ad f0)), (1, .ref (ad f1)), (2, .int x2)]) (q := 66) X 3 dX2_endDay_63 rfl (by rw [hz7]; rfl) (Nat.le_of_ble_eq_true rfl) rfl rfl ?_
        refine vv_goto X 24 dX2_endDay_66 (by decide) ?_
        refine vv_sub (lv' := [(0, .ref (ad f0)), (1, .ref (ad f1)), (2, .int x2), (3, .int z7)]) [1, 2, 3, 0] rfl ?_
        exact ih σ x2 z7 h
      · have h := h.2 c6
        refine vv_iload_n (q := 48) X 2 dX2_endDay_47 rfl rfl rfl ?_
        refine vv_aload_n (q := 49) X 0 dX2_endDay_48 rfl rfl rfl ?_
        refine vv_getf (q := 52) (ref := "HalfLadders$Now") (C := RX2) (T := TX2) (N := 7) X f0 2 6 (isN_lt 0 hf0 (Nat.le_of_ble_eq_true rfl)) (e_isN (ad := ad) (cy := cy) hf0 _ _) rfl (Nat.le_of_ble_eq_true rfl) (fun _ h => List.mem_cons_of_mem _ (List.mem_append_left _ (List.mem_append_right _ h))) (List.mem_of_getElem? (i := 6) rfl) rfl rfl dX2_endDay_49 rfl ?_
        refine vv_iload_n (q := 53) X 3 dX2_endDay_52 rfl rfl rfl ?_
        obtain ⟨hin8, h⟩ := h
        refine vv_iald (q := 54) X (f0 + 1) 5 (isN_lt 1 hf0 (Nat.le_of_ble_eq_true rfl)) (fun f => e_isN_1 (ad := ad) (cy := cy) hf0 f σ.2) hin8 dX2_endDay_53 rfl ?_
        refine vv_iadd (q := 55) X dX2_endDay_54 rfl ?_
        refine vv_topi (fun z9 hz9 => ?_)
        have h := h z9 hz9
        refine vv_istore_n (lv2 := [(2, .int z9), (0, .ref (ad f0)), (1, .ref (ad f1)), (3, .int x3)]) (q := 56) X dX2_endDay_55 rfl (Nat.le_of_ble_eq_true rfl) rfl rfl ?_
        refine vv_aload_n (q := 57) X 1 dX2_endDay_56 rfl rfl rfl ?_
        refine vv_getf (q := 60) (ref := "HalfLadders$Now") (C := RX2) (T := TX2) (N := 7) X f0 2 6 (isN_lt 0 hf0 (Nat.le_of_ble_eq_true rfl)) (e_isN (ad := ad) (cy := cy) hf0 _ _) rfl (Nat.le_of_ble_eq_true rfl) (fun _ h => List.mem_cons_of_mem _ (List.mem_append_left _ (List.mem_append_right _ h))) (List.mem_of_getElem? (i := 6) rfl) rfl rfl dX2_endDay_57 rfl ?_
        refine vv_iload_n (q := 61) X 3 dX2_endDay_60 rfl rfl rfl ?_
        refine vv_iconst (q := 62) X (0 : Int32) dX2_endDay_61 (by decide) rfl ?_
        obtain ⟨hin10, h⟩ := h
        refine vv_iast (q := 63) X (f0 + 1) 5 (isN_lt 1 hf0 (Nat.le_of_ble_eq_true rfl)) (fun f => e_isN_1 (ad := ad) (cy := cy) hf0 f σ.2) hin10 dX2_endDay_62 rfl ?_
        refine vv_nm (fun σ11 hσ11 => ?_)
        have h := h σ11 hσ11
        obtain ⟨z12, hz12⟩ : ∃ y : Int32, y = x3 + (1 : Int32) := ⟨_, rfl⟩
        have h := h z12 hz12
        refine vv_iinc (v := z12) (lv2 := [(3, .int z12), (2, .int z9), (0, .ref (ad f0)), (1, .ref (ad f1))]) (q := 66) X 3 dX2_endDay_63 rfl (by rw [hz12]; rfl) (Nat.le_of_ble_eq_true rfl) rfl rfl ?_
        refine vv_goto X 24 dX2_endDay_66 (by decide) ?_
        refine vv_sub (lv' := [(0, .ref (ad f0)), (1, .ref (ad f1)), (2, .int z9), (3, .int z12)]) [2, 3, 1, 0] rfl ?_
        exact ih σ11 z9 z12 h

def wX2_endDay (σ : St) (a0 : Nat) (a1 : Nat) (P : Int32 → St → Prop) : Prop :=
isN a0 ∧
isO a1 ∧
∀ σ1 : St, σ1 = sI σ a0 0 ((σ.1 a0 0) + (1 : Int32)) →
∀ σ2 : St, σ2 = sI σ1 a0 1 (0 : Int32) →
∀ σ3 : St, σ3 = sI σ2 a0 2 (0 : Int32) →
∃ n16 : Nat, wLX2_endDay_24 a0 a1 (fun (σ14 : St) (y13 : Int32) =>
∀ σ15 : St, σ15 = sI σ14 a0 4 ((σ14.1 a0 4) + y13) →
P y13 σ15) P n16 σ3 (0 : Int32) (0 : Int32)

set_option maxHeartbeats 8000000 in
set_option maxRecDepth 100000 in
theorem kX2_endDay (l : Launch) (D : va_G) {cy : Nat → ClassId} {ad : Nat → Nat} {zb : Nat → Nat} (hw : xOk (wC ad cy zb)) {σ : St} {a0 : Nat} {a1 : Nat} {P : Int32 → St → Prop} (h : wX2_endDay σ a0 a1 P) : MI l yX2_endDay wsX2_endDay rmX2_endDay D cy (wC ad cy zb) [.ref (ad a0), .ref (ad a1)] σ P := by
  unfold MI
  refine vv_met (cc := cX2_endDay) (maxL := 4) (ret := (some .int)) hw (by decide +kernel) rfl [.ref (ad a0), .ref (ad a1)] (Nat.le_of_ble_eq_true rfl) ?_
  intro p e s m args below meth c X hr
  have X : XX p s m args meth c cX2_endDay 4 D cy (wC ad cy zb) wsX2_endDay RX2 := X
  refine vv_sub (lv' := [(0, .ref (ad a0)), (1, .ref (ad a1))]) [0, 1] rfl ?_
  rw [wX2_endDay] at h
  obtain ⟨ha0, h⟩ := h
  obtain ⟨ha1, h⟩ := h
  refine vv_aload_n (q := 1) X 0 dX2_endDay_0 rfl rfl rfl ?_
  refine vv_dup (q := 2) X dX2_endDay_1 rfl rfl ?_
  refine vv_getf (q := 5) (ref := "HalfLadders$Now") (C := RX2) (T := TX2) (N := 7) X a0 2 0 (isN_lt 0 ha0 (Nat.le_of_ble_eq_true rfl)) (e_isN (ad := ad) (cy := cy) ha0 _ _) rfl (Nat.le_of_ble_eq_true rfl) (fun _ h => List.mem_cons_of_mem _ (List.mem_append_left _ (List.mem_append_right _ h))) (List.mem_of_getElem? (i := 1) rfl) rfl rfl dX2_endDay_2 rfl ?_
  refine vv_iconst (q := 6) X (1 : Int32) dX2_endDay_5 (by decide) rfl ?_
  refine vv_iadd (q := 7) X dX2_endDay_6 rfl ?_
  refine vv_putf (q := 10) (ref := "HalfLadders$Now") (C := RX2) (T := TX2) (N := 7) X a0 2 0 tyX2 tyX2_ok nmX2 (isN_lt 0 ha0 (Nat.le_of_ble_eq_true rfl)) (e_isN (ad := ad) (cy := cy) ha0 _ _) (e_isN (ad := ad) (cy := cy) ha0 _ _) rfl (Nat.le_of_ble_eq_true rfl) rfl (fun _ h => List.mem_cons_of_mem _ (List.mem_append_left _ (List.mem_append_right _ h))) (List.mem_of_getElem? (i := 1) rfl) rfl rfl rfl dX2_endDay_7 rfl ?_
  refine vv_nm (fun σ1 hσ1 => ?_)
  have h := h σ1 hσ1
  refine vv_aload_n (q := 11) X 0 dX2_endDay_10 rfl rfl rfl ?_
  refine vv_iconst (q := 12) X (0 : Int32) dX2_endDay_11 (by decide) rfl ?_
  refine vv_putf (q := 15) (ref := "HalfLadders$Now") (C := RX2) (T := TX2) (N := 7) X a0 2 1 tyX2 tyX2_ok nmX2 (isN_lt 0 ha0 (Nat.le_of_ble_eq_true rfl)) (e_isN (ad := ad) (cy := cy) ha0 _ _) (e_isN (ad := ad) (cy := cy) ha0 _ _) rfl (Nat.le_of_ble_eq_true rfl) rfl (fun _ h => List.mem_cons_of_mem _ (List.mem_append_left _ (List.mem_append_right _ h))) (List.mem_of_getElem? (i := 2) rfl) rfl rfl rfl dX2_endDay_12 rfl ?_
  refine vv_nm (fun σ2 hσ2 => ?_)
  have h := h σ2 hσ2
  refine vv_aload_n (q := 16) X 0 dX2_endDay_15 rfl rfl rfl ?_
  refine vv_iconst (q := 17) X (0 : Int32) dX2_endDay_16 (by decide) rfl ?_
  refine vv_putf (q := 20) (ref := "HalfLadders$Now") (C := RX2) (T := TX2) (N := 7) X a0 2 2 tyX2 tyX2_ok nmX2 (isN_lt 0 ha0 (Nat.le_of_ble_eq_true rfl)) (e_isN (ad := ad) (cy := cy) ha0 _ _) (e_isN (ad := ad) (cy := cy) ha0 _ _) rfl (Nat.le_of_ble_eq_true rfl) rfl (fun _ h => List.mem_cons_of_mem _ (List.mem_append_left _ (List.mem_append_right _ h))) (List.mem_of_getElem? (i := 3) rfl) rfl rfl rfl dX2_endDay_17 rfl ?_
  refine vv_nm (fun σ3 hσ3 => ?_)
  have h := h σ3 hσ3
  refine vv_iconst (q := 21) X (0 : Int32) dX2_endDay_20 (by decide) rfl ?_
  refine vv_istore_n (lv2 := [(2, .int (0 : Int32)), (0, .ref (ad a0)), (1, .ref (ad a1))]) (q := 22) X dX2_endDay_21 rfl (Nat.le_of_ble_eq_true rfl) rfl rfl ?_
  refine vv_iconst (q := 23) X (0 : Int32) dX2_endDay_22 (by decide) rfl ?_
  refine vv_istore_n (lv2 := [(3, .int (0 : Int32)), (2, .int (0 : Int32)), (0, .ref (ad a0)), (1, .ref (ad a1))]) (q := 24) X dX2_endDay_23 rfl (Nat.le_of_ble_eq_true rfl) rfl rfl ?_
  obtain ⟨n16, h⟩ := h
  refine vv_sub (lv' := [(0, .ref (ad a0)), (1, .ref (ad a1)), (2, .int (0 : Int32)), (3, .int (0 : Int32))]) [2, 3, 1, 0] rfl ?_
  refine twLX2_endDay_24 X hr a0 a1 ha0 ha1 _ ?_ n16 σ3 (0 : Int32) (0 : Int32) h
  intro σ14 y13 h
  refine vv_aload_n (q := 70) X 0 dX2_endDay_69 rfl rfl rfl ?_
  refine vv_dup (q := 71) X dX2_endDay_70 rfl rfl ?_
  refine vv_getf (q := 74) (ref := "HalfLadders$Now") (C := RX2) (T := TX2) (N := 7) X a0 2 4 (isN_lt 0 ha0 (Nat.le_of_ble_eq_true rfl)) (e_isN (ad := ad) (cy := cy) ha0 _ _) rfl (Nat.le_of_ble_eq_true rfl) (fun _ h => List.mem_cons_of_mem _ (List.mem_append_left _ (List.mem_append_right _ h))) (List.mem_of_getElem? (i := 7) rfl) rfl rfl dX2_endDay_71 rfl ?_
  refine vv_iload_n (q := 75) X 1 dX2_endDay_74 rfl rfl rfl ?_
  refine vv_iadd (q := 76) X dX2_endDay_75 rfl ?_
  refine vv_putf (q := 79) (ref := "HalfLadders$Now") (C := RX2) (T := TX2) (N := 7) X a0 2 4 tyX2 tyX2_ok nmX2 (isN_lt 0 ha0 (Nat.le_of_ble_eq_true rfl)) (e_isN (ad := ad) (cy := cy) ha0 _ _) (e_isN (ad := ad) (cy := cy) ha0 _ _) rfl (Nat.le_of_ble_eq_true rfl) rfl (fun _ h => List.mem_cons_of_mem _ (List.mem_append_left _ (List.mem_append_right _ h))) (List.mem_of_getElem? (i := 7) rfl) rfl rfl rfl dX2_endDay_76 rfl ?_
  refine vv_nm (fun σ15 hσ15 => ?_)
  have h := h σ15 hσ15
  refine vv_iload_n (q := 80) X 1 dX2_endDay_79 rfl rfl rfl ?_
  exact vv_iret X hr dX2_endDay_80 h

