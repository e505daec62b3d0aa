/-! X6_look: look()V -/
def rmX6_look : Room := { frames := 1, cells := 0, slots := 0, locals := 21 }
def wX6_look (σ : St)  (P : St → Prop) : Prop :=
∀ σ1 : St, σ1 = sI σ 6 1 (if (300 : Int32) < (σ.1 6 1) then (300 : Int32) else (σ.1 6 1)) →
vp_in (σ1.1 6 1) 301 ∧
∀ σ3 : St, σ3 = sI σ1 6 2 (σ1.1 3 (σ1.1 6 1).toNatClampNeg) →
vp_in (σ3.1 6 1) 301 ∧
∀ σ5 : St, σ5 = sI σ3 6 3 (σ3.1 5 (σ3.1 6 1).toNatClampNeg) →
P σ5

set_option maxHeartbeats 8000000 in
set_option maxRecDepth 100000 in
theorem kX6_look (l : Launch) (D : va_G) {cy : Nat → ClassId} {ad : Nat → Nat} {zb : Nat → Nat} (hw : xOk (wC ad cy zb)) {σ : St}  {P : St → Prop} (h : wX6_look σ  P) : MV l yX6_look wsX6_look rmX6_look D cy (wC ad cy zb) [.ref (ad 6)] σ P := by
  unfold MV
  refine vv_met (cc := cX6_look) (maxL := 1) (ret := none) hw (by decide +kernel) rfl [.ref (ad 6)] (Nat.le_of_ble_eq_true rfl) ?_
  intro p e s m args below meth c X hr
  have X : XX p s m args meth c cX6_look 1 D cy (wC ad cy zb) wsX6_look RX6 := X
  refine vv_sub (lv' := [(0, .ref (ad 6))]) [0] rfl ?_
  rw [wX6_look] at h
  refine vv_aload_n (q := 1) X 0 dX6_look_0 rfl rfl rfl ?_
  refine vv_aload_n (q := 2) X 0 dX6_look_1 rfl rfl rfl ?_
  refine vv_getf (q := 5) (ref := "HalfLadders$Reader") (C := RX6) (T := TX6) (N := 4) X 6 6 1 (Nat.le_of_ble_eq_true rfl) rfl rfl (Nat.le_of_ble_eq_true rfl) (fun _ h => List.mem_cons_of_mem _ (List.mem_append_left _ (List.mem_append_right _ h))) (List.mem_of_getElem? (i := 1) rfl) rfl rfl dX6_look_2 rfl ?_
  refine vv_sipush (q := 8) X (300 : Int32) dX6_look_5 (by decide) rfl ?_
  refine vv_mmin (q := 11) X (List.mem_of_getElem? (i := 2) rfl) (List.mem_of_getElem? (i := 3) rfl) (List.mem_of_getElem? (i := 4) rfl) (List.mem_of_getElem? (i := 5) rfl) (Nat.le_of_ble_eq_true rfl) (Nat.le_of_ble_eq_true rfl) dX6_look_8 rfl ?_
  refine vv_putf (q := 14) (ref := "HalfLadders$Reader") (C := RX6) (T := TX6) (N := 4) X 6 6 1 tyX6 tyX6_ok nmX6 (Nat.le_of_ble_eq_true rfl) rfl rfl rfl (Nat.le_of_ble_eq_true rfl) rfl (fun _ h => List.mem_cons_of_mem _ (List.mem_append_left _ (List.mem_append_right _ h))) (List.mem_of_getElem? (i := 1) rfl) rfl rfl rfl dX6_look_11 rfl ?_
  refine vv_nm (fun σ1 hσ1 => ?_)
  have h := h σ1 hσ1
  refine vv_aload_n (q := 15) X 0 dX6_look_14 rfl rfl rfl ?_
  refine vv_aload_n (q := 16) X 0 dX6_look_15 rfl rfl rfl ?_
  refine vv_getf (q := 19) (ref := "HalfLadders$Reader") (C := RX6) (T := TX6) (N := 4) X 6 6 0 (Nat.le_of_ble_eq_true rfl) rfl rfl (Nat.le_of_ble_eq_true rfl) (fun _ h => List.mem_cons_of_mem _ (List.mem_append_left _ (List.mem_append_right _ h))) (List.mem_of_getElem? (i := 6) rfl) rfl rfl dX6_look_16 rfl ?_
  refine vv_getf (q := 22) (ref := "HalfLadders$Text") (C := RX8) (T := TX8) (N := 5) X 1 8 2 (Nat.le_of_ble_eq_true rfl) rfl rfl (Nat.le_of_ble_eq_true rfl) (fun _ h => List.mem_cons_of_mem _ (List.mem_append_right _ h)) (List.mem_of_getElem? (i := 7) rfl) rfl rfl dX6_look_19 rfl ?_
  refine vv_aload_n (q := 23) X 0 dX6_look_22 rfl rfl rfl ?_
  refine vv_getf (q := 26) (ref := "HalfLadders$Reader") (C := RX6) (T := TX6) (N := 4) X 6 6 1 (Nat.le_of_ble_eq_true rfl) rfl rfl (Nat.le_of_ble_eq_true rfl) (fun _ h => List.mem_cons_of_mem _ (List.mem_append_left _ (List.mem_append_right _ h))) (List.mem_of_getElem? (i := 1) rfl) rfl rfl dX6_look_23 rfl ?_
  obtain ⟨hin2, h⟩ := h
  refine vv_iald (q := 27) X 3 301 (Nat.le_of_ble_eq_true rfl) (fun _ => rfl) hin2 dX6_look_26 rfl ?_
  refine vv_putf (q := 30) (ref := "HalfLadders$Reader") (C := RX6) (T := TX6) (N := 4) X 6 6 2 tyX6 tyX6_ok nmX6 (Nat.le_of_ble_eq_true rfl) rfl rfl rfl (Nat.le_of_ble_eq_true rfl) rfl (fun _ h => List.mem_cons_of_mem _ (List.mem_append_left _ (List.mem_append_right _ h))) (List.mem_of_getElem? (i := 8) rfl) rfl rfl rfl dX6_look_27 rfl ?_
  refine vv_nm (fun σ3 hσ3 => ?_)
  have h := h σ3 hσ3
  refine vv_aload_n (q := 31) X 0 dX6_look_30 rfl rfl rfl ?_
  refine vv_aload_n (q := 32) X 0 dX6_look_31 rfl rfl rfl ?_
  refine vv_getf (q := 35) (ref := "HalfLadders$Reader") (C := RX6) (T := TX6) (N := 4) X 6 6 0 (Nat.le_of_ble_eq_true rfl) rfl rfl (Nat.le_of_ble_eq_true rfl) (fun _ h => List.mem_cons_of_mem _ (List.mem_append_left _ (List.mem_append_right _ h))) (List.mem_of_getElem? (i := 6) rfl) rfl rfl dX6_look_32 rfl ?_
  refine vv_getf (q := 38) (ref := "HalfLadders$Text") (C := RX8) (T := TX8) (N := 5) X 1 8 4 (Nat.le_of_ble_eq_true rfl) rfl rfl (Nat.le_of_ble_eq_true rfl) (fun _ h => List.mem_cons_of_mem _ (List.mem_append_right _ h)) (List.mem_of_getElem? (i := 9) rfl) rfl rfl dX6_look_35 rfl ?_
  refine vv_aload_n (q := 39) X 0 dX6_look_38 rfl rfl rfl ?_
  refine vv_getf (q := 42) (ref := "HalfLadders$Reader") (C := RX6) (T := TX6) (N := 4) X 6 6 1 (Nat.le_of_ble_eq_true rfl) rfl rfl (Nat.le_of_ble_eq_true rfl) (fun _ h => List.mem_cons_of_mem _ (List.mem_append_left _ (List.mem_append_right _ h))) (List.mem_of_getElem? (i := 1) rfl) rfl rfl dX6_look_39 rfl ?_
  obtain ⟨hin4, h⟩ := h
  refine vv_iald (q := 43) X 5 301 (Nat.le_of_ble_eq_true rfl) (fun _ => rfl) hin4 dX6_look_42 rfl ?_
  refine vv_putf (q := 46) (ref := "HalfLadders$Reader") (C := RX6) (T := TX6) (N := 4) X 6 6 3 tyX6 tyX6_ok nmX6 (Nat.le_of_ble_eq_true rfl) rfl rfl rfl (Nat.le_of_ble_eq_true rfl) rfl (fun _ h => List.mem_cons_of_mem _ (List.mem_append_left _ (List.mem_append_right _ h))) (List.mem_of_getElem? (i := 10) rfl) rfl rfl rfl dX6_look_43 rfl ?_
  refine vv_nm (fun σ5 hσ5 => ?_)
  have h := h σ5 hσ5
  exact vv_vret X hr dX6_look_46 h

/-! X6_advance: advance()V -/
def rmX6_advance : Room := { frames := 2, cells := 0, slots := 0, locals := 41 }
def wX6_advance (σ : St)  (P : St → Prop) : Prop :=
∀ σ1 : St, σ1 = sI σ 6 1 ((σ.1 6 1) + (1 : Int32)) →
wX6_look σ1  (fun σ2 : St =>
P σ2)

set_option maxHeartbeats 8000000 in
set_option maxRecDepth 100000 in
theorem kX6_advance (l : Launch) (D : va_G) {cy : Nat → ClassId} {ad : Nat → Nat} {zb : Nat → Nat} (hw : xOk (wC ad cy zb)) {σ : St}  {P : St → Prop} (h : wX6_advance σ  P) : MV l yX6_advance wsX6_advance rmX6_advance D cy (wC ad cy zb) [.ref (ad 6)] σ P := by
  unfold MV
  refine vv_met (cc := cX6_advance) (maxL := 1) (ret := none) hw (by decide +kernel) rfl [.ref (ad 6)] (Nat.le_of_ble_eq_true rfl) ?_
  intro p e s m args below meth c X hr
  have X : XX p s m args meth c cX6_advance 1 D cy (wC ad cy zb) wsX6_advance RX6 := X
  refine vv_sub (lv' := [(0, .ref (ad 6))]) [0] rfl ?_
  rw [wX6_advance] at h
  refine vv_aload_n (q := 1) X 0 dX6_advance_0 rfl rfl rfl ?_
  refine vv_dup (q := 2) X dX6_advance_1 rfl rfl ?_
  refine vv_getf (q := 5) (ref := "HalfLadders$Reader") (C := RX6) (T := TX6) (N := 4) X 6 6 1 (Nat.le_of_ble_eq_true rfl) rfl rfl (Nat.le_of_ble_eq_true rfl) (fun _ h => List.mem_cons_of_mem _ (List.mem_append_left _ (List.mem_append_right _ h))) (List.mem_of_getElem? (i := 1) rfl) rfl rfl dX6_advance_2 rfl ?_
  refine vv_iconst (q := 6) X (1 : Int32) dX6_advance_5 (by decide) rfl ?_
  refine vv_iadd (q := 7) X dX6_advance_6 rfl ?_
  refine vv_putf (q := 10) (ref := "HalfLadders$Reader") (C := RX6) (T := TX6) (N := 4) X 6 6 1 tyX6 tyX6_ok nmX6 (Nat.le_of_ble_eq_true rfl) rfl rfl rfl (Nat.le_of_ble_eq_true rfl) rfl (fun _ h => List.mem_cons_of_mem _ (List.mem_append_left _ (List.mem_append_right _ h))) (List.mem_of_getElem? (i := 1) rfl) rfl rfl rfl dX6_advance_7 rfl ?_
  refine vv_nm (fun σ1 hσ1 => ?_)
  have h := h σ1 hσ1
  refine vv_aload_n (q := 11) X 0 dX6_advance_10 rfl rfl rfl ?_
  refine vv_cVv (q := 14) (C := RX6) X 6 6 [] (kX6_look l D X.2.2.1 h) (cwV 0 X.1.2.2.2.2 gX6_advance_X6_look rfl rfl rfl (by decide +kernel) ⟨Nat.le_of_ble_eq_true rfl, Nat.le_of_ble_eq_true rfl⟩) (Nat.le_of_ble_eq_true rfl) rfl rfl rfl rfl (Nat.le_of_ble_eq_true rfl) dX6_advance_11 rfl (fun σ2 h => ?_)
  exact vv_vret X hr dX6_advance_14 h

/-! X6_readNumber: readNumber(II)Z -/
def rmX6_readNumber : Room := { frames := 3, cells := 0, slots := 0, locals := 61 }
def wX6_readNumber (σ : St) (a1 : Int32) (a2 : Int32) (P : Int32 → St → Prop) : Prop :=
wX6_advance σ  (fun σ1 : St =>
(¬ (σ1.1 6 2) = (4 : Int32) →
P (0 : Int32) σ1) ∧
((σ1.1 6 2) = (4 : Int32) →
((σ1.1 6 3) < a1 →
P (0 : Int32) σ1) ∧
(¬ (σ1.1 6 3) < a1 →
(a2 < (σ1.1 6 3) →
P (0 : Int32) σ1) ∧
(¬ a2 < (σ1.1 6 3) →
P (1 : Int32) σ1))))

set_option maxHeartbeats 8000000 in
set_option maxRecDepth 100000 in
theorem kX6_readNumber (l : Launch) (D : va_G) {cy : Nat → ClassId} {ad : Nat → Nat} {zb : Nat → Nat} (hw : xOk (wC ad cy zb)) {σ : St} {a1 : Int32} {a2 : Int32} {P : Int32 → St → Prop} (h : wX6_readNumber σ a1 a2 P) : MI l yX6_readNumber wsX6_readNumber rmX6_readNumber D cy (wC ad cy zb) [.ref (ad 6), .int a1, .int a2] σ P := by
  unfold MI
  refine vv_met (cc := cX6_readNumber) (maxL := 3) (ret := (some .boolean)) hw (by decide +kernel) rfl [.ref (ad 6), .int a1, .int a2] (Nat.le_of_ble_eq_true rfl) ?_
  intro p e s m args below meth c X hr
  have X : XX p s m args meth c cX6_readNumber 3 D cy (wC ad cy zb) wsX6_readNumber RX6 := X
  refine vv_sub (lv' := [(0, .ref (ad 6)), (1, .int a1), (2, .int a2)]) [0, 1, 2] rfl ?_
  rw [wX6_readNumber] at h
  refine vv_aload_n (q := 1) X 0 dX6_readNumber_0 rfl rfl rfl ?_
  refine vv_cVv (q := 4) (C := RX6) X 6 6 [] (kX6_advance l D X.2.2.1 h) (cwV 0 X.1.2.2.2.2 gX6_readNumber_X6_advance rfl rfl rfl (by decide +kernel) ⟨Nat.le_of_ble_eq_true rfl, Nat.le_of_ble_eq_true rfl⟩) (Nat.le_of_ble_eq_true rfl) rfl rfl rfl rfl (Nat.le_of_ble_eq_true rfl) dX6_readNumber_1 rfl (fun σ1 h => ?_)
  refine vv_aload_n (q := 5) X 0 dX6_readNumber_4 rfl rfl rfl ?_
  refine vv_getf (q := 8) (ref := "HalfLadders$Reader") (C := RX6) (T := TX6) (N := 4) X 6 6 2 (Nat.le_of_ble_eq_true rfl) rfl rfl (Nat.le_of_ble_eq_true rfl) (fun _ h => List.mem_cons_of_mem _ (List.mem_append_left _ (List.mem_append_right _ h))) (List.mem_of_getElem? (i := 1) rfl) rfl rfl dX6_readNumber_5 rfl ?_
  refine vv_iconst (q := 9) X (4 : Int32) dX6_readNumber_8 (by decide) rfl ?_
  refine vv_icmp_ne (q := 12) X 32 dX6_readNumber_9 (by decide) rfl (fun c2 => ?_) (fun c2 => ?_)
  · have h := h.1 c2
    refine vv_iconst (q := 33) X (0 : Int32) dX6_readNumber_32 (by decide) rfl ?_
    exact vv_zret X hr rfl dX6_readNumber_33 h
  · have h := h.2 c2
    refine vv_aload_n (q := 13) X 0 dX6_readNumber_12 rfl rfl rfl ?_
    refine vv_getf (q := 16) (ref := "HalfLadders$Reader") (C := RX6) (T := TX6) (N := 4) X 6 6 3 (Nat.le_of_ble_eq_true rfl) rfl rfl (Nat.le_of_ble_eq_true rfl) (fun _ h => List.mem_cons_of_mem _ (List.mem_append_left _ (List.mem_append_right _ h))) (List.mem_of_getElem? (i := 2) rfl) rfl rfl dX6_readNumber_13 rfl ?_
    refine vv_iload_n (q := 17) X 1 dX6_readNumber_16 rfl rfl rfl ?_
    refine vv_icmp_lt (q := 20) X 32 dX6_readNumber_17 (by decide) rfl (fun c3 => ?_) (fun c3 => ?_)
    · have h := h.1 c3
      refine vv_iconst (q := 33) X (0 : Int32) dX6_readNumber_32 (by decide) rfl ?_
      exact vv_zret X hr rfl dX6_readNumber_33 h
    · have h := h.2 c3
      refine vv_aload_n (q := 21) X 0 dX6_readNumber_20 rfl rfl rfl ?_
      refine vv_getf (q := 24) (ref := "HalfLadders$Reader") (C := RX6) (T := TX6) (N := 4) X 6 6 3 (Nat.le_of_ble_eq_true rfl) rfl rfl (Nat.le_of_ble_eq_true rfl) (fun _ h => List.mem_cons_of_mem _ (List.mem_append_left _ (List.mem_append_right _ h))) (List.mem_of_getElem? (i := 2) rfl) rfl rfl dX6_readNumber_21 rfl ?_
      refine vv_iload_n (q := 25) X 2 dX6_readNumber_24 rfl rfl rfl ?_
      refine vv_icmp_gt (q := 28) X 32 dX6_readNumber_25 (by decide) rfl (fun c4 => ?_) (fun c4 => ?_)
      · have h := h.1 c4
        refine vv_iconst (q := 33) X (0 : Int32) dX6_readNumber_32 (by decide) rfl ?_
        exact vv_zret X hr rfl dX6_readNumber_33 h
      · have h := h.2 c4
        refine vv_iconst (q := 29) X (1 : Int32) dX6_readNumber_28 (by decide) rfl ?_
        refine vv_goto X 33 dX6_readNumber_29 (by decide) ?_
        exact vv_zret X hr rfl dX6_readNumber_33 h

/-! X6_readSemicolon: readSemicolon()Z -/
def rmX6_readSemicolon : Room := { frames := 3, cells := 0, slots := 0, locals := 61 }
def wX6_readSemicolon (σ : St)  (P : Int32 → St → Prop) : Prop :=
wX6_advance σ  (fun σ1 : St =>
(¬ (σ1.1 6 2) = (5 : Int32) →
P (0 : Int32) σ1) ∧
((σ1.1 6 2) = (5 : Int32) →
P (1 : Int32) σ1))

set_option maxHeartbeats 8000000 in
set_option maxRecDepth 100000 in
theorem kX6_readSemicolon (l : Launch) (D : va_G) {cy : Nat → ClassId} {ad : Nat → Nat} {zb : Nat → Nat} (hw : xOk (wC ad cy zb)) {σ : St}  {P : Int32 → St → Prop} (h : wX6_readSemicolon σ  P) : MI l yX6_readSemicolon wsX6_readSemicolon rmX6_readSemicolon D cy (wC ad cy zb) [.ref (ad 6)] σ P := by
  unfold MI
  refine vv_met (cc := cX6_readSemicolon) (maxL := 1) (ret := (some .boolean)) hw (by decide +kernel) rfl [.ref (ad 6)] (Nat.le_of_ble_eq_true rfl) ?_
  intro p e s m args below meth c X hr
  have X : XX p s m args meth c cX6_readSemicolon 1 D cy (wC ad cy zb) wsX6_readSemicolon RX6 := X
  refine vv_sub (lv' := [(0, .ref (ad 6))]) [0] rfl ?_
  rw [wX6_readSemicolon] at h
  refine vv_aload_n (q := 1) X 0 dX6_readSemicolon_0 rfl rfl rfl ?_
  refine vv_cVv (q := 4) (C := RX6) X 6 6 [] (kX6_advance l D X.2.2.1 h) (cwV 0 X.1.2.2.2.2 gX6_readSemicolon_X6_advance rfl rfl rfl (by decide +kernel) ⟨Nat.le_of_ble_eq_true rfl, Nat.le_of_ble_eq_true rfl⟩) (Nat.le_of_ble_eq_true rfl) rfl rfl rfl rfl (Nat.le_of_ble_eq_true rfl) dX6_readSemicolon_1 rfl (fun σ1 h => ?_)
  refine vv_aload_n (q := 5) X 0 dX6_readSemicolon_4 rfl rfl rfl ?_
  refine vv_getf (q := 8) (ref := "HalfLadders$Reader") (C := RX6) (T := TX6) (N := 4) X 6 6 2 (Nat.le_of_ble_eq_true rfl) rfl rfl (Nat.le_of_ble_eq_true rfl) (fun _ h => List.mem_cons_of_mem _ (List.mem_append_left _ (List.mem_append_right _ h))) (List.mem_of_getElem? (i := 1) rfl) rfl rfl dX6_readSemicolon_5 rfl ?_
  refine vv_iconst (q := 9) X (5 : Int32) dX6_readSemicolon_8 (by decide) rfl ?_
  refine vv_icmp_ne (q := 12) X 16 dX6_readSemicolon_9 (by decide) rfl (fun c2 => ?_) (fun c2 => ?_)
  · have h := h.1 c2
    refine vv_iconst (q := 17) X (0 : Int32) dX6_readSemicolon_16 (by decide) rfl ?_
    exact vv_zret X hr rfl dX6_readSemicolon_17 h
  · have h := h.2 c2
    refine vv_iconst (q := 13) X (1 : Int32) dX6_readSemicolon_12 (by decide) rfl ?_
    refine vv_goto X 17 dX6_readSemicolon_13 (by decide) ?_
    exact vv_zret X hr rfl dX6_readSemicolon_17 h

/-! X6_readHalf: readHalf(LHalfLadders$Orchard;I)Z -/
def rmX6_readHalf : Room := { frames := 4, cells := 0, slots := 0, locals := 83 }
def wX6_readHalf (σ : St) (a1 : Nat) (a2 : Int32) (P : Int32 → St → Prop) : Prop :=
isO a1 ∧
((8 : Int32) ≤ (σ.1 a1 0) →
P (0 : Int32) σ) ∧
(¬ (8 : Int32) ≤ (σ.1 a1 0) →
wX6_readNumber σ (1 : Int32) (9 : Int32) (fun (r2 : Int32) (σ3 : St) =>
(¬ r2 = 0 →
∀ z5 : Int32, z5 = (σ3.1 6 3) →
wX6_readNumber σ3 (1 : Int32) (9 : Int32) (fun (r6 : Int32) (σ7 : St) =>
(¬ r6 = 0 →
∀ z9 : Int32, z9 = (σ7.1 6 3) →
wX6_readNumber σ7 (1 : Int32) (9 : Int32) (fun (r10 : Int32) (σ11 : St) =>
(¬ r10 = 0 →
∀ z13 : Int32, z13 = (σ11.1 6 3) →
wX6_readSemicolon σ11  (fun (r14 : Int32) (σ15 : St) =>
(¬ r14 = 0 →
wX3_addHalf σ15 a1 a2 z5 z9 z13 (fun σ17 : St =>
P (1 : Int32) σ17)) ∧
(r14 = 0 →
P (0 : Int32) σ15))) ∧
(r10 = 0 →
P (0 : Int32) σ11))) ∧
(r6 = 0 →
P (0 : Int32) σ7))) ∧
(r2 = 0 →
P (0 : Int32) σ3)))

set_option maxHeartbeats 8000000 in
set_option maxRecDepth 100000 in
theorem kX6_readHalf (l : Launch) (D : va_G) {cy : Nat → ClassId} {ad : Nat → Nat} {zb : Nat → Nat} (hw : xOk (wC ad cy zb)) {σ : St} {a1 : Nat} {a2 : Int32} {P : Int32 → St → Prop} (h : wX6_readHalf σ a1 a2 P) : MI l yX6_readHalf wsX6_readHalf rmX6_readHalf D cy (wC ad cy zb) [.ref (ad 6), .ref (ad a1), .int a2] σ P := by
  unfold MI
  refine vv_met (cc := cX6_readHalf) (maxL := 6) (ret := (some .boolean)) hw (by decide +kernel) rfl [.ref (ad 6), .ref (ad a1), .int a2] (Nat.le_of_ble_eq_true rfl) ?_
  intro p e s m args below meth c X hr
  have X : XX p s m args meth c cX6_readHalf 6 D cy (wC ad cy zb) wsX6_readHalf RX6 := X
  refine vv_sub (lv' := [(0, .ref (ad 6)), (1, .ref (ad a1)), (2, .int a2)]) [0, 1, 2] rfl ?_
  rw [wX6_readHalf] at h
  obtain ⟨ha1, h⟩ := h
  refine vv_aload_n (q := 1) X 1 dX6_readHalf_0 rfl rfl rfl ?_
  refine vv_getf (q := 4) (ref := "HalfLadders$Orchard") (C := RX3) (T := TX3) (N := 10) X a1 3 0 (isO_lt 0 ha1 (Nat.le_of_ble_eq_true rfl)) (e_isO (ad := ad) (cy := cy) ha1 _ _) rfl (Nat.le_of_ble_eq_true rfl) (fun _ h => List.mem_cons_of_mem _ (List.mem_append_left _ (List.mem_append_left _ (List.mem_append_right _ h)))) (List.mem_of_getElem? (i := 1) rfl) rfl rfl dX6_readHalf_1 rfl ?_
  refine vv_bipush (q := 6) X (8 : Int32) dX6_readHalf_4 (by decide) rfl ?_
  refine vv_icmp_ge (q := 9) X 19 dX6_readHalf_6 (by decide) rfl (fun c1 => ?_) (fun c1 => ?_)
  · have h := h.1 c1
    refine vv_iconst (q := 20) X (0 : Int32) dX6_readHalf_19 (by decide) rfl ?_
    exact vv_zret X hr rfl dX6_readHalf_20 h
  · have h := h.2 c1
    refine vv_aload_n (q := 10) X 0 dX6_readHalf_9 rfl rfl rfl ?_
    refine vv_iconst (q := 11) X (1 : Int32) dX6_readHalf_10 (by decide) rfl ?_
    refine vv_bipush (q := 13) X (9 : Int32) dX6_readHalf_11 (by decide) rfl ?_
    refine vv_cVi (q := 16) (C := RX6) X 6 6 [.int (1 : Int32), .int (9 : Int32)] (kX6_readNumber l D X.2.2.1 h) (cwV 2 X.1.2.2.2.2 gX6_readHalf_X6_readNumber rfl rfl rfl (by decide +kernel) ⟨Nat.le_of_ble_eq_true rfl, Nat.le_of_ble_eq_true rfl⟩) (Nat.le_of_ble_eq_true rfl) rfl rfl rfl rfl (Nat.le_of_ble_eq_true rfl) dX6_readHalf_13 rfl (fun r2 σ3 h => ?_)
    refine vv_if_ne (q := 19) X 21 dX6_readHalf_16 (by decide) rfl (fun c4 => ?_) (fun c4 => ?_)
    · have h := h.1 c4
      refine vv_aload_n (q := 22) X 0 dX6_readHalf_21 rfl rfl rfl ?_
      refine vv_getf (q := 25) (ref := "HalfLadders$Reader") (C := RX6) (T := TX6) (N := 4) X 6 6 3 (Nat.le_of_ble_eq_true rfl) rfl rfl (Nat.le_of_ble_eq_true rfl) (fun _ h => List.mem_cons_of_mem _ (List.mem_append_left _ (List.mem_append_right _ h))) (List.mem_of_getElem? (i := 2) rfl) rfl rfl dX6_readHalf_22 rfl ?_
      refine vv_topi (fun z5 hz5 => ?_)
      have h := h z5 hz5
      refine vv_istore_n (lv2 := [(3, .int z5), (0, .ref (ad 6)), (1, .ref (ad a1)), (2, .int a2)]) (q := 26) X dX6_readHalf_25 rfl (Nat.le_of_ble_eq_true rfl) rfl rfl ?_
      refine vv_aload_n (q := 27) X 1 dX6_readHalf_26 rfl rfl rfl ?_
      refine vv_iconst (q := 28) X (1 : Int32) dX6_readHalf_27 (by decide) rfl ?_
      refine vv_bipush (q := 30) X (9 : Int32) dX6_readHalf_28 (by decide) rfl ?_
      refine vv_cVi (q := 33) (C := RX6) X 6 6 [.int (1 : Int32), .int (9 : Int32)] (kX6_readNumber l D X.2.2.1 h) (cwV 2 X.1.2.2.2.2 gX6_readHalf_X6_readNumber rfl rfl rfl (by decide +kernel) ⟨Nat.le_of_ble_eq_true rfl, Nat.le_of_ble_eq_true rfl⟩) (Nat.le_of_ble_eq_true rfl) rfl rfl rfl rfl (Nat.le_of_ble_eq_true rfl) dX6_readHalf_30 rfl (fun r6 σ7 h => ?_)
      refine vv_if_ne (q := 36) X 38 dX6_readHalf_33 (by decide) rfl (fun c8 => ?_) (fun c8 => ?_)
      · have h := h.1 c8
        refine vv_aload_n (q := 39) X 1 dX6_readHalf_38 rfl rfl rfl ?_
        refine vv_getf (q := 42) (ref := "HalfLadders$Reader") (C := RX6) (T := TX6) (N := 4) X 6 6 3 (Nat.le_of_ble_eq_true rfl) rfl rfl (Nat.le_of_ble_eq_true rfl) (fun _ h => List.mem_cons_of_mem _ (List.mem_append_left _ (List.mem_append_right _ h))) (List.mem_of_getElem? (i := 2) rfl) rfl rfl dX6_readHalf_39 rfl ?_
        refine vv_topi (fun z9 hz9 => ?_)
        have h := h z9 hz9
        refine vv_istore (lv2 := [(4, .int z9), (3, .int z5), (0, .ref (ad 6)), (1, .ref (ad a1)), (2, .int a2)]) (q := 44) X dX6_readHalf_42 (Nat.le_of_ble_eq_true rfl) rfl rfl ?_
        refine vv_aload_n (q := 45) X 2 dX6_readHalf_44 rfl rfl rfl ?_
        refine vv_iconst (q := 46) X (1 : Int32) dX6_readHalf_45 (by decide) rfl ?_
        refine vv_bipush (q := 48) X (9 : Int32) dX6_readHalf_46 (by decide) rfl ?_
        refine vv_cVi (q := 51) (C := RX6) X 6 6 [.int (1 : Int32), .int (9 : Int32)] (kX6_readNumber l D X.2.2.1 h) (cwV 2 X.1.2.2.2.2 gX6_readHalf_X6_readNumber rfl rfl rfl (by decide +kernel) ⟨Nat.le_of_ble_eq_true rfl, Nat.le_of_ble_eq_true rfl⟩) (Nat.le_of_ble_eq_true rfl) rfl rfl rfl rfl (Nat.le_of_ble_eq_true rfl) dX6_readHalf_48 rfl (fun r10 σ11 h => ?_)
        refine vv_if_ne (q := 54) X 56 dX6_readHalf_51 (by decide) rfl (fun c12 => ?_) (fun c12 => ?_)
        · have h := h.1 c12
          refine vv_aload_n (q := 57) X 2 dX6_readHalf_56 rfl rfl rfl ?_
          refine vv_getf (q := 60) (ref := "HalfLadders$Reader") (C := RX6) (T := TX6) (N := 4) X 6 6 3 (Nat.le_of_ble_eq_true rfl) rfl rfl (Nat.le_of_ble_eq_true rfl) (fun _ h => List.mem_cons_of_mem _ (List.mem_append_left _ (List.mem_append_right _ h))) (List.mem_of_getElem? (i := 2) rfl) rfl rfl dX6_readHalf_57 rfl ?_
          refine vv_topi (fun z13 hz13 => ?_)
          have h := h z13 hz13
          refine vv_istore (lv2 := [(5, .int z13), (4, .int z9), (3, .int z5), (0, .ref (ad 6)), (1, .ref (ad a1)), (2, .int a2)]) (q := 62) X dX6_readHalf_60 (Nat.le_of_ble_eq_true rfl) rfl rfl ?_
          refine vv_aload_n (q := 63) X 3 dX6_readHalf_62 rfl rfl rfl ?_
          refine vv_cVi (q := 66) (C := RX6) X 6 6 [] (kX6_readSemicolon l D X.2.2.1 h) (cwV 0 X.1.2.2.2.2 gX6_readHalf_X6_readSemicolon rfl rfl rfl (by decide +kernel) ⟨Nat.le_of_ble_eq_true rfl, Nat.le_of_ble_eq_true rfl⟩) (Nat.le_of_ble_eq_true rfl) rfl rfl rfl rfl (Nat.le_of_ble_eq_true rfl) dX6_readHalf_63 rfl (fun r14 σ15 h => ?_)
          refine vv_if_ne (q := 69) X 71 dX6_readHalf_66 (by decide) rfl (fun c16 => ?_) (fun c16 => ?_)
          · have h := h.1 c16
            refine vv_aload_n (q := 72) X 4 dX6_readHalf_71 rfl rfl rfl ?_
            refine vv_iload_n (q := 73) X 5 dX6_readHalf_72 rfl rfl rfl ?_
            refine vv_iload_n (q := 74) X 2 dX6_readHalf_73 rfl rfl rfl ?_
            refine vv_iload (q := 76) X 1 dX6_readHalf_74 rfl rfl ?_
            refine vv_iload (q := 78) X 0 dX6_readHalf_76 rfl rfl ?_
            refine vv_cVv (q := 81) (C := RX3) X a1 3 [.int a2, .int z5, .int z9, .int z13] (kX3_addHalf l D X.2.2.1 h) (cwV 4 X.1.2.2.2.2 gX6_readHalf_X3_addHalf rfl rfl rfl (by decide +kernel) ⟨Nat.le_of_ble_eq_true rfl, Nat.le_of_ble_eq_true rfl⟩) (isO_lt 0 ha1 (Nat.le_of_ble_eq_true rfl)) (e_isO (ad := ad) (cy := cy) ha1 _ _) rfl rfl rfl (Nat.le_of_ble_eq_true rfl) dX6_readHalf_78 rfl (fun σ17 h => ?_)
            refine vv_iconst (q := 82) X (1 : Int32) dX6_readHalf_81 (by decide) rfl ?_
            exact vv_zret X hr rfl dX6_readHalf_82 h
          · have h := h.2 c16
            refine vv_iconst (q := 70) X (0 : Int32) dX6_readHalf_69 (by decide) rfl ?_
            exact vv_zret X hr rfl dX6_readHalf_70 h
        · have h := h.2 c12
          refine vv_iconst (q := 55) X (0 : Int32) dX6_readHalf_54 (by decide) rfl ?_
          exact vv_zret X hr rfl dX6_readHalf_55 h
      · have h := h.2 c8
        refine vv_iconst (q := 37) X (0 : Int32) dX6_readHalf_36 (by decide) rfl ?_
        exact vv_zret X hr rfl dX6_readHalf_37 h
    · have h := h.2 c4
      refine vv_iconst (q := 20) X (0 : Int32) dX6_readHalf_19 (by decide) rfl ?_
      exact vv_zret X hr rfl dX6_readHalf_20 h

/-! X6_readQuarrel: readQuarrel(LHalfLadders$Orchard;)Z -/
def rmX6_readQuarrel : Room := { frames := 4, cells := 0, slots := 0, locals := 83 }
def wX6_readQuarrel (σ : St) (a1 : Nat) (P : Int32 → St → Prop) : Prop :=
isO a1 ∧
wX6_readNumber σ (0 : Int32) ((σ.1 a1 0) - (1 : Int32)) (fun (r1 : Int32) (σ2 : St) =>
(¬ r1 = 0 →
∀ z4 : Int32, z4 = (σ2.1 6 3) →
wX6_readNumber σ2 (0 : Int32) ((σ2.1 a1 0) - (1 : Int32)) (fun (r5 : Int32) (σ6 : St) =>
(r5 = 0 →
P (0 : Int32) σ6) ∧
(¬ r5 = 0 →
(¬ (σ6.1 6 3) = z4 →
∀ z9 : Int32, z9 = (σ6.1 6 3) →
wX6_readSemicolon σ6  (fun (r10 : Int32) (σ11 : St) =>
(¬ r10 = 0 →
wX3_addQuarrel σ11 a1 z4 z9 (fun σ13 : St =>
P (1 : Int32) σ13)) ∧
(r10 = 0 →
P (0 : Int32) σ11))) ∧
((σ6.1 6 3) = z4 →
P (0 : Int32) σ6)))) ∧
(r1 = 0 →
P (0 : Int32) σ2))

set_option maxHeartbeats 8000000 in
set_option maxRecDepth 100000 in
theorem kX6_readQuarrel (l : Launch) (D : va_G) {cy : Nat → ClassId} {ad : Nat → Nat} {zb : Nat → Nat} (hw : xOk (wC ad cy zb)) {σ : St} {a1 : Nat} {P : Int32 → St → Prop} (h : wX6_readQuarrel σ a1 P) : MI l yX6_readQuarrel wsX6_readQuarrel rmX6_readQuarrel D cy (wC ad cy zb) [.ref (ad 6), .ref (ad a1)] σ P := by
  unfold MI
  refine vv_met (cc := cX6_readQuarrel) (maxL := 4) (ret := (some .boolean)) hw (by decide +kernel) rfl [.ref (ad 6), .ref (ad a1)] (Nat.le_of_ble_eq_true rfl) ?_
  intro p e s m args below meth c X hr
  have X : XX p s m args meth c cX6_readQuarrel 4 D cy (wC ad cy zb) wsX6_readQuarrel RX6 := X
  refine vv_sub (lv' := [(0, .ref (ad 6)), (1, .ref (ad a1))]) [0, 1] rfl ?_
  rw [wX6_readQuarrel] at h
  obtain ⟨ha1, h⟩ := h
  refine vv_aload_n (q := 1) X 0 dX6_readQuarrel_0 rfl rfl rfl ?_
  refine vv_iconst (q := 2) X (0 : Int32) dX6_readQuarrel_1 (by decide) rfl ?_
  refine vv_aload_n (q := 3) X 1 dX6_readQuarrel_2 rfl rfl rfl ?_
  refine vv_getf (q := 6) (ref := "HalfLadders$Orchard") (C := RX3) (T := TX3) (N := 10) X a1 3 0 (isO_lt 0 ha1 (Nat.le_of_ble_eq_true rfl)) (e_isO (ad := ad) (cy := cy) ha1 _ _) rfl (Nat.le_of_ble_eq_true rfl) (fun _ h => List.mem_cons_of_mem _ (List.mem_append_left _ (List.mem_append_left _ (List.mem_append_right _ h)))) (List.mem_of_getElem? (i := 1) rfl) rfl rfl dX6_readQuarrel_3 rfl ?_
  refine vv_iconst (q := 7) X (1 : Int32) dX6_readQuarrel_6 (by decide) rfl ?_
  refine vv_isub (q := 8) X dX6_readQuarrel_7 rfl ?_
  refine vv_cVi (q := 11) (C := RX6) X 6 6 [.int (0 : Int32), .int ((σ.1 a1 0) - (1 : Int32))] (kX6_readNumber l D X.2.2.1 h) (cwV 2 X.1.2.2.2.2 gX6_readQuarrel_X6_readNumber rfl rfl rfl (by decide +kernel) ⟨Nat.le_of_ble_eq_true rfl, Nat.le_of_ble_eq_true rfl⟩) (Nat.le_of_ble_eq_true rfl) rfl rfl rfl rfl (Nat.le_of_ble_eq_true rfl) dX6_readQuarrel_8 rfl (fun r1 σ2 h => ?_)
  refine vv_if_ne (q := 14) X 16 dX6_readQuarrel_11 (by decide) rfl (fun c3 => ?_) (fun c3 => ?_)
  · have h := h.1 c3
    refine vv_aload_n (q := 17) X 0 dX6_readQuarrel_16 rfl rfl rfl ?_
    refine vv_getf (q := 20) (ref := "HalfLadders$Reader") (C := RX6) (T := TX6) (N := 4) X 6 6 3 (Nat.le_of_ble_eq_true rfl) rfl rfl (Nat.le_of_ble_eq_true rfl) (fun _ h => List.mem_cons_of_mem _ (List.mem_append_left _ (List.mem_append_right _ h))) (List.mem_of_getElem? (i := 2) rfl) rfl rfl dX6_readQuarrel_17 rfl ?_
    refine vv_topi (fun z4 hz4 => ?_)
    have h := h z4 hz4
    refine vv_istore_n (lv2 := [(2, .int z4), (0, .ref (ad 6)), (1, .ref (ad a1))]) (q := 21) X dX6_readQuarrel_20 rfl (Nat.le_of_ble_eq_true rfl) rfl rfl ?_
    refine vv_aload_n (q := 22) X 1 dX6_readQuarrel_21 rfl rfl rfl ?_
    refine vv_iconst (q := 23) X (0 : Int32) dX6_readQuarrel_22 (by decide) rfl ?_
    refine vv_aload_n (q := 24) X 2 dX6_readQuarrel_23 rfl rfl rfl ?_
    refine vv_getf (q := 27) (ref := "HalfLadders$Orchard") (C := RX3) (T := TX3) (N := 10) X a1 3 0 (isO_lt 0 ha1 (Nat.le_of_ble_eq_true rfl)) (e_isO (ad := ad) (cy := cy) ha1 _ _) rfl (Nat.le_of_ble_eq_true rfl) (fun _ h => List.mem_cons_of_mem _ (List.mem_append_left _ (List.mem_append_left _ (List.mem_append_right _ h)))) (List.mem_of_getElem? (i := 1) rfl) rfl rfl dX6_readQuarrel_24 rfl ?_
    refine vv_iconst (q := 28) X (1 : Int32) dX6_readQuarrel_27 (by decide) rfl ?_
    refine vv_isub (q := 29) X dX6_readQuarrel_28 rfl ?_
    refine vv_cVi (q := 32) (C := RX6) X 6 6 [.int (0 : Int32), .int ((σ2.1 a1 0) - (1 : Int32))] (kX6_readNumber l D X.2.2.1 h) (cwV 2 X.1.2.2.2.2 gX6_readQuarrel_X6_readNumber rfl rfl rfl (by decide +kernel) ⟨Nat.le_of_ble_eq_true rfl, Nat.le_of_ble_eq_true rfl⟩) (Nat.le_of_ble_eq_true rfl) rfl rfl rfl rfl (Nat.le_of_ble_eq_true rfl) dX6_readQuarrel_29 rfl (fun r5 σ6 h => ?_)
    refine vv_if_eq (q := 35) X 43 dX6_readQuarrel_32 (by decide) rfl (fun c7 => ?_) (fun c7 => ?_)
    · have h := h.1 c7
      refine vv_iconst (q := 44) X (0 : Int32) dX6_readQuarrel_43 (by decide) rfl ?_
      exact vv_zret X hr rfl dX6_readQuarrel_44 h
    · have h := h.2 c7
      refine vv_aload_n (q := 36) X 1 dX6_readQuarrel_35 rfl rfl rfl ?_
      refine vv_getf (q := 39) (ref := "HalfLadders$Reader") (C := RX6) (T := TX6) (N := 4) X 6 6 3 (Nat.le_of_ble_eq_true rfl) rfl rfl (Nat.le_of_ble_eq_true rfl) (fun _ h => List.mem_cons_of_mem _ (List.mem_append_left _ (List.mem_append_right _ h))) (List.mem_of_getElem? (i := 2) rfl) rfl rfl dX6_readQuarrel_36 rfl ?_
      refine vv_iload_n (q := 40) X 0 dX6_readQuarrel_39 rfl rfl rfl ?_
      refine vv_icmp_ne (q := 43) X 45 dX6_readQuarrel_40 (by decide) rfl (fun c8 => ?_) (fun c8 => ?_)
      · have h := h.1 c8
        refine vv_aload_n (q := 46) X 1 dX6_readQuarrel_45 rfl rfl rfl ?_
        refine vv_getf (q := 49) (ref := "HalfLadders$Reader") (C := RX6) (T := TX6) (N := 4) X 6 6 3 (Nat.le_of_ble_eq_true rfl) rfl rfl (Nat.le_of_ble_eq_true rfl) (fun _ h => List.mem_cons_of_mem _ (List.mem_append_left _ (List.mem_append_right _ h))) (List.mem_of_getElem? (i := 2) rfl) rfl rfl dX6_readQuarrel_46 rfl ?_
        refine vv_topi (fun z9 hz9 => ?_)
        have h := h z9 hz9
        refine vv_istore_n (lv2 := [(3, .int z9), (2, .int z4), (0, .ref (ad 6)), (1, .ref (ad a1))]) (q := 50) X dX6_readQuarrel_49 rfl (Nat.le_of_ble_eq_true rfl) rfl rfl ?_
        refine vv_aload_n (q := 51) X 2 dX6_readQuarrel_50 rfl rfl rfl ?_
        refine vv_cVi (q := 54) (C := RX6) X 6 6 [] (kX6_readSemicolon l D X.2.2.1 h) (cwV 0 X.1.2.2.2.2 gX6_readQuarrel_X6_readSemicolon rfl rfl rfl (by decide +kernel) ⟨Nat.le_of_ble_eq_true rfl, Nat.le_of_ble_eq_true rfl⟩) (Nat.le_of_ble_eq_true rfl) rfl rfl rfl rfl (Nat.le_of_ble_eq_true rfl) dX6_readQuarrel_51 rfl (fun r10 σ11 h => ?_)
        refine vv_if_ne (q := 57) X 59 dX6_readQuarrel_54 (by decide) rfl (fun c12 => ?_) (fun c12 => ?_)
        · have h := h.1 c12
          refine vv_aload_n (q := 60) X 3 dX6_readQuarrel_59 rfl rfl rfl ?_
          refine vv_iload_n (q := 61) X 1 dX6_readQuarrel_60 rfl rfl rfl ?_
          refine vv_iload_n (q := 62) X 0 dX6_readQuarrel_61 rfl rfl rfl ?_
          refine vv_cVv (q := 65) (C := RX3) X a1 3 [.int z4, .int z9] (kX3_addQuarrel l D X.2.2.1 h) (cwV 2 X.1.2.2.2.2 gX6_readQuarrel_X3_addQuarrel rfl rfl rfl (by decide +kernel) ⟨Nat.le_of_ble_eq_true rfl, Nat.le_of_ble_eq_true rfl⟩) (isO_lt 0 ha1 (Nat.le_of_ble_eq_true rfl)) (e_isO (ad := ad) (cy := cy) ha1 _ _) rfl rfl rfl (Nat.le_of_ble_eq_true rfl) dX6_readQuarrel_62 rfl (fun σ13 h => ?_)
          refine vv_iconst (q := 66) X (1 : Int32) dX6_readQuarrel_65 (by decide) rfl ?_
          exact vv_zret X hr rfl dX6_readQuarrel_66 h
        · have h := h.2 c12
          refine vv_iconst (q := 58) X (0 : Int32) dX6_readQuarrel_57 (by decide) rfl ?_
          exact vv_zret X hr rfl dX6_readQuarrel_58 h
      · have h := h.2 c8
        refine vv_iconst (q := 44) X (0 : Int32) dX6_readQuarrel_43 (by decide) rfl ?_
        exact vv_zret X hr rfl dX6_readQuarrel_44 h
  · have h := h.2 c3
    refine vv_iconst (q := 15) X (0 : Int32) dX6_readQuarrel_14 (by decide) rfl ?_
    exact vv_zret X hr rfl dX6_readQuarrel_15 h

/-! X6_readTree: readTree(LHalfLadders$Orchard;)Z -/
def rmX6_readTree : Room := { frames := 4, cells := 0, slots := 0, locals := 83 }
def wX6_readTree (σ : St) (a1 : Nat) (P : Int32 → St → Prop) : Prop :=
isO a1 ∧
((5 : Int32) ≤ (σ.1 a1 1) →
P (0 : Int32) σ) ∧
(¬ (5 : Int32) ≤ (σ.1 a1 1) →
wX6_readNumber σ (1 : Int32) (9 : Int32) (fun (r2 : Int32) (σ3 : St) =>
(¬ r2 = 0 →
∀ z5 : Int32, z5 = (σ3.1 6 3) →
wX6_readNumber σ3 (0 : Int32) (20 : Int32) (fun (r6 : Int32) (σ7 : St) =>
(¬ r6 = 0 →
∀ z9 : Int32, z9 = (σ7.1 6 3) →
wX6_readNumber σ7 (0 : Int32) (99 : Int32) (fun (r10 : Int32) (σ11 : St) =>
(¬ r10 = 0 →
∀ z13 : Int32, z13 = (σ11.1 6 3) →
wX6_readSemicolon σ11  (fun (r14 : Int32) (σ15 : St) =>
(¬ r14 = 0 →
wX3_addTree σ15 a1 z5 z9 z13 (fun σ17 : St =>
P (1 : Int32) σ17)) ∧
(r14 = 0 →
P (0 : Int32) σ15))) ∧
(r10 = 0 →
P (0 : Int32) σ11))) ∧
(r6 = 0 →
P (0 : Int32) σ7))) ∧
(r2 = 0 →
P (0 : Int32) σ3)))

set_option maxHeartbeats 8000000 in
set_option maxRecDepth 100000 in
theorem kX6_readTree (l : Launch) (D : va_G) {cy : Nat → ClassId} {ad : Nat → Nat} {zb : Nat → Nat} (hw : xOk (wC ad cy zb)) {σ : St} {a1 : Nat} {P : Int32 → St → Prop} (h : wX6_readTree σ a1 P) : MI l yX6_readTree wsX6_readTree rmX6_readTree D cy (wC ad cy zb) [.ref (ad 6), .ref (ad a1)] σ P := by
  unfold MI
  refine vv_met (cc := cX6_readTree) (maxL := 5) (ret := (some .boolean)) hw (by decide +kernel) rfl [.ref (ad 6), .ref (ad a1)] (Nat.le_of_ble_eq_true rfl) ?_
  intro p e s m args below meth c X hr
  have X : XX p s m args meth c cX6_readTree 5 D cy (wC ad cy zb) wsX6_readTree RX6 := X
  refine vv_sub (lv' := [(0, .ref (ad 6)), (1, .ref (ad a1))]) [0, 1] rfl ?_
  rw [wX6_readTree] at h
  obtain ⟨ha1, h⟩ := h
  refine vv_aload_n (q := 1) X 1 dX6_readTree_0 rfl rfl rfl ?_
  refine vv_getf (q := 4) (ref := "HalfLadders$Orchard") (C := RX3) (T := TX3) (N := 10) X a1 3 1 (isO_lt 0 ha1 (Nat.le_of_ble_eq_true rfl)) (e_isO (ad := ad) (cy := cy) ha1 _ _) rfl (Nat.le_of_ble_eq_true rfl) (fun _ h => List.mem_cons_of_mem _ (List.mem_append_left _ (List.mem_append_left _ (List.mem_append_right _ h)))) (List.mem_of_getElem? (i := 1) rfl) rfl rfl dX6_readTree_1 rfl ?_
  refine vv_iconst (q := 5) X (5 : Int32) dX6_readTree_4 (by decide) rfl ?_
  refine vv_icmp_ge (q := 8) X 18 dX6_readTree_5 (by decide) rfl (fun c1 => ?_) (fun c1 => ?_)
  · have h := h.1 c1
    refine vv_iconst (q := 19) X (0 : Int32) dX6_readTree_18 (by decide) rfl ?_
    exact vv_zret X hr rfl dX6_readTree_19 h
  · have h := h.2 c1
    refine vv_aload_n (q := 9) X 0 dX6_readTree_8 rfl rfl rfl ?_
    refine vv_iconst (q := 10) X (1 : Int32) dX6_readTree_9 (by decide) rfl ?_
    refine vv_bipush (q := 12) X (9 : Int32) dX6_readTree_10 (by decide) rfl ?_
    refine vv_cVi (q := 15) (C := RX6) X 6 6 [.int (1 : Int32), .int (9 : Int32)] (kX6_readNumber l D X.2.2.1 h) (cwV 2 X.1.2.2.2.2 gX6_readTree_X6_readNumber rfl rfl rfl (by decide +kernel) ⟨Nat.le_of_ble_eq_true rfl, Nat.le_of_ble_eq_true rfl⟩) (Nat.le_of_ble_eq_true rfl) rfl rfl rfl rfl (Nat.le_of_ble_eq_true rfl) dX6_readTree_12 rfl (fun r2 σ3 h => ?_)
    refine vv_if_ne (q := 18) X 20 dX6_readTree_15 (by decide) rfl (fun c4 => ?_) (fun c4 => ?_)
    · have h := h.1 c4
      refine vv_aload_n (q := 21) X 0 dX6_readTree_20 rfl rfl rfl ?_
      refine vv_getf (q := 24) (ref := "HalfLadders$Reader") (C := RX6) (T := TX6) (N := 4) X 6 6 3 (Nat.le_of_ble_eq_true rfl) rfl rfl (Nat.le_of_ble_eq_true rfl) (fun _ h => List.mem_cons_of_mem _ (List.mem_append_left _ (List.mem_append_right _ h))) (List.mem_of_getElem? (i := 2) rfl) rfl rfl dX6_readTree_21 rfl ?_
      refine vv_topi (fun z5 hz5 => ?_)
      have h := h z5 hz5
      refine vv_istore_n (lv2 := [(2, .int z5), (0, .ref (ad 6)), (1, .ref (ad a1))]) (q := 25) X dX6_readTree_24 rfl (Nat.le_of_ble_eq_true rfl) rfl rfl ?_
      refine vv_aload_n (q := 26) X 1 dX6_readTree_25 rfl rfl rfl ?_
      refine vv_iconst (q := 27) X (0 : Int32) dX6_readTree_26 (by decide) rfl ?_
      refine vv_bipush (q := 29) X (20 : Int32) dX6_readTree_27 (by decide) rfl ?_
      refine vv_cVi (q := 32) (C := RX6) X 6 6 [.int (0 : Int32), .int (20 : Int32)] (kX6_readNumber l D X.2.2.1 h) (cwV 2 X.1.2.2.2.2 gX6_readTree_X6_readNumber rfl rfl rfl (by decide +kernel) ⟨Nat.le_of_ble_eq_true rfl, Nat.le_of_ble_eq_true rfl⟩) (Nat.le_of_ble_eq_true rfl) rfl rfl rfl rfl (Nat.le_of_ble_eq_true rfl) dX6_readTree_29 rfl (fun r6 σ7 h => ?_)
      refine vv_if_ne (q := 35) X 37 dX6_readTree_32 (by decide) rfl (fun c8 => ?_) (fun c8 => ?_)
      · have h := h.1 c8
        refine vv_aload_n (q := 38) X 1 dX6_readTree_37 rfl rfl rfl ?_
        refine vv_getf (q := 41) (ref := "HalfLadders$Reader") (C := RX6) (T := TX6) (N := 4) X 6 6 3 (Nat.le_of_ble_eq_true rfl) rfl rfl (Nat.le_of_ble_eq_true rfl) (fun _ h => List.mem_cons_of_mem _ (List.mem_append_left _ (List.mem_append_right _ h))) (List.mem_of_getElem? (i := 2) rfl) rfl rfl dX6_readTree_38 rfl ?_
        refine vv_topi (fun z9 hz9 => ?_)
        have h := h z9 hz9
        refine vv_istore_n (lv2 := [(3, .int z9), (2, .int z5), (0, .ref (ad 6)), (1, .ref (ad a1))]) (q := 42) X dX6_readTree_41 rfl (Nat.le_of_ble_eq_true rfl) rfl rfl ?_
        refine vv_aload_n (q := 43) X 2 dX6_readTree_42 rfl rfl rfl ?_
        refine vv_iconst (q := 44) X (0 : Int32) dX6_readTree_43 (by decide) rfl ?_
        refine vv_bipush (q := 46) X (99 : Int32) dX6_readTree_44 (by decide) rfl ?_
        refine vv_cVi (q := 49) (C := RX6) X 6 6 [.int (0 : Int32), .int (99 : Int32)] (kX6_readNumber l D X.2.2.1 h) (cwV 2 X.1.2.2.2.2 gX6_readTree_X6_readNumber rfl rfl rfl (by decide +kernel) ⟨Nat.le_of_ble_eq_true rfl, Nat.le_of_ble_eq_true rfl⟩) (Nat.le_of_ble_eq_true rfl) rfl rfl rfl rfl (Nat.le_of_ble_eq_true rfl) dX6_readTree_46 rfl (fun r10 σ11 h => ?_)
        refine vv_if_ne (q := 52) X 54 dX6_readTree_49 (by decide) rfl (fun c12 => ?_) (fun c12 => ?_)
        · have h := h.1 c12
          refine vv_aload_n (q := 55) X 2 dX6_readTree_54 rfl rfl rfl ?_
          refine vv_getf (q := 58) (ref := "HalfLadders$Reader") (C := RX6) (T := TX6) (N := 4) X 6 6 3 (Nat.le_of_ble_eq_true rfl) rfl rfl (Nat.le_of_ble_eq_true rfl) (fun _ h => List.mem_cons_of_mem _ (List.mem_append_left _ (List.mem_append_right _ h))) (List.mem_of_getElem? (i := 2) rfl) rfl rfl dX6_readTree_55 rfl ?_
          refine vv_topi (fun z13 hz13 => ?_)
          have h := h z13 hz13
          refine vv_istore (lv2 := [(4, .int z13), (3, .int z9), (2, .int z5), (0, .ref (ad 6)), (1, .ref (ad a1))]) (q := 60) X dX6_readTree_58 (Nat.le_of_ble_eq_true rfl) rfl rfl ?_
          refine vv_aload_n (q := 61) X 3 dX6_readTree_60 rfl rfl rfl ?_
          refine vv_cVi (q := 64) (C := RX6) X 6 6 [] (kX6_readSemicolon l D X.2.2.1 h) (cwV 0 X.1.2.2.2.2 gX6_readTree_X6_readSemicolon rfl rfl rfl (by decide +kernel) ⟨Nat.le_of_ble_eq_true rfl, Nat.le_of_ble_eq_true rfl⟩) (Nat.le_of_ble_eq_true rfl) rfl rfl rfl rfl (Nat.le_of_ble_eq_true rfl) dX6_readTree_61 rfl (fun r14 σ15 h => ?_)
          refine vv_if_ne (q := 67) X 69 dX6_readTree_64 (by decide) rfl (fun c16 => ?_) (fun c16 => ?_)
          · have h := h.1 c16
            refine vv_aload_n (q := 70) X 4 dX6_readTree_69 rfl rfl rfl ?_
            refine vv_iload_n (q := 71) X 2 dX6_readTree_70 rfl rfl rfl ?_
            refine vv_iload_n (q := 72) X 1 dX6_readTree_71 rfl rfl rfl ?_
            refine vv_iload (q := 74) X 0 dX6_readTree_72 rfl rfl ?_
            refine vv_cVv (q := 77) (C := RX3) X a1 3 [.int z5, .int z9, .int z13] (kX3_addTree l D X.2.2.1 h) (cwV 3 X.1.2.2.2.2 gX6_readTree_X3_addTree rfl rfl rfl (by decide +kernel) ⟨Nat.le_of_ble_eq_true rfl, Nat.le_of_ble_eq_true rfl⟩) (isO_lt 0 ha1 (Nat.le_of_ble_eq_true rfl)) (e_isO (ad := ad) (cy := cy) ha1 _ _) rfl rfl rfl (Nat.le_of_ble_eq_true rfl) dX6_readTree_74 rfl (fun σ17 h => ?_)
            refine vv_iconst (q := 78) X (1 : Int32) dX6_readTree_77 (by decide) rfl ?_
            exact vv_zret X hr rfl dX6_readTree_78 h
          · have h := h.2 c16
            refine vv_iconst (q := 68) X (0 : Int32) dX6_readTree_67 (by decide) rfl ?_
            exact vv_zret X hr rfl dX6_readTree_68 h
        · have h := h.2 c12
          refine vv_iconst (q := 53) X (0 : Int32) dX6_readTree_52 (by decide) rfl ?_
          exact vv_zret X hr rfl dX6_readTree_53 h
      · have h := h.2 c8
        refine vv_iconst (q := 36) X (0 : Int32) dX6_readTree_35 (by decide) rfl ?_
        exact vv_zret X hr rfl dX6_readTree_36 h
    · have h := h.2 c4
      refine vv_iconst (q := 19) X (0 : Int32) dX6_readTree_18 (by decide) rfl ?_
      exact vv_zret X hr rfl dX6_readTree_19 h

/-! X6_readItem: readItem(LHalfLadders$Orchard;)Z -/
def rmX6_readItem : Room := { frames := 5, cells := 0, slots := 0, locals := 108 }
def wX6_readItem (σ : St) (a1 : Nat) (P : Int32 → St → Prop) : Prop :=
isO a1 ∧
((σ.1 6 2) = (0 : Int32) →
wX6_readHalf σ a1 (0 : Int32) (fun (r2 : Int32) (σ3 : St) =>
(r2 = 0 ∨ r2 = 1) ∧ P r2 σ3)) ∧
(¬ (σ.1 6 2) = (0 : Int32) →
((σ.1 6 2) = (1 : Int32) →
wX6_readHalf σ a1 (1 : Int32) (fun (r6 : Int32) (σ7 : St) =>
(r6 = 0 ∨ r6 = 1) ∧ P r6 σ7)) ∧
(¬ (σ.1 6 2) = (1 : Int32) →
((σ.1 6 2) = (2 : Int32) →
wX6_readQuarrel σ a1 (fun (r10 : Int32) (σ11 : St) =>
(r10 = 0 ∨ r10 = 1) ∧ P r10 σ11)) ∧
(¬ (σ.1 6 2) = (2 : Int32) →
((σ.1 6 2) = (3 : Int32) →
wX6_readTree σ a1 (fun (r14 : Int32) (σ15 : St) =>
(r14 = 0 ∨ r14 = 1) ∧ P r14 σ15)) ∧
(¬ (σ.1 6 2) = (3 : Int32) →
P (0 : Int32) σ))))

set_option maxHeartbeats 8000000 in
set_option maxRecDepth 100000 in
theorem kX6_readItem (l : Launch) (D : va_G) {cy : Nat → ClassId} {ad : Nat → Nat} {zb : Nat → Nat} (hw : xOk (wC ad cy zb)) {σ : St} {a1 : Nat} {P : Int32 → St → Prop} (h : wX6_readItem σ a1 P) : MI l yX6_readItem wsX6_readItem rmX6_readItem D cy (wC ad cy zb) [.ref (ad 6), .ref (ad a1)] σ P := by
  unfold MI
  refine vv_met (cc := cX6_readItem) (maxL := 2) (ret := (some .boolean)) hw (by decide +kernel) rfl [.ref (ad 6), .ref (ad a1)] (Nat.le_of_ble_eq_true rfl) ?_
  intro p e s m args below meth c X hr
  have X : XX p s m args meth c cX6_readItem 2 D cy (wC ad cy zb) wsX6_readItem RX6 := X
  refine vv_sub (lv' := [(0, .ref (ad 6)), (1, .ref (ad a1))]) [0, 1] rfl ?_
  rw [wX6_readItem] at h
  obtain ⟨ha1, h⟩ := h
  refine vv_aload_n (q := 1) X 0 dX6_readItem_0 rfl rfl rfl ?_
  refine vv_getf (q := 4) (ref := "HalfLadders$Reader") (C := RX6) (T := TX6) (N := 4) X 6 6 2 (Nat.le_of_ble_eq_true rfl) rfl rfl (Nat.le_of_ble_eq_true rfl) (fun _ h => List.mem_cons_of_mem _ (List.mem_append_left _ (List.mem_append_left _ (List.mem_append_right _ h)))) (List.mem_of_getElem? (i := 1) rfl) rfl rfl dX6_readItem_1 rfl ?_
  by_cases c1 : (σ.1 6 2) = (0 : Int32)
  · have h := h.1 c1
    refine vv_tabIn (off := 32) X 36 dX6_readItem_4 (by rw [c1]; decide) (by rw [c1]; decide) (by rw [c1]; rfl) (by decide) ?_
    refine vv_aload_n (q := 37) X 0 dX6_readItem_36 rfl rfl rfl ?_
    refine vv_aload_n (q := 38) X 1 dX6_readItem_37 rfl rfl rfl ?_
    refine vv_iconst (q := 39) X (0 : Int32) dX6_readItem_38 (by decide) rfl ?_
    refine vv_cVi (q := 42) (C := RX6) X 6 6 [.ref (ad a1), .int (0 : Int32)] (kX6_readHalf l D X.2.2.1 h) (cwV 2 X.1.2.2.2.2 gX6_readItem_X6_readHalf rfl rfl rfl (by decide +kernel) ⟨Nat.le_of_ble_eq_true rfl, Nat.le_of_ble_eq_true rfl⟩) (Nat.le_of_ble_eq_true rfl) rfl rfl rfl rfl (Nat.le_of_ble_eq_true rfl) dX6_readItem_39 rfl (fun r2 σ3 h => ?_)
    obtain ⟨hn4, h⟩ := h
    exact vv_zret X hr (zb01 hn4) dX6_readItem_42 h
  · have h := h.2 c1
    by_cases c5 : (σ.1 6 2) = (1 : Int32)
    · have h := h.1 c5
      refine vv_tabIn (off := 39) X 43 dX6_readItem_4 (by rw [c5]; decide) (by rw [c5]; decide) (by rw [c5]; rfl) (by decide) ?_
      refine vv_aload_n (q := 44) X 0 dX6_readItem_43 rfl rfl rfl ?_
      refine vv_aload_n (q := 45) X 1 dX6_readItem_44 rfl rfl rfl ?_
      refine vv_iconst (q := 46) X (1 : Int32) dX6_readItem_45 (by decide) rfl ?_
      refine vv_cVi (q := 49) (C := RX6) X 6 6 [.ref (ad a1), .int (1 : Int32)] (kX6_readHalf l D X.2.2.1 h) (cwV 2 X.1.2.2.2.2 gX6_readItem_X6_readHalf rfl rfl rfl (by decide +kernel) ⟨Nat.le_of_ble_eq_true rfl, Nat.le_of_ble_eq_true rfl⟩) (Nat.le_of_ble_eq_true rfl) rfl rfl rfl rfl (Nat.le_of_ble_eq_true rfl) dX6_readItem_46 rfl (fun r6 σ7 h => ?_)
      obtain ⟨hn8, h⟩ := h
      exact vv_zret X hr (zb01 hn8) dX6_readItem_49 h
    · have h := h.2 c5
      by_cases c9 : (σ.1 6 2) = (2 : Int32)
      · have h := h.1 c9
        refine vv_tabIn (off := 46) X 50 dX6_readItem_4 (by rw [c9]; decide) (by rw [c9]; decide) (by rw [c9]; rfl) (by decide) ?_
        refine vv_aload_n (q := 51) X 0 dX6_readItem_50 rfl rfl rfl ?_
        refine vv_aload_n (q := 52) X 1 dX6_readItem_51 rfl rfl rfl ?_
        refine vv_cVi (q := 55) (C := RX6) X 6 6 [.ref (ad a1)] (kX6_readQuarrel l D X.2.2.1 h) (cwV 1 X.1.2.2.2.2 gX6_readItem_X6_readQuarrel rfl rfl rfl (by decide +kernel) ⟨Nat.le_of_ble_eq_true rfl, Nat.le_of_ble_eq_true rfl⟩) (Nat.le_of_ble_eq_true rfl) rfl rfl rfl rfl (Nat.le_of_ble_eq_true rfl) dX6_readItem_52 rfl (fun r10 σ11 h => ?_)
        obtain ⟨hn12, h⟩ := h
        exact vv_zret X hr (zb01 hn12) dX6_readItem_55 h
      · have h := h.2 c9
        by_cases c13 : (σ.1 6 2) = (3 : Int32)
        · have h := h.1 c13
          refine vv_tabIn (off := 52) X 56 dX6_readItem_4 (by rw [c13]; decide) (by rw [c13]; decide) (by rw [c13]; rfl) (by decide) ?_
          refine vv_aload_n (q := 57) X 0 dX6_readItem_56 rfl rfl rfl ?_
          refine vv_aload_n (q := 58) X 1 dX6_readItem_57 rfl rfl rfl ?_
          refine vv_cVi (q := 61) (C := RX6) X 6 6 [.ref (ad a1)] (kX6_readTree l D X.2.2.1 h) (cwV 1 X.1.2.2.2.2 gX6_readItem_X6_readTree rfl rfl rfl (by decide +kernel) ⟨Nat.le_of_ble_eq_true rfl, Nat.le_of_ble_eq_true rfl⟩) (Nat.le_of_ble_eq_true rfl) rfl rfl rfl rfl (Nat.le_of_ble_eq_true rfl) dX6_readItem_58 rfl (fun r14 σ15 h => ?_)
          obtain ⟨hn16, h⟩ := h
          exact vv_zret X hr (zb01 hn16) dX6_readItem_61 h
        · have h := h.2 c13
          refine vv_tabOut X 62 dX6_readItem_4 (by have n0 : ¬ (σ.1 6 2).toInt = 0 := i32_ne c1; have n1 : ¬ (σ.1 6 2).toInt = 1 := i32_ne c5; have n2 : ¬ (σ.1 6 2).toInt = 2 := i32_ne c9; have n3 : ¬ (σ.1 6 2).toInt = 3 := i32_ne c13; omega) (by decide) ?_
          refine vv_iconst (q := 63) X (0 : Int32) dX6_readItem_62 (by decide) rfl ?_
          exact vv_zret X hr rfl dX6_readItem_63 h

/-! X6_readAll: readAll(LHalfLadders$Orchard;)I -/
def rmX6_readAll : Room := { frames := 8, cells := 0, slots := 0, locals := 177 }
def wLX6_readAll_18 (f1 : Nat)  (K67 : St → Prop) (K48 : St → Prop) (P : Int32 → St → Prop) : Nat → St → Int32 → Prop
  | 0, _, _ => False
  | n + 1, σ, x2 =>
    ((300 : Int32) < x2 →
    K67 σ) ∧
    (¬ (300 : Int32) < x2 →
    wX6_look σ  (fun σ5 : St =>
    (¬ (σ5.1 6 2) = (6 : Int32) →
    wX6_readItem σ5 f1 (fun (r7 : Int32) (σ8 : St) =>
    (¬ r7 = 0 →
    ∀ σ10 : St, σ10 = sI σ8 6 1 ((σ8.1 6 1) + (1 : Int32)) →
    ∀ z11 : Int32, z11 = x2 + (1 : Int32) →
    wLX6_readAll_18 f1 K67 K48 P n σ10 z11) ∧
    (r7 = 0 →
    K48 σ8))) ∧
    ((σ5.1 6 2) = (6 : Int32) →
    P x2 σ5)))

set_option maxHeartbeats 4000000 in
set_option maxRecDepth 100000 in
theorem twLX6_readAll_18 {p : Program} {l : Launch} {e : Env} {s : State} {m : MethodId} {args : Array Value} {below : List Frame} {meth : Method} {c : Code} {D : va_G} {cy : Nat → ClassId} {ad : Nat → Nat} {zb : Nat → Nat} (X : XX p s m args meth c cX6_readAll 3 D cy (wC ad cy zb) wsX6_readAll RX6) (hr : meth.sig.returnType = (some .int)) (f1 : Nat) (hf1 : isO f1)  (K67 : St → Prop) (K48 : St → Prop) {P : Int32 → St → Prop} (hK67 : ∀ (σ : St), K67 σ → VV p l e rmX6_readAll s m args below meth c (MQ below (va_Qi P (xPost D (wC ad cy zb)) (xA (wC ad cy zb))) args s 0 0 (xA (wC ad cy zb))) 3 D (wC ad cy zb) σ 67 [(0, .ref (ad 6))] []) (hK48 : ∀ (σ : St), K48 σ → VV p l e rmX6_readAll s m args below meth c (MQ below (va_Qi P (xPost D (wC ad cy zb)) (xA (wC ad cy zb))) args s 0 0 (xA (wC ad cy zb))) 3 D (wC ad cy zb) σ 48 [(0, .ref (ad 6))] []) : ∀ (n : Nat) (σ : St) (x2 : Int32), wLX6_readAll_18 f1 K67 K48 P n σ x2 → VV p l e rmX6_readAll s m args below meth c (MQ below (va_Qi P (xPost D (wC ad cy zb)) (xA (wC ad cy zb))) args s 0 0 (xA (wC ad cy zb))) 3 D (wC ad cy zb) σ 18 [(0, .ref (ad 6)), (1, .ref (ad f1)), (2, .int x2)] [] := by
  intro n
  induction n with
  | zero => intro σ x2 h; exact h.elim
  | succ n ih =>
    intro σ x2 h
    rw [wLX6_readAll_18] at h
    refine vv_iload_n (q := 19) X 2 dX6_readAll_18 rfl rfl rfl ?_
    refine vv_sipush (q := 22) X (300 : Int32) dX6_readAll_19 (by decide) rfl ?_
    refine vv_icmp_gt (q := 25) X 67 dX6_readAll_22 (by decide) rfl (fun c4 => ?_) (fun c4 => ?_)
    · have h := h.1 c4
      refine vv_sub (lv' := [(0, .ref (ad 6))]) [0] rfl ?_
      exact hK67 σ h
    · have h := h.2 c4
      refine vv_aload_n (q := 26) X 0 dX6_readAll_25 rfl rfl rfl ?_
      refine vv_cVv (q := 29) (C := RX6) X 6 6 [] (kX6_look l D X.2.2.1 h) (cwV 0 X.1.2.2.2.2 gX6_readAll_X6_look rfl rfl rfl (by decide +kernel) ⟨Nat.le_of_ble_eq_true rfl, Nat.le_of_ble_eq_true rfl⟩) (Nat.le_of_ble_eq_true rfl) rfl rfl rfl rfl (Nat.le_of_ble_eq_true rfl) dX6_readAll_26 rfl (fun σ5 h => ?_)
      refine vv_aload_n (q := 30) X 0 dX6_readAll_29 rfl rfl rfl ?_
      refine vv_getf (q := 33) (ref := "HalfLadders$Reader") (C := RX6) (T := TX6) (N := 4) X 6 6 2 (Nat.le_of_ble_eq_true rfl) rfl rfl (Nat.le_of_ble_eq_true rfl) (fun _ h => List.mem_cons_of_mem _ (List.mem_append_left _ (List.mem_append_left _ (List.mem_append_right _ h)))) (List.mem_of_getElem? (i := 3) rfl) rfl rfl dX6_readAll_30 rfl ?_
      refine vv_bipush (q := 35) X (6 : Int32) dX6_readAll_33 (by decide) rfl ?_
      refine vv_icmp_ne (q := 38) X 40 dX6_readAll_35 (by decide) rfl (fun c6 => ?_) (fun c6 => ?_)
      · have h := h.1 c6
        refine vv_aload_n (q := 41) X 0 dX6_readAll_40 rfl rfl rfl ?_
        refine vv_aload_n (q := 42) X 1 dX6_readAll_41 rfl rfl rfl ?_
        refine vv_cVi (q := 45) (C := RX6) X 6 6 [.ref (ad f1)] (kX6_readItem l D X.2.2.1 h) (cwV 1 X.1.2.2.2.2 gX6_readAll_X6_readItem rfl rfl rfl (by decide +kernel) ⟨Nat.le_of_ble_eq_true rfl, Nat.le_of_ble_eq_true rfl⟩) (Nat.le_of_ble_eq_true rfl) rfl rfl rfl rfl (Nat.le_of_ble_eq_true rfl) dX6_readAll_42 rfl (fun r7 σ8 h => ?_)
        refine vv_if_ne (q := 48) X 51 dX6_readAll_45 (by decide) rfl (fun c9 => ?_) (fun c9 => ?_)
        · have h := h.1 c9
          refine vv_aload_n (q := 52) X 0 dX6_readAll_51 rfl rfl rfl ?_
          refine vv_dup (q := 53) X dX6_readAll_52 rfl rfl ?_
          refine vv_getf (q := 56) (ref := "HalfLadders$Reader") (C := RX6) (T := TX6) (N := 4) X 6 6 1 (Nat.le_of_ble_eq_true rfl) rfl rfl (Nat.le_of_ble_eq_true rfl) (fun _ h => List.mem_cons_of_mem _ (List.mem_append_left _ (List.mem_append_left _ (List.mem_append_right _ h)))) (List.mem_of_getElem? (i := 2) rfl) rfl rfl dX6_readAll_53 rfl ?_
          refine vv_iconst (q := 57) X (1 : Int32) dX6_readAll_56 (by decide) rfl ?_
          refine vv_iadd (q := 58) X dX6_readAll_57 rfl ?_
          refine vv_putf (q := 61) (ref := "HalfLadders$Reader") (C := RX6) (T := TX6) (N := 4) X 6 6 1 tyX6 tyX6_ok nmX6 (Nat.le_of_ble_eq_true rfl) rfl rfl rfl (Nat.le_of_ble_eq_true rfl) rfl (fun _ h => List.mem_cons_of_mem _ (List.mem_append_left _ (List.mem_append_left _ (List.mem_append_right _ h)))) (List.mem_of_getElem? (i := 2) rfl) rfl rfl rfl dX6_readAll_58 rfl ?_
          refine vv_nm (fun σ10 hσ10 => ?_)
          have h := h σ10 hσ10
          obtain ⟨z11, hz11⟩ : ∃ y : Int32, y = x2 + (1 : Int32) := ⟨_, rfl⟩
          have h := h z11 hz11
          refine vv_iinc (v := z11) (lv2 := [(2, .int z11), (0, .ref (ad 6)), (1, .ref (ad f1))]) (q := 64) X 2 dX6_readAll_61 rfl (by rw [hz11]; rfl) (Nat.le_of_ble_eq_true rfl) rfl rfl ?_
          refine vv_goto X 18 dX6_readAll_64 (by decide) ?_
          refine vv_sub (lv' := [(0, .ref (ad 6)), (1, .ref (ad f1)), (2, .int z11)]) [1, 2, 0] rfl ?_
          exact ih σ10 z11 h
        · have h := h.2 c9
          refine vv_sub (lv' := [(0, .ref (ad 6))]) [0] rfl ?_
          exact hK48 σ8 h
      · have h := h.2 c6
        refine vv_iload_n (q := 39) X 2 dX6_readAll_38 rfl rfl rfl ?_
        exact vv_iret X hr dX6_readAll_39 h

def wX6_readAll (σ : St) (a1 : Nat) (P : Int32 → St → Prop) : Prop :=
isO a1 ∧
wX8_cutIntoTokens σ  (fun σ1 : St =>
wX3_empty σ1 a1 (fun σ2 : St =>
∀ σ3 : St, σ3 = sI σ2 6 1 (0 : Int32) →
∃ n18 : Nat, wLX6_readAll_18 a1 (fun (σ12 : St) =>
wX6_look σ12  (fun σ13 : St =>
vp_in (σ13.1 6 1) 301 ∧
P ((-10 : Int32) - (σ13.1 4 (σ13.1 6 1).toNatClampNeg)) σ13)) (fun (σ15 : St) =>
wX6_look σ15  (fun σ16 : St =>
vp_in (σ16.1 6 1) 301 ∧
P ((-10 : Int32) - (σ16.1 4 (σ16.1 6 1).toNatClampNeg)) σ16)) P n18 σ3 (0 : Int32)))

set_option maxHeartbeats 8000000 in
set_option maxRecDepth 100000 in
theorem kX6_readAll (l : Launch) (D : va_G) {cy : Nat → ClassId} {ad : Nat → Nat} {zb : Nat → Nat} (hw : xOk (wC ad cy zb)) {σ : St} {a1 : Nat} {P : Int32 → St → Prop} (h : wX6_readAll σ a1 P) : MI l yX6_readAll wsX6_readAll rmX6_readAll D cy (wC ad cy zb) [.ref (ad 6), .ref (ad a1)] σ P := by
  unfold MI
  refine vv_met (cc := cX6_readAll) (maxL := 3) (ret := (some .int)) hw (by decide +kernel) rfl [.ref (ad 6), .ref (ad a1)] (Nat.le_of_ble_eq_true rfl) ?_
  intro p e s m args below meth c X hr
  have X : XX p s m args meth c cX6_readAll 3 D cy (wC ad cy zb) wsX6_readAll RX6 := X
  refine vv_sub (lv' := [(0, .ref (ad 6)), (1, .ref (ad a1))]) [0, 1] rfl ?_
  rw [wX6_readAll] at h
  obtain ⟨ha1, h⟩ := h
  refine vv_aload_n (q := 1) X 0 dX6_readAll_0 rfl rfl rfl ?_
  refine vv_getf (q := 4) (ref := "HalfLadders$Reader") (C := RX6) (T := TX6) (N := 4) X 6 6 0 (Nat.le_of_ble_eq_true rfl) rfl rfl (Nat.le_of_ble_eq_true rfl) (fun _ h => List.mem_cons_of_mem _ (List.mem_append_left _ (List.mem_append_left _ (List.mem_append_right _ h)))) (List.mem_of_getElem? (i := 1) rfl) rfl rfl dX6_readAll_1 rfl ?_
  refine vv_cVv (q := 7) (C := RX8) X 1 8 [] (kX8_cutIntoTokens l D X.2.2.1 h) (cwV 0 X.1.2.2.2.2 gX6_readAll_X8_cutIntoTokens rfl rfl rfl (by decide +kernel) ⟨Nat.le_of_ble_eq_true rfl, Nat.le_of_ble_eq_true rfl⟩) (Nat.le_of_ble_eq_true rfl) rfl rfl rfl rfl (Nat.le_of_ble_eq_true rfl) dX6_readAll_4 rfl (fun σ1 h => ?_)
  refine vv_aload_n (q := 8) X 1 dX6_readAll_7 rfl rfl rfl ?_
  refine vv_cVv (q := 11) (C := RX3) X a1 3 [] (kX3_empty l D X.2.2.1 h) (cwV 0 X.1.2.2.2.2 gX6_readAll_X3_empty rfl rfl rfl (by decide +kernel) ⟨Nat.le_of_ble_eq_true rfl, Nat.le_of_ble_eq_true rfl⟩) (isO_lt 0 ha1 (Nat.le_of_ble_eq_true rfl)) (e_isO (ad := ad) (cy := cy) ha1 _ _) rfl rfl rfl (Nat.le_of_ble_eq_true rfl) dX6_readAll_8 rfl (fun σ2 h => ?_)
  refine vv_aload_n (q := 12) X 0 dX6_readAll_11 rfl rfl rfl ?_
  refine vv_iconst (q := 13) X (0 : Int32) dX6_readAll_12 (by decide) rfl ?_
  refine vv_putf (q := 16) (ref := "HalfLadders$Reader") (C := RX6) (T := TX6) (N := 4) X 6 6 1 tyX6 tyX6_ok nmX6 (Nat.le_of_ble_eq_true rfl) rfl rfl rfl (Nat.le_of_ble_eq_true rfl) rfl (fun _ h => List.mem_cons_of_mem _ (List.mem_append_left _ (List.mem_append_left _ (List.mem_append_right _ h)))) (List.mem_of_getElem? (i := 2) rfl) rfl rfl rfl dX6_readAll_13 rfl ?_
  refine vv_nm (fun σ3 hσ3 => ?_)
  have h := h σ3 hσ3
  refine vv_iconst (q := 17) X (0 : Int32) dX6_readAll_16 (by decide) rfl ?_
  refine vv_istore_n (lv2 := [(2, .int (0 : Int32)), (0, .ref (ad 6)), (1, .ref (ad a1))]) (q := 18) X dX6_readAll_17 rfl (Nat.le_of_ble_eq_true rfl) rfl rfl ?_
  obtain ⟨n18, h⟩ := h
  refine vv_sub (lv' := [(0, .ref (ad 6)), (1, .ref (ad a1)), (2, .int (0 : Int32))]) [1, 2, 0] rfl ?_
  refine twLX6_readAll_18 X hr a1 ha1 _ _ ?_ ?_ n18 σ3 (0 : Int32) h
  · intro σ12 h
    refine vv_aload_n (q := 68) X 0 dX6_readAll_67 rfl rfl rfl ?_
    refine vv_cVv (q := 71) (C := RX6) X 6 6 [] (kX6_look l D X.2.2.1 h) (cwV 0 X.1.2.2.2.2 gX6_readAll_X6_look rfl rfl rfl (by decide +kernel) ⟨Nat.le_of_ble_eq_true rfl, Nat.le_of_ble_eq_true rfl⟩) (Nat.le_of_ble_eq_true rfl) rfl rfl rfl rfl (Nat.le_of_ble_eq_true rfl) dX6_readAll_68 rfl (fun σ13 h => ?_)
    refine vv_bipush (q := 73) X (-10 : Int32) dX6_readAll_71 (by decide) rfl ?_
    refine vv_aload_n (q := 74) X 0 dX6_readAll_73 rfl rfl rfl ?_
    refine vv_getf (q := 77) (ref := "HalfLadders$Reader") (C := RX6) (T := TX6) (N := 4) X 6 6 0 (Nat.le_of_ble_eq_true rfl) rfl rfl (Nat.le_of_ble_eq_true rfl) (fun _ h => List.mem_cons_of_mem _ (List.mem_append_left _ (List.mem_append_left _ (List.mem_append_right _ h)))) (List.mem_of_getElem? (i := 1) rfl) rfl rfl dX6_readAll_74 rfl ?_
    refine vv_getf (q := 80) (ref := "HalfLadders$Text") (C := RX8) (T := TX8) (N := 5) X 1 8 3 (Nat.le_of_ble_eq_true rfl) rfl rfl (Nat.le_of_ble_eq_true rfl) (fun _ h => List.mem_cons_of_mem _ (List.mem_append_left _ (List.mem_append_right _ h))) (List.mem_of_getElem? (i := 4) rfl) rfl rfl dX6_readAll_77 rfl ?_
    refine vv_aload_n (q := 81) X 0 dX6_readAll_80 rfl rfl rfl ?_
    refine vv_getf (q := 84) (ref := "HalfLadders$Reader") (C := RX6) (T := TX6) (N := 4) X 6 6 1 (Nat.le_of_ble_eq_true rfl) rfl rfl (Nat.le_of_ble_eq_true rfl) (fun _ h => List.mem_cons_of_mem _ (List.mem_append_left _ (List.mem_append_left _ (List.mem_append_right _ h)))) (List.mem_of_getElem? (i := 2) rfl) rfl rfl dX6_readAll_81 rfl ?_
    obtain ⟨hin14, h⟩ := h
    refine vv_iald (q := 85) X 4 301 (Nat.le_of_ble_eq_true rfl) (fun _ => rfl) hin14 dX6_readAll_84 rfl ?_
    refine vv_isub (q := 86) X dX6_readAll_85 rfl ?_
    exact vv_iret X hr dX6_readAll_86 h
  · intro σ15 h
    refine vv_goto X 67 dX6_readAll_48 (by decide) ?_
    refine vv_aload_n (q := 68) X 0 dX6_readAll_67 rfl rfl rfl ?_
    refine vv_cVv (q := 71) (C := RX6) X 6 6 [] (kX6_look l D X.2.2.1 h) (cwV 0 X.1.2.2.2.2 gX6_readAll_X6_look rfl rfl rfl (by decide +kernel) ⟨Nat.le_of_ble_eq_true rfl, Nat.le_of_ble_eq_true rfl⟩) (Nat.le_of_ble_eq_true rfl) rfl rfl rfl rfl (Nat.le_of_ble_eq_true rfl) dX6_readAll_68 rfl (fun σ16 h => ?_)
    refine vv_bipush (q := 73) X (-10 : Int32) dX6_readAll_71 (by decide) rfl ?_
    refine vv_aload_n (q := 74) X 0 dX6_readAll_73 rfl rfl rfl ?_
    refine vv_getf (q := 77) (ref := "HalfLadders$Reader") (C := RX6) (T := TX6) (N := 4) X 6 6 0 (Nat.le_of_ble_eq_true rfl) rfl rfl (Nat.le_of_ble_eq_true rfl) (fun _ h => List.mem_cons_of_mem _ (List.mem_append_left _ (List.mem_append_left _ (List.mem_append_right _ h)))) (List.mem_of_getElem? (i := 1) rfl) rfl rfl dX6_readAll_74 rfl ?_
    refine vv_getf (q := 80) (ref := "HalfLadders$Text") (C := RX8) (T := TX8) (N := 5) X 1 8 3 (Nat.le_of_ble_eq_true rfl) rfl rfl (Nat.le_of_ble_eq_true rfl) (fun _ h => List.mem_cons_of_mem _ (List.mem_append_left _ (List.mem_append_right _ h))) (List.mem_of_getElem? (i := 4) rfl) rfl rfl dX6_readAll_77 rfl ?_
    refine vv_aload_n (q := 81) X 0 dX6_readAll_80 rfl rfl rfl ?_
    refine vv_getf (q := 84) (ref := "HalfLadders$Reader") (C := RX6) (T := TX6) (N := 4) X 6 6 1 (Nat.le_of_ble_eq_true rfl) rfl rfl (Nat.le_of_ble_eq_true rfl) (fun _ h => List.mem_cons_of_mem _ (List.mem_append_left _ (List.mem_append_left _ (List.mem_append_right _ h)))) (List.mem_of_getElem? (i := 2) rfl) rfl rfl dX6_readAll_81 rfl ?_
    obtain ⟨hin17, h⟩ := h
    refine vv_iald (q := 85) X 4 301 (Nat.le_of_ble_eq_true rfl) (fun _ => rfl) hin17 dX6_readAll_84 rfl ?_
    refine vv_isub (q := 86) X dX6_readAll_85 rfl ?_
    exact vv_iret X hr dX6_readAll_86 h

