/-! X10_isOne: isOne(I)Z -/
def rmX10_isOne : Room := { frames := 1, cells := 0, slots := 0, locals := 22 }
def wX10_isOne (σ : St) (a1 : Int32) (P : Int32 → Prop) : Prop :=
vp_in (0 : Int32) 2 ∧
wX10_in σ a1 (0 : Int32) ((σ.1 2 (0 : Int32).toNatClampNeg) - (1 : Int32)) (fun r2 : Int32 =>
(r2 = 0 ∨ r2 = 1) ∧ P r2)

set_option maxHeartbeats 8000000 in
set_option maxRecDepth 100000 in
theorem kX10_isOne (l : Launch) (D : va_G) {cy : Nat → ClassId} {ad : Nat → Nat} (hw : xOk (wM ad cy)) {σ : St} {a1 : Int32} {P : Int32 → Prop} (h : wX10_isOne σ a1 P) : MI l yX10_isOne wsX10_isOne rmX10_isOne D cy (wM ad cy) [.ref (ad 0), .int a1] σ (fun r u => P r ∧ u = σ) := by
  unfold MI
  refine vv_met (cc := cX10_isOne) (maxL := 2) (ret := (some .boolean)) hw (by decide +kernel) rfl [.ref (ad 0), .int a1] (Nat.le_of_ble_eq_true rfl) ?_
  intro p e s m args below meth c X hr
  have X : XX p s m args meth c cX10_isOne 2 D cy (wM ad cy) wsX10_isOne RX10 := X
  refine vv_sub (lv' := [(0, .ref (ad 0)), (1, .int a1)]) [0, 1] rfl ?_
  rw [wX10_isOne] at h
  refine vv_iload_n (q := 1) X 1 dX10_isOne_0 rfl rfl rfl ?_
  refine vv_iconst (q := 2) X (0 : Int32) dX10_isOne_1 (by decide) rfl ?_
  refine vv_aload_n (q := 3) X 0 dX10_isOne_2 rfl rfl rfl ?_
  refine vv_getf (q := 6) (ref := "HalfLaddersModel") (C := RX10) (T := TX10) (N := 27) X 0 10 3 (Nat.le_of_ble_eq_true rfl) rfl rfl (Nat.le_of_ble_eq_true rfl) (fun _ h => List.mem_cons_of_mem _ (List.mem_append_right _ h)) (List.mem_of_getElem? (i := 1) rfl) rfl rfl dX10_isOne_3 rfl ?_
  refine vv_iconst (q := 7) X (0 : Int32) dX10_isOne_6 (by decide) rfl ?_
  obtain ⟨hin1, h⟩ := h
  refine vv_iald (q := 8) X 2 2 (Nat.le_of_ble_eq_true rfl) (fun _ => rfl) hin1 dX10_isOne_7 rfl ?_
  refine vv_iconst (q := 9) X (1 : Int32) dX10_isOne_8 (by decide) rfl ?_
  refine vv_isub (q := 10) X dX10_isOne_9 rfl ?_
  refine vv_cSi (q := 13) X [.int a1, .int (0 : Int32), .int ((σ.1 2 (0 : Int32).toNatClampNeg) - (1 : Int32))] (kX10_in l D X.2.2.1 h) (va_cwS 3 X.1.2.2.2.2 gX10_isOne_X10_in rfl rfl rfl (by decide +kernel) ⟨Nat.le_of_ble_eq_true rfl, Nat.le_of_ble_eq_true rfl⟩) rfl rfl (Nat.le_of_ble_eq_true rfl) dX10_isOne_10 rfl (fun r2 u9 h9 => ?_)
  obtain ⟨h9, hu9⟩ := h9
  subst u9
  have h := h9
  obtain ⟨hn3, h⟩ := h
  exact vv_zret X hr (zb01 hn3) dX10_isOne_13 ⟨h, rfl⟩

/-! X10_isTree: isTree(I)Z -/
def rmX10_isTree : Room := { frames := 1, cells := 0, slots := 0, locals := 22 }
def wX10_isTree (σ : St) (a1 : Int32) (P : Int32 → Prop) : Prop :=
vp_in (0 : Int32) 2 ∧
wX10_in σ a1 (0 : Int32) ((σ.1 8 (0 : Int32).toNatClampNeg) - (1 : Int32)) (fun r2 : Int32 =>
(r2 = 0 ∨ r2 = 1) ∧ P r2)

set_option maxHeartbeats 8000000 in
set_option maxRecDepth 100000 in
theorem kX10_isTree (l : Launch) (D : va_G) {cy : Nat → ClassId} {ad : Nat → Nat} (hw : xOk (wM ad cy)) {σ : St} {a1 : Int32} {P : Int32 → Prop} (h : wX10_isTree σ a1 P) : MI l yX10_isTree wsX10_isTree rmX10_isTree D cy (wM ad cy) [.ref (ad 0), .int a1] σ (fun r u => P r ∧ u = σ) := by
  unfold MI
  refine vv_met (cc := cX10_isTree) (maxL := 2) (ret := (some .boolean)) hw (by decide +kernel) rfl [.ref (ad 0), .int a1] (Nat.le_of_ble_eq_true rfl) ?_
  intro p e s m args below meth c X hr
  have X : XX p s m args meth c cX10_isTree 2 D cy (wM ad cy) wsX10_isTree RX10 := X
  refine vv_sub (lv' := [(0, .ref (ad 0)), (1, .int a1)]) [0, 1] rfl ?_
  rw [wX10_isTree] at h
  refine vv_iload_n (q := 1) X 1 dX10_isTree_0 rfl rfl rfl ?_
  refine vv_iconst (q := 2) X (0 : Int32) dX10_isTree_1 (by decide) rfl ?_
  refine vv_aload_n (q := 3) X 0 dX10_isTree_2 rfl rfl rfl ?_
  refine vv_getf (q := 6) (ref := "HalfLaddersModel") (C := RX10) (T := TX10) (N := 27) X 0 10 9 (Nat.le_of_ble_eq_true rfl) rfl rfl (Nat.le_of_ble_eq_true rfl) (fun _ h => List.mem_cons_of_mem _ (List.mem_append_right _ h)) (List.mem_of_getElem? (i := 1) rfl) rfl rfl dX10_isTree_3 rfl ?_
  refine vv_iconst (q := 7) X (0 : Int32) dX10_isTree_6 (by decide) rfl ?_
  obtain ⟨hin1, h⟩ := h
  refine vv_iald (q := 8) X 8 2 (Nat.le_of_ble_eq_true rfl) (fun _ => rfl) hin1 dX10_isTree_7 rfl ?_
  refine vv_iconst (q := 9) X (1 : Int32) dX10_isTree_8 (by decide) rfl ?_
  refine vv_isub (q := 10) X dX10_isTree_9 rfl ?_
  refine vv_cSi (q := 13) X [.int a1, .int (0 : Int32), .int ((σ.1 8 (0 : Int32).toNatClampNeg) - (1 : Int32))] (kX10_in l D X.2.2.1 h) (va_cwS 3 X.1.2.2.2.2 gX10_isTree_X10_in rfl rfl rfl (by decide +kernel) ⟨Nat.le_of_ble_eq_true rfl, Nat.le_of_ble_eq_true rfl⟩) rfl rfl (Nat.le_of_ble_eq_true rfl) dX10_isTree_10 rfl (fun r2 u9 h9 => ?_)
  obtain ⟨h9, hu9⟩ := h9
  subst u9
  have h := h9
  obtain ⟨hn3, h⟩ := h
  exact vv_zret X hr (zb01 hn3) dX10_isTree_13 ⟨h, rfl⟩

/-! X10_fits: fits(II)Z -/
def rmX10_fits : Room := { frames := 0, cells := 0, slots := 0, locals := 0 }
def wX10_fits (σ : St) (a1 : Int32) (a2 : Int32) (P : Int32 → Prop) : Prop :=
vp_in a1 16 ∧
vp_in a2 16 ∧
((σ.1 3 a1.toNatClampNeg) = (σ.1 3 a2.toNatClampNeg) →
P (0 : Int32)) ∧
(¬ (σ.1 3 a1.toNatClampNeg) = (σ.1 3 a2.toNatClampNeg) →
vp_in a1 16 ∧
vp_in a2 16 ∧
(¬ (σ.1 4 a1.toNatClampNeg) = (σ.1 4 a2.toNatClampNeg) →
P (0 : Int32)) ∧
((σ.1 4 a1.toNatClampNeg) = (σ.1 4 a2.toNatClampNeg) →
vp_in (((8 : Int32) * a1) + a2) 128 ∧
(¬ (σ.1 7 (((8 : Int32) * a1) + a2).toNatClampNeg) = 0 →
P (0 : Int32)) ∧
((σ.1 7 (((8 : Int32) * a1) + a2).toNatClampNeg) = 0 →
P (1 : Int32))))

set_option maxHeartbeats 8000000 in
set_option maxRecDepth 100000 in
theorem kX10_fits (l : Launch) (D : va_G) {cy : Nat → ClassId} {ad : Nat → Nat} (hw : xOk (wM ad cy)) {σ : St} {a1 : Int32} {a2 : Int32} {P : Int32 → Prop} (h : wX10_fits σ a1 a2 P) : MI l yX10_fits wsX10_fits rmX10_fits D cy (wM ad cy) [.ref (ad 0), .int a1, .int a2] σ (fun r u => P r ∧ u = σ) := by
  unfold MI
  refine vv_met (cc := cX10_fits) (maxL := 3) (ret := (some .boolean)) hw (by decide +kernel) rfl [.ref (ad 0), .int a1, .int a2] (Nat.le_of_ble_eq_true rfl) ?_
  intro p e s m args below meth c X hr
  have X : XX p s m args meth c cX10_fits 3 D cy (wM ad cy) wsX10_fits RX10 := X
  refine vv_sub (lv' := [(0, .ref (ad 0)), (1, .int a1), (2, .int a2)]) [0, 1, 2] rfl ?_
  rw [wX10_fits] at h
  refine vv_aload_n (q := 1) X 0 dX10_fits_0 rfl rfl rfl ?_
  refine vv_getf (q := 4) (ref := "HalfLaddersModel") (C := RX10) (T := TX10) (N := 27) X 0 10 4 (Nat.le_of_ble_eq_true rfl) rfl rfl (Nat.le_of_ble_eq_true rfl) (fun _ h => List.mem_cons_of_mem _ (List.mem_append_right _ h)) (List.mem_of_getElem? (i := 1) rfl) rfl rfl dX10_fits_1 rfl ?_
  refine vv_iload_n (q := 5) X 1 dX10_fits_4 rfl rfl rfl ?_
  obtain ⟨hin1, h⟩ := h
  refine vv_iald (q := 6) X 3 16 (Nat.le_of_ble_eq_true rfl) (fun _ => rfl) hin1 dX10_fits_5 rfl ?_
  refine vv_aload_n (q := 7) X 0 dX10_fits_6 rfl rfl rfl ?_
  refine vv_getf (q := 10) (ref := "HalfLaddersModel") (C := RX10) (T := TX10) (N := 27) X 0 10 4 (Nat.le_of_ble_eq_true rfl) rfl rfl (Nat.le_of_ble_eq_true rfl) (fun _ h => List.mem_cons_of_mem _ (List.mem_append_right _ h)) (List.mem_of_getElem? (i := 1) rfl) rfl rfl dX10_fits_7 rfl ?_
  refine vv_iload_n (q := 11) X 2 dX10_fits_10 rfl rfl rfl ?_
  obtain ⟨hin2, h⟩ := h
  refine vv_iald (q := 12) X 3 16 (Nat.le_of_ble_eq_true rfl) (fun _ => rfl) hin2 dX10_fits_11 rfl ?_
  refine vv_icmp_eq (q := 15) X 48 dX10_fits_12 (by decide) rfl (fun c3 => ?_) (fun c3 => ?_)
  · have h := h.1 c3
    refine vv_iconst (q := 49) X (0 : Int32) dX10_fits_48 (by decide) rfl ?_
    exact vv_zret X hr rfl dX10_fits_49 ⟨h, rfl⟩
  · have h := h.2 c3
    refine vv_aload_n (q := 16) X 0 dX10_fits_15 rfl rfl rfl ?_
    refine vv_getf (q := 19) (ref := "HalfLaddersModel") (C := RX10) (T := TX10) (N := 27) X 0 10 5 (Nat.le_of_ble_eq_true rfl) rfl rfl (Nat.le_of_ble_eq_true rfl) (fun _ h => List.mem_cons_of_mem _ (List.mem_append_right _ h)) (List.mem_of_getElem? (i := 2) rfl) rfl rfl dX10_fits_16 rfl ?_
    refine vv_iload_n (q := 20) X 1 dX10_fits_19 rfl rfl rfl ?_
    obtain ⟨hin4, h⟩ := h
    refine vv_iald (q := 21) X 4 16 (Nat.le_of_ble_eq_true rfl) (fun _ => rfl) hin4 dX10_fits_20 rfl ?_
    refine vv_aload_n (q := 22) X 0 dX10_fits_21 rfl rfl rfl ?_
    refine vv_getf (q := 25) (ref := "HalfLaddersModel") (C := RX10) (T := TX10) (N := 27) X 0 10 5 (Nat.le_of_ble_eq_true rfl) rfl rfl (Nat.le_of_ble_eq_true rfl) (fun _ h => List.mem_cons_of_mem _ (List.mem_append_right _ h)) (List.mem_of_getElem? (i := 2) rfl) rfl rfl dX10_fits_22 rfl ?_
    refine vv_iload_n (q := 26) X 2 dX10_fits_25 rfl rfl rfl ?_
    obtain ⟨hin5, h⟩ := h
    refine vv_iald (q := 27) X 4 16 (Nat.le_of_ble_eq_true rfl) (fun _ => rfl) hin5 dX10_fits_26 rfl ?_
    refine vv_icmp_ne (q := 30) X 48 dX10_fits_27 (by decide) rfl (fun c6 => ?_) (fun c6 => ?_)
    · have h := h.1 c6
      refine vv_iconst (q := 49) X (0 : Int32) dX10_fits_48 (by decide) rfl ?_
      exact vv_zret X hr rfl dX10_fits_49 ⟨h, rfl⟩
    · have h := h.2 c6
      refine vv_aload_n (q := 31) X 0 dX10_fits_30 rfl rfl rfl ?_
      refine vv_getf (q := 34) (ref := "HalfLaddersModel") (C := RX10) (T := TX10) (N := 27) X 0 10 8 (Nat.le_of_ble_eq_true rfl) rfl rfl (Nat.le_of_ble_eq_true rfl) (fun _ h => List.mem_cons_of_mem _ (List.mem_append_right _ h)) (List.mem_of_getElem? (i := 3) rfl) rfl rfl dX10_fits_31 rfl ?_
      refine vv_bipush (q := 36) X (8 : Int32) dX10_fits_34 (by decide) rfl ?_
      refine vv_iload_n (q := 37) X 1 dX10_fits_36 rfl rfl rfl ?_
      refine vv_imul (q := 38) X dX10_fits_37 rfl ?_
      refine vv_iload_n (q := 39) X 2 dX10_fits_38 rfl rfl rfl ?_
      refine vv_iadd (q := 40) X dX10_fits_39 rfl ?_
      obtain ⟨hin7, h⟩ := h
      refine vv_zald (q := 41) X 7 128 (Nat.le_of_ble_eq_true rfl) (fun _ => rfl) hin7 dX10_fits_40 rfl ?_
      refine vv_if_ne (q := 44) X 48 dX10_fits_41 (by decide) rfl (fun c8 => ?_) (fun c8 => ?_)
      · have h := h.1 c8
        refine vv_iconst (q := 49) X (0 : Int32) dX10_fits_48 (by decide) rfl ?_
        exact vv_zret X hr rfl dX10_fits_49 ⟨h, rfl⟩
      · have h := h.2 c8
        refine vv_iconst (q := 45) X (1 : Int32) dX10_fits_44 (by decide) rfl ?_
        refine vv_goto X 49 dX10_fits_45 (by decide) ?_
        exact vv_zret X hr rfl dX10_fits_49 ⟨h, rfl⟩

/-! X10_ladder: ladder(II)I -/
def rmX10_ladder : Room := { frames := 0, cells := 0, slots := 0, locals := 0 }
def wX10_ladder (σ : St) (a1 : Int32) (a2 : Int32) (P : Int32 → Prop) : Prop :=
vp_in a1 16 ∧
vp_in a2 16 ∧
((σ.1 5 a2.toNatClampNeg) ≤ (σ.1 5 a1.toNatClampNeg) →
vp_in a2 16 ∧
P (σ.1 5 a2.toNatClampNeg)) ∧
(¬ (σ.1 5 a2.toNatClampNeg) ≤ (σ.1 5 a1.toNatClampNeg) →
vp_in a1 16 ∧
P (σ.1 5 a1.toNatClampNeg))

set_option maxHeartbeats 8000000 in
set_option maxRecDepth 100000 in
theorem kX10_ladder (l : Launch) (D : va_G) {cy : Nat → ClassId} {ad : Nat → Nat} (hw : xOk (wM ad cy)) {σ : St} {a1 : Int32} {a2 : Int32} {P : Int32 → Prop} (h : wX10_ladder σ a1 a2 P) : MI l yX10_ladder wsX10_ladder rmX10_ladder D cy (wM ad cy) [.ref (ad 0), .int a1, .int a2] σ (fun r u => P r ∧ u = σ) := by
  unfold MI
  refine vv_met (cc := cX10_ladder) (maxL := 3) (ret := (some .int)) hw (by decide +kernel) rfl [.ref (ad 0), .int a1, .int a2] (Nat.le_of_ble_eq_true rfl) ?_
  intro p e s m args below meth c X hr
  have X : XX p s m args meth c cX10_ladder 3 D cy (wM ad cy) wsX10_ladder RX10 := X
  refine vv_sub (lv' := [(0, .ref (ad 0)), (1, .int a1), (2, .int a2)]) [0, 1, 2] rfl ?_
  rw [wX10_ladder] at h
  refine vv_aload_n (q := 1) X 0 dX10_ladder_0 rfl rfl rfl ?_
  refine vv_getf (q := 4) (ref := "HalfLaddersModel") (C := RX10) (T := TX10) (N := 27) X 0 10 6 (Nat.le_of_ble_eq_true rfl) rfl rfl (Nat.le_of_ble_eq_true rfl) (fun _ h => List.mem_cons_of_mem _ (List.mem_append_right _ h)) (List.mem_of_getElem? (i := 1) rfl) rfl rfl dX10_ladder_1 rfl ?_
  refine vv_iload_n (q := 5) X 1 dX10_ladder_4 rfl rfl rfl ?_
  obtain ⟨hin1, h⟩ := h
  refine vv_iald (q := 6) X 5 16 (Nat.le_of_ble_eq_true rfl) (fun _ => rfl) hin1 dX10_ladder_5 rfl ?_
  refine vv_aload_n (q := 7) X 0 dX10_ladder_6 rfl rfl rfl ?_
  refine vv_getf (q := 10) (ref := "HalfLaddersModel") (C := RX10) (T := TX10) (N := 27) X 0 10 6 (Nat.le_of_ble_eq_true rfl) rfl rfl (Nat.le_of_ble_eq_true rfl) (fun _ h => List.mem_cons_of_mem _ (List.mem_append_right _ h)) (List.mem_of_getElem? (i := 1) rfl) rfl rfl dX10_ladder_7 rfl ?_
  refine vv_iload_n (q := 11) X 2 dX10_ladder_10 rfl rfl rfl ?_
  obtain ⟨hin2, h⟩ := h
  refine vv_iald (q := 12) X 5 16 (Nat.le_of_ble_eq_true rfl) (fun _ => rfl) hin2 dX10_ladder_11 rfl ?_
  refine vv_icmp_ge (q := 15) X 24 dX10_ladder_12 (by decide) rfl (fun c3 => ?_) (fun c3 => ?_)
  · have h := h.1 c3
    refine vv_aload_n (q := 25) X 0 dX10_ladder_24 rfl rfl rfl ?_
    refine vv_getf (q := 28) (ref := "HalfLaddersModel") (C := RX10) (T := TX10) (N := 27) X 0 10 6 (Nat.le_of_ble_eq_true rfl) rfl rfl (Nat.le_of_ble_eq_true rfl) (fun _ h => List.mem_cons_of_mem _ (List.mem_append_right _ h)) (List.mem_of_getElem? (i := 1) rfl) rfl rfl dX10_ladder_25 rfl ?_
    refine vv_iload_n (q := 29) X 2 dX10_ladder_28 rfl rfl rfl ?_
    obtain ⟨hin4, h⟩ := h
    refine vv_iald (q := 30) X 5 16 (Nat.le_of_ble_eq_true rfl) (fun _ => rfl) hin4 dX10_ladder_29 rfl ?_
    exact vv_iret X hr dX10_ladder_30 ⟨h, rfl⟩
  · have h := h.2 c3
    refine vv_aload_n (q := 16) X 0 dX10_ladder_15 rfl rfl rfl ?_
    refine vv_getf (q := 19) (ref := "HalfLaddersModel") (C := RX10) (T := TX10) (N := 27) X 0 10 6 (Nat.le_of_ble_eq_true rfl) rfl rfl (Nat.le_of_ble_eq_true rfl) (fun _ h => List.mem_cons_of_mem _ (List.mem_append_right _ h)) (List.mem_of_getElem? (i := 1) rfl) rfl rfl dX10_ladder_16 rfl ?_
    refine vv_iload_n (q := 20) X 1 dX10_ladder_19 rfl rfl rfl ?_
    obtain ⟨hin5, h⟩ := h
    refine vv_iald (q := 21) X 5 16 (Nat.le_of_ble_eq_true rfl) (fun _ => rfl) hin5 dX10_ladder_20 rfl ?_
    refine vv_goto X 30 dX10_ladder_21 (by decide) ?_
    exact vv_iret X hr dX10_ladder_30 ⟨h, rfl⟩

/-! X10_half: half(II)I -/
def rmX10_half : Room := { frames := 2, cells := 0, slots := 0, locals := 43 }
def wX10_half (σ : St) (a1 : Int32) (a2 : Int32) (P : Int32 → Prop) : Prop :=
wX10_isOne σ a1 (fun r1 : Int32 =>
(r1 = 0 →
P (-1 : Int32)) ∧
(¬ r1 = 0 →
wX10_in σ a2 (0 : Int32) (4 : Int32) (fun r3 : Int32 =>
(¬ r3 = 0 →
(¬ a2 = 0 →
(¬ a2 = (1 : Int32) →
(¬ a2 = (2 : Int32) →
(¬ a2 = (3 : Int32) →
vp_in (3 : Int32) 48 ∧
P (((σ.1 12 (3 : Int32).toNatClampNeg) >>> (a1 &&& 31)) &&& (1 : Int32))) ∧
(a2 = (3 : Int32) →
vp_in a1 16 ∧
P (σ.1 6 a1.toNatClampNeg))) ∧
(a2 = (2 : Int32) →
vp_in a1 16 ∧
P (σ.1 5 a1.toNatClampNeg))) ∧
(a2 = (1 : Int32) →
vp_in a1 16 ∧
P (σ.1 4 a1.toNatClampNeg))) ∧
(a2 = 0 →
vp_in a1 16 ∧
P (σ.1 3 a1.toNatClampNeg))) ∧
(r3 = 0 →
P (-1 : Int32)))))

set_option maxHeartbeats 8000000 in
set_option maxRecDepth 100000 in
theorem kX10_half (l : Launch) (D : va_G) {cy : Nat → ClassId} {ad : Nat → Nat} (hw : xOk (wM ad cy)) {σ : St} {a1 : Int32} {a2 : Int32} {P : Int32 → Prop} (h : wX10_half σ a1 a2 P) : MI l yX10_half wsX10_half rmX10_half D cy (wM ad cy) [.ref (ad 0), .int a1, .int a2] σ (fun r u => P r ∧ u = σ) := by
  unfold MI
  refine vv_met (cc := cX10_half) (maxL := 3) (ret := (some .int)) hw (by decide +kernel) rfl [.ref (ad 0), .int a1, .int a2] (Nat.le_of_ble_eq_true rfl) ?_
  intro p e s m args below meth c X hr
  have X : XX p s m args meth c cX10_half 3 D cy (wM ad cy) wsX10_half RX10 := X
  refine vv_sub (lv' := [(0, .ref (ad 0)), (1, .int a1), (2, .int a2)]) [0, 1, 2] rfl ?_
  rw [wX10_half] at h
  refine vv_aload_n (q := 1) X 0 dX10_half_0 rfl rfl rfl ?_
  refine vv_iload_n (q := 2) X 1 dX10_half_1 rfl rfl rfl ?_
  refine vv_cVi (q := 5) (C := RX10) X 0 10 [.int a1] (kX10_isOne l D X.2.2.1 h) (cwV 1 X.1.2.2.2.2 gX10_half_X10_isOne rfl rfl rfl (by decide +kernel) ⟨Nat.le_of_ble_eq_true rfl, Nat.le_of_ble_eq_true rfl⟩) (Nat.le_of_ble_eq_true rfl) rfl rfl rfl rfl (Nat.le_of_ble_eq_true rfl) dX10_half_2 rfl (fun r1 u9 h9 => ?_)
  obtain ⟨h9, hu9⟩ := h9
  subst u9
  have h := h9
  refine vv_if_eq (q := 8) X 17 dX10_half_5 (by decide) rfl (fun c2 => ?_) (fun c2 => ?_)
  · have h := h.1 c2
    refine vv_iconst (q := 18) X (-1 : Int32) dX10_half_17 (by decide) rfl ?_
    exact vv_iret X hr dX10_half_18 ⟨h, rfl⟩
  · have h := h.2 c2
    refine vv_iload_n (q := 9) X 2 dX10_half_8 rfl rfl rfl ?_
    refine vv_iconst (q := 10) X (0 : Int32) dX10_half_9 (by decide) rfl ?_
    refine vv_iconst (q := 11) X (4 : Int32) dX10_half_10 (by decide) rfl ?_
    refine vv_cSi (q := 14) X [.int a2, .int (0 : Int32), .int (4 : Int32)] (kX10_in l D X.2.2.1 h) (va_cwS 3 X.1.2.2.2.2 gX10_half_X10_in rfl rfl rfl (by decide +kernel) ⟨Nat.le_of_ble_eq_true rfl, Nat.le_of_ble_eq_true rfl⟩) rfl rfl (Nat.le_of_ble_eq_true rfl) dX10_half_11 rfl (fun r3 u9 h9 => ?_)
    obtain ⟨h9, hu9⟩ := h9
    subst u9
    have h := h9
    refine vv_if_ne (q := 17) X 19 dX10_half_14 (by decide) rfl (fun c4 => ?_) (fun c4 => ?_)
    · have h := h.1 c4
      refine vv_iload_n (q := 20) X 2 dX10_half_19 rfl rfl rfl ?_
      refine vv_if_ne (q := 23) X 32 dX10_half_20 (by decide) rfl (fun c5 => ?_) (fun c5 => ?_)
      · have h := h.1 c5
        refine vv_iload_n (q := 33) X 2 dX10_half_32 rfl rfl rfl ?_
        refine vv_iconst (q := 34) X (1 : Int32) dX10_half_33 (by decide) rfl ?_
        refine vv_icmp_ne (q := 37) X 46 dX10_half_34 (by decide) rfl (fun c6 => ?_) (fun c6 => ?_)
        · have h := h.1 c6
          refine vv_iload_n (q := 47) X 2 dX10_half_46 rfl rfl rfl ?_
          refine vv_iconst (q := 48) X (2 : Int32) dX10_half_47 (by decide) rfl ?_
          refine vv_icmp_ne (q := 51) X 60 dX10_half_48 (by decide) rfl (fun c7 => ?_) (fun c7 => ?_)
          · have h := h.1 c7
            refine vv_iload_n (q := 61) X 2 dX10_half_60 rfl rfl rfl ?_
            refine vv_iconst (q := 62) X (3 : Int32) dX10_half_61 (by decide) rfl ?_
            refine vv_icmp_ne (q := 65) X 74 dX10_half_62 (by decide) rfl (fun c8 => ?_) (fun c8 => ?_)
            · have h := h.1 c8
              refine vv_aload_n (q := 75) X 0 dX10_half_74 rfl rfl rfl ?_
              refine vv_getf (q := 78) (ref := "HalfLaddersModel") (C := RX10) (T := TX10) (N := 27) X 0 10 18 (Nat.le_of_ble_eq_true rfl) rfl rfl (Nat.le_of_ble_eq_true rfl) (fun _ h => List.mem_cons_of_mem _ (List.mem_append_right _ h)) (List.mem_of_getElem? (i := 5) rfl) rfl rfl dX10_half_75 rfl ?_
              refine vv_iconst (q := 79) X (3 : Int32) dX10_half_78 (by decide) rfl ?_
              obtain ⟨hin9, h⟩ := h
              refine vv_iald (q := 80) X 12 48 (Nat.le_of_ble_eq_true rfl) (fun _ => rfl) hin9 dX10_half_79 rfl ?_
              refine vv_iload_n (q := 81) X 1 dX10_half_80 rfl rfl rfl ?_
              refine vv_ishr (q := 82) X dX10_half_81 rfl ?_
              refine vv_iconst (q := 83) X (1 : Int32) dX10_half_82 (by decide) rfl ?_
              refine vv_iand (q := 84) X dX10_half_83 rfl ?_
              exact vv_iret X hr dX10_half_84 ⟨h, rfl⟩
            · have h := h.2 c8
              refine vv_aload_n (q := 66) X 0 dX10_half_65 rfl rfl rfl ?_
              refine vv_getf (q := 69) (ref := "HalfLaddersModel") (C := RX10) (T := TX10) (N := 27) X 0 10 7 (Nat.le_of_ble_eq_true rfl) rfl rfl (Nat.le_of_ble_eq_true rfl) (fun _ h => List.mem_cons_of_mem _ (List.mem_append_right _ h)) (List.mem_of_getElem? (i := 4) rfl) rfl rfl dX10_half_66 rfl ?_
              refine vv_iload_n (q := 70) X 1 dX10_half_69 rfl rfl rfl ?_
              obtain ⟨hin10, h⟩ := h
              refine vv_iald (q := 71) X 6 16 (Nat.le_of_ble_eq_true rfl) (fun _ => rfl) hin10 dX10_half_70 rfl ?_
              refine vv_goto X 84 dX10_half_71 (by decide) ?_
              exact vv_iret X hr dX10_half_84 ⟨h, rfl⟩
          · have h := h.2 c7
            refine vv_aload_n (q := 52) X 0 dX10_half_51 rfl rfl rfl ?_
            refine vv_getf (q := 55) (ref := "HalfLaddersModel") (C := RX10) (T := TX10) (N := 27) X 0 10 6 (Nat.le_of_ble_eq_true rfl) rfl rfl (Nat.le_of_ble_eq_true rfl) (fun _ h => List.mem_cons_of_mem _ (List.mem_append_right _ h)) (List.mem_of_getElem? (i := 3) rfl) rfl rfl dX10_half_52 rfl ?_
            refine vv_iload_n (q := 56) X 1 dX10_half_55 rfl rfl rfl ?_
            obtain ⟨hin11, h⟩ := h
            refine vv_iald (q := 57) X 5 16 (Nat.le_of_ble_eq_true rfl) (fun _ => rfl) hin11 dX10_half_56 rfl ?_
            refine vv_goto X 84 dX10_half_57 (by decide) ?_
            exact vv_iret X hr dX10_half_84 ⟨h, rfl⟩
        · have h := h.2 c6
          refine vv_aload_n (q := 38) X 0 dX10_half_37 rfl rfl rfl ?_
          refine vv_getf (q := 41) (ref := "HalfLaddersModel") (C := RX10) (T := TX10) (N := 27) X 0 10 5 (Nat.le_of_ble_eq_true rfl) rfl rfl (Nat.le_of_ble_eq_true rfl) (fun _ h => List.mem_cons_of_mem _ (List.mem_append_right _ h)) (List.mem_of_getElem? (i := 2) rfl) rfl rfl dX10_half_38 rfl ?_
          refine vv_iload_n (q := 42) X 1 dX10_half_41 rfl rfl rfl ?_
          obtain ⟨hin12, h⟩ := h
          refine vv_iald (q := 43) X 4 16 (Nat.le_of_ble_eq_true rfl) (fun _ => rfl) hin12 dX10_half_42 rfl ?_
          refine vv_goto X 84 dX10_half_43 (by decide) ?_
          exact vv_iret X hr dX10_half_84 ⟨h, rfl⟩
      · have h := h.2 c5
        refine vv_aload_n (q := 24) X 0 dX10_half_23 rfl rfl rfl ?_
        refine vv_getf (q := 27) (ref := "HalfLaddersModel") (C := RX10) (T := TX10) (N := 27) X 0 10 4 (Nat.le_of_ble_eq_true rfl) rfl rfl (Nat.le_of_ble_eq_true rfl) (fun _ h => List.mem_cons_of_mem _ (List.mem_append_right _ h)) (List.mem_of_getElem? (i := 1) rfl) rfl rfl dX10_half_24 rfl ?_
        refine vv_iload_n (q := 28) X 1 dX10_half_27 rfl rfl rfl ?_
        obtain ⟨hin13, h⟩ := h
        refine vv_iald (q := 29) X 3 16 (Nat.le_of_ble_eq_true rfl) (fun _ => rfl) hin13 dX10_half_28 rfl ?_
        refine vv_goto X 84 dX10_half_29 (by decide) ?_
        exact vv_iret X hr dX10_half_84 ⟨h, rfl⟩
    · have h := h.2 c4
      refine vv_iconst (q := 18) X (-1 : Int32) dX10_half_17 (by decide) rfl ?_
      exact vv_iret X hr dX10_half_18 ⟨h, rfl⟩

/-! X10_tree: tree(II)I -/
def rmX10_tree : Room := { frames := 2, cells := 0, slots := 0, locals := 43 }
def wX10_tree (σ : St) (a1 : Int32) (a2 : Int32) (P : Int32 → Prop) : Prop :=
wX10_isTree σ a1 (fun r1 : Int32 =>
(r1 = 0 →
P (-1 : Int32)) ∧
(¬ r1 = 0 →
wX10_in σ a2 (0 : Int32) (4 : Int32) (fun r3 : Int32 =>
(¬ r3 = 0 →
(¬ a2 = 0 →
(¬ a2 = (1 : Int32) →
(¬ a2 = (2 : Int32) →
(¬ a2 = (3 : Int32) →
vp_in (4 : Int32) 48 ∧
P (((σ.1 12 (4 : Int32).toNatClampNeg) >>> (a1 &&& 31)) &&& (1 : Int32))) ∧
(a2 = (3 : Int32) →
vp_in ((6 : Int32) + a1) 48 ∧
P (σ.1 12 ((6 : Int32) + a1).toNatClampNeg))) ∧
(a2 = (2 : Int32) →
vp_in a1 10 ∧
P (σ.1 11 a1.toNatClampNeg))) ∧
(a2 = (1 : Int32) →
vp_in a1 10 ∧
P (σ.1 10 a1.toNatClampNeg))) ∧
(a2 = 0 →
vp_in a1 10 ∧
P (σ.1 9 a1.toNatClampNeg))) ∧
(r3 = 0 →
P (-1 : Int32)))))

set_option maxHeartbeats 8000000 in
set_option maxRecDepth 100000 in
theorem kX10_tree (l : Launch) (D : va_G) {cy : Nat → ClassId} {ad : Nat → Nat} (hw : xOk (wM ad cy)) {σ : St} {a1 : Int32} {a2 : Int32} {P : Int32 → Prop} (h : wX10_tree σ a1 a2 P) : MI l yX10_tree wsX10_tree rmX10_tree D cy (wM ad cy) [.ref (ad 0), .int a1, .int a2] σ (fun r u => P r ∧ u = σ) := by
  unfold MI
  refine vv_met (cc := cX10_tree) (maxL := 3) (ret := (some .int)) hw (by decide +kernel) rfl [.ref (ad 0), .int a1, .int a2] (Nat.le_of_ble_eq_true rfl) ?_
  intro p e s m args below meth c X hr
  have X : XX p s m args meth c cX10_tree 3 D cy (wM ad cy) wsX10_tree RX10 := X
  refine vv_sub (lv' := [(0, .ref (ad 0)), (1, .int a1), (2, .int a2)]) [0, 1, 2] rfl ?_
  rw [wX10_tree] at h
  refine vv_aload_n (q := 1) X 0 dX10_tree_0 rfl rfl rfl ?_
  refine vv_iload_n (q := 2) X 1 dX10_tree_1 rfl rfl rfl ?_
  refine vv_cVi (q := 5) (C := RX10) X 0 10 [.int a1] (kX10_isTree l D X.2.2.1 h) (cwV 1 X.1.2.2.2.2 gX10_tree_X10_isTree rfl rfl rfl (by decide +kernel) ⟨Nat.le_of_ble_eq_true rfl, Nat.le_of_ble_eq_true rfl⟩) (Nat.le_of_ble_eq_true rfl) rfl rfl rfl rfl (Nat.le_of_ble_eq_true rfl) dX10_tree_2 rfl (fun r1 u9 h9 => ?_)
  obtain ⟨h9, hu9⟩ := h9
  subst u9
  have h := h9
  refine vv_if_eq (q := 8) X 17 dX10_tree_5 (by decide) rfl (fun c2 => ?_) (fun c2 => ?_)
  · have h := h.1 c2
    refine vv_iconst (q := 18) X (-1 : Int32) dX10_tree_17 (by decide) rfl ?_
    exact vv_iret X hr dX10_tree_18 ⟨h, rfl⟩
  · have h := h.2 c2
    refine vv_iload_n (q := 9) X 2 dX10_tree_8 rfl rfl rfl ?_
    refine vv_iconst (q := 10) X (0 : Int32) dX10_tree_9 (by decide) rfl ?_
    refine vv_iconst (q := 11) X (4 : Int32) dX10_tree_10 (by decide) rfl ?_
    refine vv_cSi (q := 14) X [.int a2, .int (0 : Int32), .int (4 : Int32)] (kX10_in l D X.2.2.1 h) (va_cwS 3 X.1.2.2.2.2 gX10_tree_X10_in rfl rfl rfl (by decide +kernel) ⟨Nat.le_of_ble_eq_true rfl, Nat.le_of_ble_eq_true rfl⟩) rfl rfl (Nat.le_of_ble_eq_true rfl) dX10_tree_11 rfl (fun r3 u9 h9 => ?_)
    obtain ⟨h9, hu9⟩ := h9
    subst u9
    have h := h9
    refine vv_if_ne (q := 17) X 19 dX10_tree_14 (by decide) rfl (fun c4 => ?_) (fun c4 => ?_)
    · have h := h.1 c4
      refine vv_iload_n (q := 20) X 2 dX10_tree_19 rfl rfl rfl ?_
      refine vv_if_ne (q := 23) X 32 dX10_tree_20 (by decide) rfl (fun c5 => ?_) (fun c5 => ?_)
      · have h := h.1 c5
        refine vv_iload_n (q := 33) X 2 dX10_tree_32 rfl rfl rfl ?_
        refine vv_iconst (q := 34) X (1 : Int32) dX10_tree_33 (by decide) rfl ?_
        refine vv_icmp_ne (q := 37) X 46 dX10_tree_34 (by decide) rfl (fun c6 => ?_) (fun c6 => ?_)
        · have h := h.1 c6
          refine vv_iload_n (q := 47) X 2 dX10_tree_46 rfl rfl rfl ?_
          refine vv_iconst (q := 48) X (2 : Int32) dX10_tree_47 (by decide) rfl ?_
          refine vv_icmp_ne (q := 51) X 60 dX10_tree_48 (by decide) rfl (fun c7 => ?_) (fun c7 => ?_)
          · have h := h.1 c7
            refine vv_iload_n (q := 61) X 2 dX10_tree_60 rfl rfl rfl ?_
            refine vv_iconst (q := 62) X (3 : Int32) dX10_tree_61 (by decide) rfl ?_
            refine vv_icmp_ne (q := 65) X 77 dX10_tree_62 (by decide) rfl (fun c8 => ?_) (fun c8 => ?_)
            · have h := h.1 c8
              refine vv_aload_n (q := 78) X 0 dX10_tree_77 rfl rfl rfl ?_
              refine vv_getf (q := 81) (ref := "HalfLaddersModel") (C := RX10) (T := TX10) (N := 27) X 0 10 18 (Nat.le_of_ble_eq_true rfl) rfl rfl (Nat.le_of_ble_eq_true rfl) (fun _ h => List.mem_cons_of_mem _ (List.mem_append_right _ h)) (List.mem_of_getElem? (i := 4) rfl) rfl rfl dX10_tree_78 rfl ?_
              refine vv_iconst (q := 82) X (4 : Int32) dX10_tree_81 (by decide) rfl ?_
              obtain ⟨hin9, h⟩ := h
              refine vv_iald (q := 83) X 12 48 (Nat.le_of_ble_eq_true rfl) (fun _ => rfl) hin9 dX10_tree_82 rfl ?_
              refine vv_iload_n (q := 84) X 1 dX10_tree_83 rfl rfl rfl ?_
              refine vv_ishr (q := 85) X dX10_tree_84 rfl ?_
              refine vv_iconst (q := 86) X (1 : Int32) dX10_tree_85 (by decide) rfl ?_
              refine vv_iand (q := 87) X dX10_tree_86 rfl ?_
              exact vv_iret X hr dX10_tree_87 ⟨h, rfl⟩
            · have h := h.2 c8
              refine vv_aload_n (q := 66) X 0 dX10_tree_65 rfl rfl rfl ?_
              refine vv_getf (q := 69) (ref := "HalfLaddersModel") (C := RX10) (T := TX10) (N := 27) X 0 10 18 (Nat.le_of_ble_eq_true rfl) rfl rfl (Nat.le_of_ble_eq_true rfl) (fun _ h => List.mem_cons_of_mem _ (List.mem_append_right _ h)) (List.mem_of_getElem? (i := 4) rfl) rfl rfl dX10_tree_66 rfl ?_
              refine vv_bipush (q := 71) X (6 : Int32) dX10_tree_69 (by decide) rfl ?_
              refine vv_iload_n (q := 72) X 1 dX10_tree_71 rfl rfl rfl ?_
              refine vv_iadd (q := 73) X dX10_tree_72 rfl ?_
              obtain ⟨hin10, h⟩ := h
              refine vv_iald (q := 74) X 12 48 (Nat.le_of_ble_eq_true rfl) (fun _ => rfl) hin10 dX10_tree_73 rfl ?_
              refine vv_goto X 87 dX10_tree_74 (by decide) ?_
              exact vv_iret X hr dX10_tree_87 ⟨h, rfl⟩
          · have h := h.2 c7
            refine vv_aload_n (q := 52) X 0 dX10_tree_51 rfl rfl rfl ?_
            refine vv_getf (q := 55) (ref := "HalfLaddersModel") (C := RX10) (T := TX10) (N := 27) X 0 10 12 (Nat.le_of_ble_eq_true rfl) rfl rfl (Nat.le_of_ble_eq_true rfl) (fun _ h => List.mem_cons_of_mem _ (List.mem_append_right _ h)) (List.mem_of_getElem? (i := 3) rfl) rfl rfl dX10_tree_52 rfl ?_
            refine vv_iload_n (q := 56) X 1 dX10_tree_55 rfl rfl rfl ?_
            obtain ⟨hin11, h⟩ := h
            refine vv_iald (q := 57) X 11 10 (Nat.le_of_ble_eq_true rfl) (fun _ => rfl) hin11 dX10_tree_56 rfl ?_
            refine vv_goto X 87 dX10_tree_57 (by decide) ?_
            exact vv_iret X hr dX10_tree_87 ⟨h, rfl⟩
        · have h := h.2 c6
          refine vv_aload_n (q := 38) X 0 dX10_tree_37 rfl rfl rfl ?_
          refine vv_getf (q := 41) (ref := "HalfLaddersModel") (C := RX10) (T := TX10) (N := 27) X 0 10 11 (Nat.le_of_ble_eq_true rfl) rfl rfl (Nat.le_of_ble_eq_true rfl) (fun _ h => List.mem_cons_of_mem _ (List.mem_append_right _ h)) (List.mem_of_getElem? (i := 2) rfl) rfl rfl dX10_tree_38 rfl ?_
          refine vv_iload_n (q := 42) X 1 dX10_tree_41 rfl rfl rfl ?_
          obtain ⟨hin12, h⟩ := h
          refine vv_iald (q := 43) X 10 10 (Nat.le_of_ble_eq_true rfl) (fun _ => rfl) hin12 dX10_tree_42 rfl ?_
          refine vv_goto X 87 dX10_tree_43 (by decide) ?_
          exact vv_iret X hr dX10_tree_87 ⟨h, rfl⟩
      · have h := h.2 c5
        refine vv_aload_n (q := 24) X 0 dX10_tree_23 rfl rfl rfl ?_
        refine vv_getf (q := 27) (ref := "HalfLaddersModel") (C := RX10) (T := TX10) (N := 27) X 0 10 10 (Nat.le_of_ble_eq_true rfl) rfl rfl (Nat.le_of_ble_eq_true rfl) (fun _ h => List.mem_cons_of_mem _ (List.mem_append_right _ h)) (List.mem_of_getElem? (i := 1) rfl) rfl rfl dX10_tree_24 rfl ?_
        refine vv_iload_n (q := 28) X 1 dX10_tree_27 rfl rfl rfl ?_
        obtain ⟨hin13, h⟩ := h
        refine vv_iald (q := 29) X 9 10 (Nat.le_of_ble_eq_true rfl) (fun _ => rfl) hin13 dX10_tree_28 rfl ?_
        refine vv_goto X 87 dX10_tree_29 (by decide) ?_
        exact vv_iret X hr dX10_tree_87 ⟨h, rfl⟩
    · have h := h.2 c4
      refine vv_iconst (q := 18) X (-1 : Int32) dX10_tree_17 (by decide) rfl ?_
      exact vv_iret X hr dX10_tree_18 ⟨h, rfl⟩

/-! X10_fit: fit(II)I -/
def rmX10_fit : Room := { frames := 2, cells := 0, slots := 0, locals := 43 }
def wX10_fit (σ : St) (a1 : Int32) (a2 : Int32) (P : Int32 → Prop) : Prop :=
wX10_isOne σ a1 (fun r1 : Int32 =>
(r1 = 0 →
P (-1 : Int32)) ∧
(¬ r1 = 0 →
wX10_isOne σ a2 (fun r3 : Int32 =>
(r3 = 0 →
P (-1 : Int32)) ∧
(¬ r3 = 0 →
(a1 = a2 →
P (-1 : Int32)) ∧
(¬ a1 = a2 →
wX10_fits σ a1 a2 (fun r6 : Int32 =>
(r6 = 0 →
P (0 : Int32)) ∧
(¬ r6 = 0 →
P (1 : Int32))))))))

set_option maxHeartbeats 8000000 in
set_option maxRecDepth 100000 in
theorem kX10_fit (l : Launch) (D : va_G) {cy : Nat → ClassId} {ad : Nat → Nat} (hw : xOk (wM ad cy)) {σ : St} {a1 : Int32} {a2 : Int32} {P : Int32 → Prop} (h : wX10_fit σ a1 a2 P) : MI l yX10_fit wsX10_fit rmX10_fit D cy (wM ad cy) [.ref (ad 0), .int a1, .int a2] σ (fun r u => P r ∧ u = σ) := by
  unfold MI
  refine vv_met (cc := cX10_fit) (maxL := 3) (ret := (some .int)) hw (by decide +kernel) rfl [.ref (ad 0), .int a1, .int a2] (Nat.le_of_ble_eq_true rfl) ?_
  intro p e s m args below meth c X hr
  have X : XX p s m args meth c cX10_fit 3 D cy (wM ad cy) wsX10_fit RX10 := X
  refine vv_sub (lv' := [(0, .ref (ad 0)), (1, .int a1), (2, .int a2)]) [0, 1, 2] rfl ?_
  rw [wX10_fit] at h
  refine vv_aload_n (q := 1) X 0 dX10_fit_0 rfl rfl rfl ?_
  refine vv_iload_n (q := 2) X 1 dX10_fit_1 rfl rfl rfl ?_
  refine vv_cVi (q := 5) (C := RX10) X 0 10 [.int a1] (kX10_isOne l D X.2.2.1 h) (cwV 1 X.1.2.2.2.2 gX10_fit_X10_isOne rfl rfl rfl (by decide +kernel) ⟨Nat.le_of_ble_eq_true rfl, Nat.le_of_ble_eq_true rfl⟩) (Nat.le_of_ble_eq_true rfl) rfl rfl rfl rfl (Nat.le_of_ble_eq_true rfl) dX10_fit_2 rfl (fun r1 u9 h9 => ?_)
  obtain ⟨h9, hu9⟩ := h9
  subst u9
  have h := h9
  refine vv_if_eq (q := 8) X 38 dX10_fit_5 (by decide) rfl (fun c2 => ?_) (fun c2 => ?_)
  · have h := h.1 c2
    refine vv_iconst (q := 39) X (-1 : Int32) dX10_fit_38 (by decide) rfl ?_
    exact vv_iret X hr dX10_fit_39 ⟨h, rfl⟩
  · have h := h.2 c2
    refine vv_aload_n (q := 9) X 0 dX10_fit_8 rfl rfl rfl ?_
    refine vv_iload_n (q := 10) X 2 dX10_fit_9 rfl rfl rfl ?_
    refine vv_cVi (q := 13) (C := RX10) X 0 10 [.int a2] (kX10_isOne l D X.2.2.1 h) (cwV 1 X.1.2.2.2.2 gX10_fit_X10_isOne rfl rfl rfl (by decide +kernel) ⟨Nat.le_of_ble_eq_true rfl, Nat.le_of_ble_eq_true rfl⟩) (Nat.le_of_ble_eq_true rfl) rfl rfl rfl rfl (Nat.le_of_ble_eq_true rfl) dX10_fit_10 rfl (fun r3 u9 h9 => ?_)
    obtain ⟨h9, hu9⟩ := h9
    subst u9
    have h := h9
    refine vv_if_eq (q := 16) X 38 dX10_fit_13 (by decide) rfl (fun c4 => ?_) (fun c4 => ?_)
    · have h := h.1 c4
      refine vv_iconst (q := 39) X (-1 : Int32) dX10_fit_38 (by decide) rfl ?_
      exact vv_iret X hr dX10_fit_39 ⟨h, rfl⟩
    · have h := h.2 c4
      refine vv_iload_n (q := 17) X 1 dX10_fit_16 rfl rfl rfl ?_
      refine vv_iload_n (q := 18) X 2 dX10_fit_17 rfl rfl rfl ?_
      refine vv_icmp_eq (q := 21) X 38 dX10_fit_18 (by decide) rfl (fun c5 => ?_) (fun c5 => ?_)
      · have h := h.1 c5
        refine vv_iconst (q := 39) X (-1 : Int32) dX10_fit_38 (by decide) rfl ?_
        exact vv_iret X hr dX10_fit_39 ⟨h, rfl⟩
      · have h := h.2 c5
        refine vv_aload_n (q := 22) X 0 dX10_fit_21 rfl rfl rfl ?_
        refine vv_iload_n (q := 23) X 1 dX10_fit_22 rfl rfl rfl ?_
        refine vv_iload_n (q := 24) X 2 dX10_fit_23 rfl rfl rfl ?_
        refine vv_cVi (q := 27) (C := RX10) X 0 10 [.int a1, .int a2] (kX10_fits l D X.2.2.1 h) (cwV 2 X.1.2.2.2.2 gX10_fit_X10_fits rfl rfl rfl (by decide +kernel) ⟨Nat.le_of_ble_eq_true rfl, Nat.le_of_ble_eq_true rfl⟩) (Nat.le_of_ble_eq_true rfl) rfl rfl rfl rfl (Nat.le_of_ble_eq_true rfl) dX10_fit_24 rfl (fun r6 u9 h9 => ?_)
        obtain ⟨h9, hu9⟩ := h9
        subst u9
        have h := h9
        refine vv_if_eq (q := 30) X 34 dX10_fit_27 (by decide) rfl (fun c7 => ?_) (fun c7 => ?_)
        · have h := h.1 c7
          refine vv_iconst (q := 35) X (0 : Int32) dX10_fit_34 (by decide) rfl ?_
          refine vv_goto X 39 dX10_fit_35 (by decide) ?_
          exact vv_iret X hr dX10_fit_39 ⟨h, rfl⟩
        · have h := h.2 c7
          refine vv_iconst (q := 31) X (1 : Int32) dX10_fit_30 (by decide) rfl ?_
          refine vv_goto X 39 dX10_fit_31 (by decide) ?_
          exact vv_iret X hr dX10_fit_39 ⟨h, rfl⟩

/-! X10_mayClimb: mayClimb(IIII)Z -/
def rmX10_mayClimb : Room := { frames := 1, cells := 0, slots := 0, locals := 22 }
def wX10_mayClimb (σ : St) (a1 : Int32) (a2 : Int32) (a3 : Int32) (a4 : Int32) (P : Int32 → Prop) : Prop :=
vp_in (a1 + (3 : Int32)) 48 ∧
jn (fun (v3 : Int32) =>
(v3 = 0 →
P (0 : Int32)) ∧
(¬ v3 = 0 →
wX10_fits σ a2 a3 (fun r5 : Int32 =>
(r5 = 0 →
P (0 : Int32)) ∧
(¬ r5 = 0 →
vp_in (a1 + (0 : Int32)) 48 ∧
vp_in a4 10 ∧
wX10_in σ ((σ.1 12 (a1 + (0 : Int32)).toNatClampNeg) - (σ.1 10 a4.toNatClampNeg)) (0 : Int32) (3 : Int32) (fun r9 : Int32 =>
(r9 = 0 →
P (0 : Int32)) ∧
(¬ r9 = 0 →
vp_in ((a1 + (6 : Int32)) + a4) 48 ∧
((σ.1 12 ((a1 + (6 : Int32)) + a4).toNatClampNeg) ≤ 0 →
P (0 : Int32)) ∧
(¬ (σ.1 12 ((a1 + (6 : Int32)) + a4).toNatClampNeg) ≤ 0 →
wX10_ladder σ a2 a3 (fun r13 : Int32 =>
vp_in a4 10 ∧
(r13 < (σ.1 9 a4.toNatClampNeg) →
P (0 : Int32)) ∧
(¬ r13 < (σ.1 9 a4.toNatClampNeg) →
P (1 : Int32)))))))))) (fun J2 : Int32 → Prop =>
(¬ (((σ.1 12 (a1 + (3 : Int32)).toNatClampNeg) >>> (a2 &&& 31)) &&& (1 : Int32)) = 0 →
J2 (0 : Int32)) ∧
((((σ.1 12 (a1 + (3 : Int32)).toNatClampNeg) >>> (a2 &&& 31)) &&& (1 : Int32)) = 0 →
vp_in (a1 + (3 : Int32)) 48 ∧
(¬ (((σ.1 12 (a1 + (3 : Int32)).toNatClampNeg) >>> (a3 &&& 31)) &&& (1 : Int32)) = 0 →
J2 (0 : Int32)) ∧
((((σ.1 12 (a1 + (3 : Int32)).toNatClampNeg) >>> (a3 &&& 31)) &&& (1 : Int32)) = 0 →
vp_in (a1 + (4 : Int32)) 48 ∧
(¬ (((σ.1 12 (a1 + (4 : Int32)).toNatClampNeg) >>> (a4 &&& 31)) &&& (1 : Int32)) = 0 →
J2 (0 : Int32)) ∧
((((σ.1 12 (a1 + (4 : Int32)).toNatClampNeg) >>> (a4 &&& 31)) &&& (1 : Int32)) = 0 →
J2 (1 : Int32)))))

set_option maxHeartbeats 8000000 in
set_option maxRecDepth 100000 in
theorem kX10_mayClimb (l : Launch) (D : va_G) {cy : Nat → ClassId} {ad : Nat → Nat} (hw : xOk (wM ad cy)) {σ : St} {a1 : Int32} {a2 : Int32} {a3 : Int32} {a4 : Int32} {P : Int32 → Prop} (h : wX10_mayClimb σ a1 a2 a3 a4 P) : MI l yX10_mayClimb wsX10_mayClimb rmX10_mayClimb D cy (wM ad cy) [.ref (ad 0), .int a1, .int a2, .int a3, .int a4] σ (fun r u => P r ∧ u = σ) := by
  unfold MI
  refine vv_met (cc := cX10_mayClimb) (maxL := 6) (ret := (some .boolean)) hw (by decide +kernel) rfl [.ref (ad 0), .int a1, .int a2, .int a3, .int a4] (Nat.le_of_ble_eq_true rfl) ?_
  intro p e s m args below meth c X hr
  have X : XX p s m args meth c cX10_mayClimb 6 D cy (wM ad cy) wsX10_mayClimb RX10 := X
  refine vv_sub (lv' := [(0, .ref (ad 0)), (1, .int a1), (2, .int a2), (3, .int a3), (4, .int a4)]) [0, 1, 2, 3, 4] rfl ?_
  rw [wX10_mayClimb] at h
  refine vv_aload_n (q := 1) X 0 dX10_mayClimb_0 rfl rfl rfl ?_
  refine vv_getf (q := 4) (ref := "HalfLaddersModel") (C := RX10) (T := TX10) (N := 27) X 0 10 18 (Nat.le_of_ble_eq_true rfl) rfl rfl (Nat.le_of_ble_eq_true rfl) (fun _ h => List.mem_cons_of_mem _ (List.mem_append_right _ h)) (List.mem_of_getElem? (i := 1) rfl) rfl rfl dX10_mayClimb_1 rfl ?_
  refine vv_iload_n (q := 5) X 1 dX10_mayClimb_4 rfl rfl rfl ?_
  refine vv_iconst (q := 6) X (3 : Int32) dX10_mayClimb_5 (by decide) rfl ?_
  refine vv_iadd (q := 7) X dX10_mayClimb_6 rfl ?_
  obtain ⟨hin1, h⟩ := h
  refine vv_iald (q := 8) X 12 48 (Nat.le_of_ble_eq_true rfl) (fun _ => rfl) hin1 dX10_mayClimb_7 rfl ?_
  refine vv_iload_n (q := 9) X 2 dX10_mayClimb_8 rfl rfl rfl ?_
  refine vv_ishr (q := 10) X dX10_mayClimb_9 rfl ?_
  refine vv_iconst (q := 11) X (1 : Int32) dX10_mayClimb_10 (by decide) rfl ?_
  refine vv_iand (q := 12) X dX10_mayClimb_11 rfl ?_
  obtain ⟨J2, hJ2, h⟩ := jn_el h
  have tJ2 : ∀ (v3 : Int32), J2 v3 → VV p l e rmX10_mayClimb s m args below meth c (MQ below (va_Qi (fun r u => P r ∧ u = σ) (xPost D (wM ad cy)) (xA (wM ad cy))) args s 0 0 (xA (wM ad cy))) 6 D (wM ad cy) σ 51 [(0, .ref (ad 0)), (1, .int a1), (2, .int a2), (3, .int a3), (4, .int a4)] [.int v3] := by
    intro v3 h
    rw [hJ2] at h
    refine vv_istore (lv2 := [(5, .int v3), (0, .ref (ad 0)), (1, .int a1), (2, .int a2), (3, .int a3), (4, .int a4)]) (q := 53) X dX10_mayClimb_51 (Nat.le_of_ble_eq_true rfl) rfl rfl ?_
    refine vv_iload (q := 55) X 0 dX10_mayClimb_53 rfl rfl ?_
    refine vv_if_eq (q := 58) X 126 dX10_mayClimb_55 (by decide) rfl (fun c4 => ?_) (fun c4 => ?_)
    · have h := h.1 c4
      refine vv_iconst (q := 127) X (0 : Int32) dX10_mayClimb_126 (by decide) rfl ?_
      exact vv_zret X hr rfl dX10_mayClimb_127 ⟨h, rfl⟩
    · have h := h.2 c4
      refine vv_aload_n (q := 59) X 1 dX10_mayClimb_58 rfl rfl rfl ?_
      refine vv_iload_n (q := 60) X 3 dX10_mayClimb_59 rfl rfl rfl ?_
      refine vv_iload_n (q := 61) X 4 dX10_mayClimb_60 rfl rfl rfl ?_
      refine vv_cVi (q := 64) (C := RX10) X 0 10 [.int a2, .int a3] (kX10_fits l D X.2.2.1 h) (cwV 2 X.1.2.2.2.2 gX10_mayClimb_X10_fits rfl rfl rfl (by decide +kernel) ⟨Nat.le_of_ble_eq_true rfl, Nat.le_of_ble_eq_true rfl⟩) (Nat.le_of_ble_eq_true rfl) rfl rfl rfl rfl (Nat.le_of_ble_eq_true rfl) dX10_mayClimb_61 rfl (fun r5 u9 h9 => ?_)
      obtain ⟨h9, hu9⟩ := h9
      subst u9
      have h := h9
      refine vv_if_eq (q := 67) X 126 dX10_mayClimb_64 (by decide) rfl (fun c6 => ?_) (fun c6 => ?_)
      · have h := h.1 c6
        refine vv_iconst (q := 127) X (0 : Int32) dX10_mayClimb_126 (by decide) rfl ?_
        exact vv_zret X hr rfl dX10_mayClimb_127 ⟨h, rfl⟩
      · have h := h.2 c6
        refine vv_aload_n (q := 68) X 1 dX10_mayClimb_67 rfl rfl rfl ?_
        refine vv_getf (q := 71) (ref := "HalfLaddersModel") (C := RX10) (T := TX10) (N := 27) X 0 10 18 (Nat.le_of_ble_eq_true rfl) rfl rfl (Nat.le_of_ble_eq_true rfl) (fun _ h => List.mem_cons_of_mem _ (List.mem_append_right _ h)) (List.mem_of_getElem? (i := 1) rfl) rfl rfl dX10_mayClimb_68 rfl ?_
        refine vv_iload_n (q := 72) X 2 dX10_mayClimb_71 rfl rfl rfl ?_
        refine vv_iconst (q := 73) X (0 : Int32) dX10_mayClimb_72 (by decide) rfl ?_
        refine vv_iadd (q := 74) X dX10_mayClimb_73 rfl ?_
        obtain ⟨hin7, h⟩ := h
        refine vv_iald (q := 75) X 12 48 (Nat.le_of_ble_eq_true rfl) (fun _ => rfl) hin7 dX10_mayClimb_74 rfl ?_
        refine vv_aload_n (q := 76) X 1 dX10_mayClimb_75 rfl rfl rfl ?_
        refine vv_getf (q := 79) (ref := "HalfLaddersModel") (C := RX10) (T := TX10) (N := 27) X 0 10 11 (Nat.le_of_ble_eq_true rfl) rfl rfl (Nat.le_of_ble_eq_true rfl) (fun _ h => List.mem_cons_of_mem _ (List.mem_append_right _ h)) (List.mem_of_getElem? (i := 2) rfl) rfl rfl dX10_mayClimb_76 rfl ?_
        refine vv_iload (q := 81) X 5 dX10_mayClimb_79 rfl rfl ?_
        obtain ⟨hin8, h⟩ := h
        refine vv_iald (q := 82) X 10 10 (Nat.le_of_ble_eq_true rfl) (fun _ => rfl) hin8 dX10_mayClimb_81 rfl ?_
        refine vv_isub (q := 83) X dX10_mayClimb_82 rfl ?_
        refine vv_iconst (q := 84) X (0 : Int32) dX10_mayClimb_83 (by decide) rfl ?_
        refine vv_iconst (q := 85) X (3 : Int32) dX10_mayClimb_84 (by decide) rfl ?_
        refine vv_cSi (q := 88) X [.int ((σ.1 12 (a1 + (0 : Int32)).toNatClampNeg) - (σ.1 10 a4.toNatClampNeg)), .int (0 : Int32), .int (3 : Int32)] (kX10_in l D X.2.2.1 h) (va_cwS 3 X.1.2.2.2.2 gX10_mayClimb_X10_in rfl rfl rfl (by decide +kernel) ⟨Nat.le_of_ble_eq_true rfl, Nat.le_of_ble_eq_true rfl⟩) rfl rfl (Nat.le_of_ble_eq_true rfl) dX10_mayClimb_85 rfl (fun r9 u9 h9 => ?_)
        obtain ⟨h9, hu9⟩ := h9
        subst u9
        have h := h9
        refine vv_if_eq (q := 91) X 126 dX10_mayClimb_88 (by decide) rfl (fun c10 => ?_) (fun c10 => ?_)
        · have h := h.1 c10
          refine vv_iconst (q := 127) X (0 : Int32) dX10_mayClimb_126 (by decide) rfl ?_
          exact vv_zret X hr rfl dX10_mayClimb_127 ⟨h, rfl⟩
        · have h := h.2 c10
          refine vv_aload_n (q := 92) X 1 dX10_mayClimb_91 rfl rfl rfl ?_
          refine vv_getf (q := 95) (ref := "HalfLaddersModel") (C := RX10) (T := TX10) (N := 27) X 0 10 18 (Nat.le_of_ble_eq_true rfl) rfl rfl (Nat.le_of_ble_eq_true rfl) (fun _ h => List.mem_cons_of_mem _ (List.mem_append_right _ h)) (List.mem_of_getElem? (i := 1) rfl) rfl rfl dX10_mayClimb_92 rfl ?_
          refine vv_iload_n (q := 96) X 2 dX10_mayClimb_95 rfl rfl rfl ?_
          refine vv_bipush (q := 98) X (6 : Int32) dX10_mayClimb_96 (by decide) rfl ?_
          refine vv_iadd (q := 99) X dX10_mayClimb_98 rfl ?_
          refine vv_iload (q := 101) X 5 dX10_mayClimb_99 rfl rfl ?_
          refine vv_iadd (q := 102) X dX10_mayClimb_101 rfl ?_
          obtain ⟨hin11, h⟩ := h
          refine vv_iald (q := 103) X 12 48 (Nat.le_of_ble_eq_true rfl) (fun _ => rfl) hin11 dX10_mayClimb_102 rfl ?_
          refine vv_if_le (q := 106) X 126 dX10_mayClimb_103 (by decide) rfl (fun c12 => ?_) (fun c12 => ?_)
          · have h := h.1 c12
            refine vv_iconst (q := 127) X (0 : Int32) dX10_mayClimb_126 (by decide) rfl ?_
            exact vv_zret X hr rfl dX10_mayClimb_127 ⟨h, rfl⟩
          · have h := h.2 c12
            refine vv_aload_n (q := 107) X 1 dX10_mayClimb_106 rfl rfl rfl ?_
            refine vv_iload_n (q := 108) X 3 dX10_mayClimb_107 rfl rfl rfl ?_
            refine vv_iload_n (q := 109) X 4 dX10_mayClimb_108 rfl rfl rfl ?_
            refine vv_cVi (q := 112) (C := RX10) X 0 10 [.int a2, .int a3] (kX10_ladder l D X.2.2.1 h) (cwV 2 X.1.2.2.2.2 gX10_mayClimb_X10_ladder rfl rfl rfl (by decide +kernel) ⟨Nat.le_of_ble_eq_true rfl, Nat.le_of_ble_eq_true rfl⟩) (Nat.le_of_ble_eq_true rfl) rfl rfl rfl rfl (Nat.le_of_ble_eq_true rfl) dX10_mayClimb_109 rfl (fun r13 u9 h9 => ?_)
            obtain ⟨h9, hu9⟩ := h9
            subst u9
            have h := h9
            refine vv_aload_n (q := 113) X 1 dX10_mayClimb_112 rfl rfl rfl ?_
            refine vv_getf (q := 116) (ref := "HalfLaddersModel") (C := RX10) (T := TX10) (N := 27) X 0 10 10 (Nat.le_of_ble_eq_true rfl) rfl rfl (Nat.le_of_ble_eq_true rfl) (fun _ h => List.mem_cons_of_mem _ (List.mem_append_right _ h)) (List.mem_of_getElem? (i := 3) rfl) rfl rfl dX10_mayClimb_113 rfl ?_
            refine vv_iload (q := 118) X 5 dX10_mayClimb_116 rfl rfl ?_
            obtain ⟨hin14, h⟩ := h
            refine vv_iald (q := 119) X 9 10 (Nat.le_of_ble_eq_true rfl) (fun _ => rfl) hin14 dX10_mayClimb_118 rfl ?_
            refine vv_icmp_lt (q := 122) X 126 dX10_mayClimb_119 (by decide) rfl (fun c15 => ?_) (fun c15 => ?_)
            · have h := h.1 c15
              refine vv_iconst (q := 127) X (0 : Int32) dX10_mayClimb_126 (by decide) rfl ?_
              exact vv_zret X hr rfl dX10_mayClimb_127 ⟨h, rfl⟩
            · have h := h.2 c15
              refine vv_iconst (q := 123) X (1 : Int32) dX10_mayClimb_122 (by decide) rfl ?_
              refine vv_goto X 127 dX10_mayClimb_123 (by decide) ?_
              exact vv_zret X hr rfl dX10_mayClimb_127 ⟨h, rfl⟩
  refine vv_if_ne (q := 15) X 50 dX10_mayClimb_12 (by decide) rfl (fun c16 => ?_) (fun c16 => ?_)
  · have h := h.1 c16
    refine vv_iconst (q := 51) X (0 : Int32) dX10_mayClimb_50 (by decide) rfl ?_
    exact tJ2 (0 : Int32) h
  · have h := h.2 c16
    refine vv_aload_n (q := 16) X 0 dX10_mayClimb_15 rfl rfl rfl ?_
    refine vv_getf (q := 19) (ref := "HalfLaddersModel") (C := RX10) (T := TX10) (N := 27) X 0 10 18 (Nat.le_of_ble_eq_true rfl) rfl rfl (Nat.le_of_ble_eq_true rfl) (fun _ h => List.mem_cons_of_mem _ (List.mem_append_right _ h)) (List.mem_of_getElem? (i := 1) rfl) rfl rfl dX10_mayClimb_16 rfl ?_
    refine vv_iload_n (q := 20) X 1 dX10_mayClimb_19 rfl rfl rfl ?_
    refine vv_iconst (q := 21) X (3 : Int32) dX10_mayClimb_20 (by decide) rfl ?_
    refine vv_iadd (q := 22) X dX10_mayClimb_21 rfl ?_
    obtain ⟨hin17, h⟩ := h
    refine vv_iald (q := 23) X 12 48 (Nat.le_of_ble_eq_true rfl) (fun _ => rfl) hin17 dX10_mayClimb_22 rfl ?_
    refine vv_iload_n (q := 24) X 3 dX10_mayClimb_23 rfl rfl rfl ?_
    refine vv_ishr (q := 25) X dX10_mayClimb_24 rfl ?_
    refine vv_iconst (q := 26) X (1 : Int32) dX10_mayClimb_25 (by decide) rfl ?_
    refine vv_iand (q := 27) X dX10_mayClimb_26 rfl ?_
    refine vv_if_ne (q := 30) X 50 dX10_mayClimb_27 (by decide) rfl (fun c18 => ?_) (fun c18 => ?_)
    · have h := h.1 c18
      refine vv_iconst (q := 51) X (0 : Int32) dX10_mayClimb_50 (by decide) rfl ?_
      exact tJ2 (0 : Int32) h
    · have h := h.2 c18
      refine vv_aload_n (q := 31) X 0 dX10_mayClimb_30 rfl rfl rfl ?_
      refine vv_getf (q := 34) (ref := "HalfLaddersModel") (C := RX10) (T := TX10) (N := 27) X 0 10 18 (Nat.le_of_ble_eq_true rfl) rfl rfl (Nat.le_of_ble_eq_true rfl) (fun _ h => List.mem_cons_of_mem _ (List.mem_append_right _ h)) (List.mem_of_getElem? (i := 1) rfl) rfl rfl dX10_mayClimb_31 rfl ?_
      refine vv_iload_n (q := 35) X 1 dX10_mayClimb_34 rfl rfl rfl ?_
      refine vv_iconst (q := 36) X (4 : Int32) dX10_mayClimb_35 (by decide) rfl ?_
      refine vv_iadd (q := 37) X dX10_mayClimb_36 rfl ?_
      obtain ⟨hin19, h⟩ := h
      refine vv_iald (q := 38) X 12 48 (Nat.le_of_ble_eq_true rfl) (fun _ => rfl) hin19 dX10_mayClimb_37 rfl ?_
      refine vv_iload (q := 40) X 4 dX10_mayClimb_38 rfl rfl ?_
      refine vv_ishr (q := 41) X dX10_mayClimb_40 rfl ?_
      refine vv_iconst (q := 42) X (1 : Int32) dX10_mayClimb_41 (by decide) rfl ?_
      refine vv_iand (q := 43) X dX10_mayClimb_42 rfl ?_
      refine vv_if_ne (q := 46) X 50 dX10_mayClimb_43 (by decide) rfl (fun c20 => ?_) (fun c20 => ?_)
      · have h := h.1 c20
        refine vv_iconst (q := 51) X (0 : Int32) dX10_mayClimb_50 (by decide) rfl ?_
        exact tJ2 (0 : Int32) h
      · have h := h.2 c20
        refine vv_iconst (q := 47) X (1 : Int32) dX10_mayClimb_46 (by decide) rfl ?_
        refine vv_goto X 51 dX10_mayClimb_47 (by decide) ?_
        exact tJ2 (1 : Int32) h

/-! X10_picks: picks(IIII)I -/
def rmX10_picks : Room := { frames := 0, cells := 0, slots := 0, locals := 0 }
def wX10_picks (σ : St) (a1 : Int32) (a2 : Int32) (a3 : Int32) (a4 : Int32) (P : Int32 → Prop) : Prop :=
vp_in a2 16 ∧
vp_in a3 16 ∧
∀ z3 : Int32, z3 = ((σ.1 6 a2.toNatClampNeg) + (σ.1 6 a3.toNatClampNeg)) →
vp_in ((a1 + (6 : Int32)) + a4) 48 ∧
((σ.1 12 ((a1 + (6 : Int32)) + a4).toNatClampNeg) ≤ z3 →
vp_in ((a1 + (6 : Int32)) + a4) 48 ∧
P (σ.1 12 ((a1 + (6 : Int32)) + a4).toNatClampNeg)) ∧
(¬ (σ.1 12 ((a1 + (6 : Int32)) + a4).toNatClampNeg) ≤ z3 →
P z3)

set_option maxHeartbeats 8000000 in
set_option maxRecDepth 100000 in
theorem kX10_picks (l : Launch) (D : va_G) {cy : Nat → ClassId} {ad : Nat → Nat} (hw : xOk (wM ad cy)) {σ : St} {a1 : Int32} {a2 : Int32} {a3 : Int32} {a4 : Int32} {P : Int32 → Prop} (h : wX10_picks σ a1 a2 a3 a4 P) : MI l yX10_picks wsX10_picks rmX10_picks D cy (wM ad cy) [.ref (ad 0), .int a1, .int a2, .int a3, .int a4] σ (fun r u => P r ∧ u = σ) := by
  unfold MI
  refine vv_met (cc := cX10_picks) (maxL := 6) (ret := (some .int)) hw (by decide +kernel) rfl [.ref (ad 0), .int a1, .int a2, .int a3, .int a4] (Nat.le_of_ble_eq_true rfl) ?_
  intro p e s m args below meth c X hr
  have X : XX p s m args meth c cX10_picks 6 D cy (wM ad cy) wsX10_picks RX10 := X
  refine vv_sub (lv' := [(0, .ref (ad 0)), (1, .int a1), (2, .int a2), (3, .int a3), (4, .int a4)]) [0, 1, 2, 3, 4] rfl ?_
  rw [wX10_picks] at h
  refine vv_aload_n (q := 1) X 0 dX10_picks_0 rfl rfl rfl ?_
  refine vv_getf (q := 4) (ref := "HalfLaddersModel") (C := RX10) (T := TX10) (N := 27) X 0 10 7 (Nat.le_of_ble_eq_true rfl) rfl rfl (Nat.le_of_ble_eq_true rfl) (fun _ h => List.mem_cons_of_mem _ (List.mem_append_right _ h)) (List.mem_of_getElem? (i := 1) rfl) rfl rfl dX10_picks_1 rfl ?_
  refine vv_iload_n (q := 5) X 2 dX10_picks_4 rfl rfl rfl ?_
  obtain ⟨hin1, h⟩ := h
  refine vv_iald (q := 6) X 6 16 (Nat.le_of_ble_eq_true rfl) (fun _ => rfl) hin1 dX10_picks_5 rfl ?_
  refine vv_aload_n (q := 7) X 0 dX10_picks_6 rfl rfl rfl ?_
  refine vv_getf (q := 10) (ref := "HalfLaddersModel") (C := RX10) (T := TX10) (N := 27) X 0 10 7 (Nat.le_of_ble_eq_true rfl) rfl rfl (Nat.le_of_ble_eq_true rfl) (fun _ h => List.mem_cons_of_mem _ (List.mem_append_right _ h)) (List.mem_of_getElem? (i := 1) rfl) rfl rfl dX10_picks_7 rfl ?_
  refine vv_iload_n (q := 11) X 3 dX10_picks_10 rfl rfl rfl ?_
  obtain ⟨hin2, h⟩ := h
  refine vv_iald (q := 12) X 6 16 (Nat.le_of_ble_eq_true rfl) (fun _ => rfl) hin2 dX10_picks_11 rfl ?_
  refine vv_iadd (q := 13) X dX10_picks_12 rfl ?_
  refine vv_topi (fun z3 hz3 => ?_)
  have h := h z3 hz3
  refine vv_istore (lv2 := [(5, .int z3), (0, .ref (ad 0)), (1, .int a1), (2, .int a2), (3, .int a3), (4, .int a4)]) (q := 15) X dX10_picks_13 (Nat.le_of_ble_eq_true rfl) rfl rfl ?_
  refine vv_iload (q := 17) X 0 dX10_picks_15 rfl rfl ?_
  refine vv_aload_n (q := 18) X 1 dX10_picks_17 rfl rfl rfl ?_
  refine vv_getf (q := 21) (ref := "HalfLaddersModel") (C := RX10) (T := TX10) (N := 27) X 0 10 18 (Nat.le_of_ble_eq_true rfl) rfl rfl (Nat.le_of_ble_eq_true rfl) (fun _ h => List.mem_cons_of_mem _ (List.mem_append_right _ h)) (List.mem_of_getElem? (i := 2) rfl) rfl rfl dX10_picks_18 rfl ?_
  refine vv_iload_n (q := 22) X 2 dX10_picks_21 rfl rfl rfl ?_
  refine vv_bipush (q := 24) X (6 : Int32) dX10_picks_22 (by decide) rfl ?_
  refine vv_iadd (q := 25) X dX10_picks_24 rfl ?_
  refine vv_iload (q := 27) X 5 dX10_picks_25 rfl rfl ?_
  refine vv_iadd (q := 28) X dX10_picks_27 rfl ?_
  obtain ⟨hin4, h⟩ := h
  refine vv_iald (q := 29) X 12 48 (Nat.le_of_ble_eq_true rfl) (fun _ => rfl) hin4 dX10_picks_28 rfl ?_
  refine vv_icmp_ge (q := 32) X 37 dX10_picks_29 (by decide) rfl (fun c5 => ?_) (fun c5 => ?_)
  · have h := h.1 c5
    refine vv_aload_n (q := 38) X 1 dX10_picks_37 rfl rfl rfl ?_
    refine vv_getf (q := 41) (ref := "HalfLaddersModel") (C := RX10) (T := TX10) (N := 27) X 0 10 18 (Nat.le_of_ble_eq_true rfl) rfl rfl (Nat.le_of_ble_eq_true rfl) (fun _ h => List.mem_cons_of_mem _ (List.mem_append_right _ h)) (List.mem_of_getElem? (i := 2) rfl) rfl rfl dX10_picks_38 rfl ?_
    refine vv_iload_n (q := 42) X 2 dX10_picks_41 rfl rfl rfl ?_
    refine vv_bipush (q := 44) X (6 : Int32) dX10_picks_42 (by decide) rfl ?_
    refine vv_iadd (q := 45) X dX10_picks_44 rfl ?_
    refine vv_iload (q := 47) X 5 dX10_picks_45 rfl rfl ?_
    refine vv_iadd (q := 48) X dX10_picks_47 rfl ?_
    obtain ⟨hin6, h⟩ := h
    refine vv_iald (q := 49) X 12 48 (Nat.le_of_ble_eq_true rfl) (fun _ => rfl) hin6 dX10_picks_48 rfl ?_
    exact vv_iret X hr dX10_picks_49 ⟨h, rfl⟩
  · have h := h.2 c5
    refine vv_iload (q := 34) X 0 dX10_picks_32 rfl rfl ?_
    refine vv_goto X 49 dX10_picks_34 (by decide) ?_
    exact vv_iret X hr dX10_picks_49 ⟨h, rfl⟩

/-! X10_climbs: climbs(IIII)I -/
def rmX10_climbs : Room := { frames := 1, cells := 0, slots := 0, locals := 25 }
def wX10_climbs (σ : St) (a1 : Int32) (a2 : Int32) (a3 : Int32) (a4 : Int32) (P : Int32 → St → Prop) : Prop :=
wX10_picks σ a1 a2 a3 a4 (fun r1 : Int32 =>
vp_in ((a1 + (6 : Int32)) + a4) 48 ∧
vp_in ((a1 + (6 : Int32)) + a4) 48 ∧
∀ σ4 : St, σ4 = sI σ 12 ((a1 + (6 : Int32)) + a4).toNatClampNeg ((σ.1 12 ((a1 + (6 : Int32)) + a4).toNatClampNeg) - r1) →
vp_in (a1 + (1 : Int32)) 48 ∧
vp_in (a1 + (1 : Int32)) 48 ∧
∀ σ7 : St, σ7 = sI σ4 12 (a1 + (1 : Int32)).toNatClampNeg ((σ4.1 12 (a1 + (1 : Int32)).toNatClampNeg) + r1) →
vp_in (a1 + (3 : Int32)) 48 ∧
vp_in (a1 + (3 : Int32)) 48 ∧
∀ σ10 : St, σ10 = sI σ7 12 (a1 + (3 : Int32)).toNatClampNeg ((σ7.1 12 (a1 + (3 : Int32)).toNatClampNeg) ||| (((1 : Int32) <<< (a2 &&& 31)) ||| ((1 : Int32) <<< (a3 &&& 31)))) →
vp_in (a1 + (4 : Int32)) 48 ∧
vp_in (a1 + (4 : Int32)) 48 ∧
∀ σ13 : St, σ13 = sI σ10 12 (a1 + (4 : Int32)).toNatClampNeg ((σ10.1 12 (a1 + (4 : Int32)).toNatClampNeg) ||| ((1 : Int32) <<< (a4 &&& 31))) →
P r1 σ13)

set_option maxHeartbeats 8000000 in
set_option maxRecDepth 100000 in
theorem kX10_climbs (l : Launch) (D : va_G) {cy : Nat → ClassId} {ad : Nat → Nat} (hw : xOk (wM ad cy)) {σ : St} {a1 : Int32} {a2 : Int32} {a3 : Int32} {a4 : Int32} {P : Int32 → St → Prop} (h : wX10_climbs σ a1 a2 a3 a4 P) : MI l yX10_climbs wsX10_climbs rmX10_climbs D cy (wM ad cy) [.ref (ad 0), .int a1, .int a2, .int a3, .int a4] σ P := by
  unfold MI
  refine vv_met (cc := cX10_climbs) (maxL := 6) (ret := (some .int)) hw (by decide +kernel) rfl [.ref (ad 0), .int a1, .int a2, .int a3, .int a4] (Nat.le_of_ble_eq_true rfl) ?_
  intro p e s m args below meth c X hr
  have X : XX p s m args meth c cX10_climbs 6 D cy (wM ad cy) wsX10_climbs RX10 := X
  refine vv_sub (lv' := [(0, .ref (ad 0)), (1, .int a1), (2, .int a2), (3, .int a3), (4, .int a4)]) [0, 1, 2, 3, 4] rfl ?_
  rw [wX10_climbs] at h
  refine vv_aload_n (q := 1) X 0 dX10_climbs_0 rfl rfl rfl ?_
  refine vv_iload_n (q := 2) X 1 dX10_climbs_1 rfl rfl rfl ?_
  refine vv_iload_n (q := 3) X 2 dX10_climbs_2 rfl rfl rfl ?_
  refine vv_iload_n (q := 4) X 3 dX10_climbs_3 rfl rfl rfl ?_
  refine vv_iload (q := 6) X 4 dX10_climbs_4 rfl rfl ?_
  refine vv_cVi (q := 9) (C := RX10) X 0 10 [.int a1, .int a2, .int a3, .int a4] (kX10_picks l D X.2.2.1 h) (cwV 4 X.1.2.2.2.2 gX10_climbs_X10_picks rfl rfl rfl (by decide +kernel) ⟨Nat.le_of_ble_eq_true rfl, Nat.le_of_ble_eq_true rfl⟩) (Nat.le_of_ble_eq_true rfl) rfl rfl rfl rfl (Nat.le_of_ble_eq_true rfl) dX10_climbs_6 rfl (fun r1 u9 h9 => ?_)
  obtain ⟨h9, hu9⟩ := h9
  subst u9
  have h := h9
  refine vv_istore (lv2 := [(5, .int r1), (0, .ref (ad 0)), (1, .int a1), (2, .int a2), (3, .int a3), (4, .int a4)]) (q := 11) X dX10_climbs_9 (Nat.le_of_ble_eq_true rfl) rfl rfl ?_
  refine vv_aload_n (q := 12) X 1 dX10_climbs_11 rfl rfl rfl ?_
  refine vv_getf (q := 15) (ref := "HalfLaddersModel") (C := RX10) (T := TX10) (N := 27) X 0 10 18 (Nat.le_of_ble_eq_true rfl) rfl rfl (Nat.le_of_ble_eq_true rfl) (fun _ h => List.mem_cons_of_mem _ (List.mem_append_right _ h)) (List.mem_of_getElem? (i := 1) rfl) rfl rfl dX10_climbs_12 rfl ?_
  refine vv_iload_n (q := 16) X 2 dX10_climbs_15 rfl rfl rfl ?_
  refine vv_bipush (q := 18) X (6 : Int32) dX10_climbs_16 (by decide) rfl ?_
  refine vv_iadd (q := 19) X dX10_climbs_18 rfl ?_
  refine vv_iload (q := 21) X 5 dX10_climbs_19 rfl rfl ?_
  refine vv_iadd (q := 22) X dX10_climbs_21 rfl ?_
  refine vv_dup2 (q := 23) X dX10_climbs_22 rfl rfl rfl ?_
  obtain ⟨hin2, h⟩ := h
  refine vv_iald (q := 24) X 12 48 (Nat.le_of_ble_eq_true rfl) (fun _ => rfl) hin2 dX10_climbs_23 rfl ?_
  refine vv_iload (q := 26) X 0 dX10_climbs_24 rfl rfl ?_
  refine vv_isub (q := 27) X dX10_climbs_26 rfl ?_
  obtain ⟨hin3, h⟩ := h
  refine vv_iast (q := 28) X 12 48 (Nat.le_of_ble_eq_true rfl) (fun _ => rfl) hin3 dX10_climbs_27 rfl ?_
  refine vv_nm (fun σ4 hσ4 => ?_)
  have h := h σ4 hσ4
  refine vv_aload_n (q := 29) X 1 dX10_climbs_28 rfl rfl rfl ?_
  refine vv_getf (q := 32) (ref := "HalfLaddersModel") (C := RX10) (T := TX10) (N := 27) X 0 10 18 (Nat.le_of_ble_eq_true rfl) rfl rfl (Nat.le_of_ble_eq_true rfl) (fun _ h => List.mem_cons_of_mem _ (List.mem_append_right _ h)) (List.mem_of_getElem? (i := 1) rfl) rfl rfl dX10_climbs_29 rfl ?_
  refine vv_iload_n (q := 33) X 2 dX10_climbs_32 rfl rfl rfl ?_
  refine vv_iconst (q := 34) X (1 : Int32) dX10_climbs_33 (by decide) rfl ?_
  refine vv_iadd (q := 35) X dX10_climbs_34 rfl ?_
  refine vv_dup2 (q := 36) X dX10_climbs_35 rfl rfl rfl ?_
  obtain ⟨hin5, h⟩ := h
  refine vv_iald (q := 37) X 12 48 (Nat.le_of_ble_eq_true rfl) (fun _ => rfl) hin5 dX10_climbs_36 rfl ?_
  refine vv_iload (q := 39) X 0 dX10_climbs_37 rfl rfl ?_
  refine vv_iadd (q := 40) X dX10_climbs_39 rfl ?_
  obtain ⟨hin6, h⟩ := h
  refine vv_iast (q := 41) X 12 48 (Nat.le_of_ble_eq_true rfl) (fun _ => rfl) hin6 dX10_climbs_40 rfl ?_
  refine vv_nm (fun σ7 hσ7 => ?_)
  have h := h σ7 hσ7
  refine vv_aload_n (q := 42) X 1 dX10_climbs_41 rfl rfl rfl ?_
  refine vv_getf (q := 45) (ref := "HalfLaddersModel") (C := RX10) (T := TX10) (N := 27) X 0 10 18 (Nat.le_of_ble_eq_true rfl) rfl rfl (Nat.le_of_ble_eq_true rfl) (fun _ h => List.mem_cons_of_mem _ (List.mem_append_right _ h)) (List.mem_of_getElem? (i := 1) rfl) rfl rfl dX10_climbs_42 rfl ?_
  refine vv_iload_n (q := 46) X 2 dX10_climbs_45 rfl rfl rfl ?_
  refine vv_iconst (q := 47) X (3 : Int32) dX10_climbs_46 (by decide) rfl ?_
  refine vv_iadd (q := 48) X dX10_climbs_47 rfl ?_
  refine vv_dup2 (q := 49) X dX10_climbs_48 rfl rfl rfl ?_
  obtain ⟨hin8, h⟩ := h
  refine vv_iald (q := 50) X 12 48 (Nat.le_of_ble_eq_true rfl) (fun _ => rfl) hin8 dX10_climbs_49 rfl ?_
  refine vv_iconst (q := 51) X (1 : Int32) dX10_climbs_50 (by decide) rfl ?_
  refine vv_iload_n (q := 52) X 3 dX10_climbs_51 rfl rfl rfl ?_
  refine vv_ishl (q := 53) X dX10_climbs_52 rfl ?_
  refine vv_iconst (q := 54) X (1 : Int32) dX10_climbs_53 (by decide) rfl ?_
  refine vv_iload_n (q := 55) X 4 dX10_climbs_54 rfl rfl rfl ?_
  refine vv_ishl (q := 56) X dX10_climbs_55 rfl ?_
  refine vv_ior (q := 57) X dX10_climbs_56 rfl ?_
  refine vv_ior (q := 58) X dX10_climbs_57 rfl ?_
  obtain ⟨hin9, h⟩ := h
  refine vv_iast (q := 59) X 12 48 (Nat.le_of_ble_eq_true rfl) (fun _ => rfl) hin9 dX10_climbs_58 rfl ?_
  refine vv_nm (fun σ10 hσ10 => ?_)
  have h := h σ10 hσ10
  refine vv_aload_n (q := 60) X 1 dX10_climbs_59 rfl rfl rfl ?_
  refine vv_getf (q := 63) (ref := "HalfLaddersModel") (C := RX10) (T := TX10) (N := 27) X 0 10 18 (Nat.le_of_ble_eq_true rfl) rfl rfl (Nat.le_of_ble_eq_true rfl) (fun _ h => List.mem_cons_of_mem _ (List.mem_append_right _ h)) (List.mem_of_getElem? (i := 1) rfl) rfl rfl dX10_climbs_60 rfl ?_
  refine vv_iload_n (q := 64) X 2 dX10_climbs_63 rfl rfl rfl ?_
  refine vv_iconst (q := 65) X (4 : Int32) dX10_climbs_64 (by decide) rfl ?_
  refine vv_iadd (q := 66) X dX10_climbs_65 rfl ?_
  refine vv_dup2 (q := 67) X dX10_climbs_66 rfl rfl rfl ?_
  obtain ⟨hin11, h⟩ := h
  refine vv_iald (q := 68) X 12 48 (Nat.le_of_ble_eq_true rfl) (fun _ => rfl) hin11 dX10_climbs_67 rfl ?_
  refine vv_iconst (q := 69) X (1 : Int32) dX10_climbs_68 (by decide) rfl ?_
  refine vv_iload (q := 71) X 5 dX10_climbs_69 rfl rfl ?_
  refine vv_ishl (q := 72) X dX10_climbs_71 rfl ?_
  refine vv_ior (q := 73) X dX10_climbs_72 rfl ?_
  obtain ⟨hin12, h⟩ := h
  refine vv_iast (q := 74) X 12 48 (Nat.le_of_ble_eq_true rfl) (fun _ => rfl) hin12 dX10_climbs_73 rfl ?_
  refine vv_nm (fun σ13 hσ13 => ?_)
  have h := h σ13 hσ13
  refine vv_iload (q := 76) X 0 dX10_climbs_74 rfl rfl ?_
  exact vv_iret X hr dX10_climbs_76 h

/-! X10_endDay: endDay(I)I -/
def rmX10_endDay : Room := { frames := 0, cells := 0, slots := 0, locals := 0 }
def wLX10_endDay_34 (f1 : Int32)  (K95 : St → Int32 → Prop) (P : Int32 → St → Prop) : Nat → St → Int32 → Int32 → Prop
  | 0, _, _, _ => False
  | n + 1, σ, x2, x3 =>
    vp_in (0 : Int32) 2 ∧
    ((σ.1 8 (0 : Int32).toNatClampNeg) ≤ x3 →
    K95 σ x2) ∧
    (¬ (σ.1 8 (0 : Int32).toNatClampNeg) ≤ x3 →
    vp_in (f1 + (0 : Int32)) 48 ∧
    vp_in x3 10 ∧
    ((σ.1 12 (f1 + (0 : Int32)).toNatClampNeg) ≤ ((σ.1 10 x3.toNatClampNeg) + (3 : Int32)) →
    ∀ z13 : Int32, z13 = x3 + (1 : Int32) →
    wLX10_endDay_34 f1 K95 P n σ x2 z13) ∧
    (¬ (σ.1 12 (f1 + (0 : Int32)).toNatClampNeg) ≤ ((σ.1 10 x3.toNatClampNeg) + (3 : Int32)) →
    vp_in ((f1 + (6 : Int32)) + x3) 48 ∧
    ∀ z15 : Int32, z15 = (x2 + (σ.1 12 ((f1 + (6 : Int32)) + x3).toNatClampNeg)) →
    vp_in ((f1 + (6 : Int32)) + x3) 48 ∧
    ∀ σ17 : St, σ17 = sI σ 12 ((f1 + (6 : Int32)) + x3).toNatClampNeg (0 : Int32) →
    ∀ z18 : Int32, z18 = x3 + (1 : Int32) →
    wLX10_endDay_34 f1 K95 P n σ17 z15 z18))

set_option maxHeartbeats 4000000 in
set_option maxRecDepth 100000 in
theorem twLX10_endDay_34 {p : Program} {l : Launch} {e : Env} {s : State} {m : MethodId} {args : Array Value} {below : List Frame} {meth : Method} {c : Code} {D : va_G} {cy : Nat → ClassId} {ad : Nat → Nat} (X : XX p s m args meth c cX10_endDay 4 D cy (wM ad cy) wsX10_endDay RX10) (hr : meth.sig.returnType = (some .int)) (f1 : Int32)   (K95 : St → Int32 → Prop) {P : Int32 → St → Prop} (hK95 : ∀ (σ : St) (x2 : Int32), K95 σ x2 → VV p l e rmX10_endDay s m args below meth c (MQ below (va_Qi P (xPost D (wM ad cy)) (xA (wM ad cy))) args s 0 0 (xA (wM ad cy))) 4 D (wM ad cy) σ 95 [(0, .ref (ad 0)), (1, .int f1), (2, .int x2)] []) : ∀ (n : Nat) (σ : St) (x2 : Int32) (x3 : Int32), wLX10_endDay_34 f1 K95 P n σ x2 x3 → VV p l e rmX10_endDay s m args below meth c (MQ below (va_Qi P (xPost D (wM ad cy)) (xA (wM ad cy))) args s 0 0 (xA (wM ad cy))) 4 D (wM ad cy) σ 34 [(0, .ref (ad 0)), (1, .int f1), (2, .int x2), (3, .int x3)] [] := by
  intro n
  induction n with
  | zero => intro σ x2 x3 h; exact h.elim
  | succ n ih =>
    intro σ x2 x3 h
    rw [wLX10_endDay_34] at h
    refine vv_iload_n (q := 35) X 3 dX10_endDay_34 rfl rfl rfl ?_
    refine vv_aload_n (q := 36) X 0 dX10_endDay_35 rfl rfl rfl ?_
    refine vv_getf (q := 39) (ref := "HalfLaddersModel") (C := RX10) (T := TX10) (N := 27) X 0 10 9 (Nat.le_of_ble_eq_true rfl) rfl rfl (Nat.le_of_ble_eq_true rfl) (fun _ h => List.mem_cons_of_mem _ (List.mem_append_right _ h)) (List.mem_of_getElem? (i := 2) rfl) rfl rfl dX10_endDay_36 rfl ?_
    refine vv_iconst (q := 40) X (0 : Int32) dX10_endDay_39 (by decide) rfl ?_
    obtain ⟨hin8, h⟩ := h
    refine vv_iald (q := 41) X 8 2 (Nat.le_of_ble_eq_true rfl) (fun _ => rfl) hin8 dX10_endDay_40 rfl ?_
    refine vv_icmp_ge (q := 44) X 95 dX10_endDay_41 (by decide) rfl (fun c9 => ?_) (fun c9 => ?_)
    · have h := h.1 c9
      refine vv_sub (lv' := [(0, .ref (ad 0)), (1, .int f1), (2, .int x2)]) [0, 1, 2] rfl ?_
      exact hK95 σ x2 h
    · have h := h.2 c9
      refine vv_aload_n (q := 45) X 0 dX10_endDay_44 rfl rfl rfl ?_
      refine vv_getf (q := 48) (ref := "HalfLaddersModel") (C := RX10) (T := TX10) (N := 27) X 0 10 18 (Nat.le_of_ble_eq_true rfl) rfl rfl (Nat.le_of_ble_eq_true rfl) (fun _ h => List.mem_cons_of_mem _ (List.mem_append_right _ h)) (List.mem_of_getElem? (i := 1) rfl) rfl rfl dX10_endDay_45 rfl ?_
      refine vv_iload_n (q := 49) X 1 dX10_endDay_48 rfl rfl rfl ?_
      refine vv_iconst (q := 50) X (0 : Int32) dX10_endDay_49 (by decide) rfl ?_
      refine vv_iadd (q := 51) X dX10_endDay_50 rfl ?_
      obtain ⟨hin10, h⟩ := h
      refine vv_iald (q := 52) X 12 48 (Nat.le_of_ble_eq_true rfl) (fun _ => rfl) hin10 dX10_endDay_51 rfl ?_
      refine vv_aload_n (q := 53) X 0 dX10_endDay_52 rfl rfl rfl ?_
      refine vv_getf (q := 56) (ref := "HalfLaddersModel") (C := RX10) (T := TX10) (N := 27) X 0 10 11 (Nat.le_of_ble_eq_true rfl) rfl rfl (Nat.le_of_ble_eq_true rfl) (fun _ h => List.mem_cons_of_mem _ (List.mem_append_right _ h)) (List.mem_of_getElem? (i := 3) rfl) rfl rfl dX10_endDay_53 rfl ?_
      refine vv_iload_n (q := 57) X 3 dX10_endDay_56 rfl rfl rfl ?_
      obtain ⟨hin11, h⟩ := h
      refine vv_iald (q := 58) X 10 10 (Nat.le_of_ble_eq_true rfl) (fun _ => rfl) hin11 dX10_endDay_57 rfl ?_
      refine vv_iconst (q := 59) X (3 : Int32) dX10_endDay_58 (by decide) rfl ?_
      refine vv_iadd (q := 60) X dX10_endDay_59 rfl ?_
      refine vv_icmp_le (q := 63) X 89 dX10_endDay_60 (by decide) rfl (fun c12 => ?_) (fun c12 => ?_)
      · have h := h.1 c12
        obtain ⟨z13, hz13⟩ : ∃ y : Int32, y = x3 + (1 : Int32) := ⟨_, rfl⟩
        have h := h z13 hz13
        refine vv_iinc (v := z13) (lv2 := [(3, .int z13), (0, .ref (ad 0)), (1, .int f1), (2, .int x2)]) (q := 92) X 3 dX10_endDay_89 rfl (by rw [hz13]; rfl) (Nat.le_of_ble_eq_true rfl) rfl rfl ?_
        refine vv_goto X 34 dX10_endDay_92 (by decide) ?_
        refine vv_sub (lv' := [(0, .ref (ad 0)), (1, .int f1), (2, .int x2), (3, .int z13)]) [1, 2, 3, 0] rfl ?_
        exact ih σ x2 z13 h
      · have h := h.2 c12
        refine vv_iload_n (q := 64) X 2 dX10_endDay_63 rfl rfl rfl ?_
        refine vv_aload_n (q := 65) X 0 dX10_endDay_64 rfl rfl rfl ?_
        refine vv_getf (q := 68) (ref := "HalfLaddersModel") (C := RX10) (T := TX10) (N := 27) X 0 10 18 (Nat.le_of_ble_eq_true rfl) rfl rfl (Nat.le_of_ble_eq_true rfl) (fun _ h => List.mem_cons_of_mem _ (List.mem_append_right _ h)) (List.mem_of_getElem? (i := 1) rfl) rfl rfl dX10_endDay_65 rfl ?_
        refine vv_iload_n (q := 69) X 1 dX10_endDay_68 rfl rfl rfl ?_
        refine vv_bipush (q := 71) X (6 : Int32) dX10_endDay_69 (by decide) rfl ?_
        refine vv_iadd (q := 72) X dX10_endDay_71 rfl ?_
        refine vv_iload_n (q := 73) X 3 dX10_endDay_72 rfl rfl rfl ?_
        refine vv_iadd (q := 74) X dX10_endDay_73 rfl ?_
        obtain ⟨hin14, h⟩ := h
        refine vv_iald (q := 75) X 12 48 (Nat.le_of_ble_eq_true rfl) (fun _ => rfl) hin14 dX10_endDay_74 rfl ?_
        refine vv_iadd (q := 76) X dX10_endDay_75 rfl ?_
        refine vv_topi (fun z15 hz15 => ?_)
        have h := h z15 hz15
        refine vv_istore_n (lv2 := [(2, .int z15), (0, .ref (ad 0)), (1, .int f1), (3, .int x3)]) (q := 77) X dX10_endDay_76 rfl (Nat.le_of_ble_eq_true rfl) rfl rfl ?_
        refine vv_aload_n (q := 78) X 1 dX10_endDay_77 rfl rfl rfl ?_
        refine vv_getf (q := 81) (ref := "HalfLaddersModel") (C := RX10) (T := TX10) (N := 27) X 0 10 18 (Nat.le_of_ble_eq_true rfl) rfl rfl (Nat.le_of_ble_eq_true rfl) (fun _ h => List.mem_cons_of_mem _ (List.mem_append_right _ h)) (List.mem_of_getElem? (i := 1) rfl) rfl rfl dX10_endDay_78 rfl ?_
        refine vv_iload_n (q := 82) X 2 dX10_endDay_81 rfl rfl rfl ?_
        refine vv_bipush (q := 84) X (6 : Int32) dX10_endDay_82 (by decide) rfl ?_
        refine vv_iadd (q := 85) X dX10_endDay_84 rfl ?_
        refine vv_iload_n (q := 86) X 3 dX10_endDay_85 rfl rfl rfl ?_
        refine vv_iadd (q := 87) X dX10_endDay_86 rfl ?_
        refine vv_iconst (q := 88) X (0 : Int32) dX10_endDay_87 (by decide) rfl ?_
        obtain ⟨hin16, h⟩ := h
        refine vv_iast (q := 89) X 12 48 (Nat.le_of_ble_eq_true rfl) (fun _ => rfl) hin16 dX10_endDay_88 rfl ?_
        refine vv_nm (fun σ17 hσ17 => ?_)
        have h := h σ17 hσ17
        obtain ⟨z18, hz18⟩ : ∃ y : Int32, y = x3 + (1 : Int32) := ⟨_, rfl⟩
        have h := h z18 hz18
        refine vv_iinc (v := z18) (lv2 := [(3, .int z18), (2, .int z15), (0, .ref (ad 0)), (1, .int f1)]) (q := 92) X 3 dX10_endDay_89 rfl (by rw [hz18]; rfl) (Nat.le_of_ble_eq_true rfl) rfl rfl ?_
        refine vv_goto X 34 dX10_endDay_92 (by decide) ?_
        refine vv_sub (lv' := [(0, .ref (ad 0)), (1, .int f1), (2, .int z15), (3, .int z18)]) [2, 3, 1, 0] rfl ?_
        exact ih σ17 z15 z18 h

def wX10_endDay (σ : St) (a1 : Int32) (P : Int32 → St → Prop) : Prop :=
vp_in (a1 + (0 : Int32)) 48 ∧
vp_in (a1 + (0 : Int32)) 48 ∧
∀ σ3 : St, σ3 = sI σ 12 (a1 + (0 : Int32)).toNatClampNeg ((σ.1 12 (a1 + (0 : Int32)).toNatClampNeg) + (1 : Int32)) →
vp_in (a1 + (3 : Int32)) 48 ∧
∀ σ5 : St, σ5 = sI σ3 12 (a1 + (3 : Int32)).toNatClampNeg (0 : Int32) →
vp_in (a1 + (4 : Int32)) 48 ∧
∀ σ7 : St, σ7 = sI σ5 12 (a1 + (4 : Int32)).toNatClampNeg (0 : Int32) →
∃ n24 : Nat, wLX10_endDay_34 a1 (fun (σ20 : St) (y19 : Int32) =>
vp_in (a1 + (2 : Int32)) 48 ∧
vp_in (a1 + (2 : Int32)) 48 ∧
∀ σ23 : St, σ23 = sI σ20 12 (a1 + (2 : Int32)).toNatClampNeg ((σ20.1 12 (a1 + (2 : Int32)).toNatClampNeg) + y19) →
P y19 σ23) P n24 σ7 (0 : Int32) (0 : Int32)

set_option maxHeartbeats 8000000 in
set_option maxRecDepth 100000 in
theorem kX10_endDay (l : Launch) (D : va_G) {cy : Nat → ClassId} {ad : Nat → Nat} (hw : xOk (wM ad cy)) {σ : St} {a1 : Int32} {P : Int32 → St → Prop} (h : wX10_endDay σ a1 P) : MI l yX10_endDay wsX10_endDay rmX10_endDay D cy (wM ad cy) [.ref (ad 0), .int a1] σ P := by
  unfold MI
  refine vv_met (cc := cX10_endDay) (maxL := 4) (ret := (some .int)) hw (by decide +kernel) rfl [.ref (ad 0), .int a1] (Nat.le_of_ble_eq_true rfl) ?_
  intro p e s m args below meth c X hr
  have X : XX p s m args meth c cX10_endDay 4 D cy (wM ad cy) wsX10_endDay RX10 := X
  refine vv_sub (lv' := [(0, .ref (ad 0)), (1, .int a1)]) [0, 1] rfl ?_
  rw [wX10_endDay] at h
  refine vv_aload_n (q := 1) X 0 dX10_endDay_0 rfl rfl rfl ?_
  refine vv_getf (q := 4) (ref := "HalfLaddersModel") (C := RX10) (T := TX10) (N := 27) X 0 10 18 (Nat.le_of_ble_eq_true rfl) rfl rfl (Nat.le_of_ble_eq_true rfl) (fun _ h => List.mem_cons_of_mem _ (List.mem_append_right _ h)) (List.mem_of_getElem? (i := 1) rfl) rfl rfl dX10_endDay_1 rfl ?_
  refine vv_iload_n (q := 5) X 1 dX10_endDay_4 rfl rfl rfl ?_
  refine vv_iconst (q := 6) X (0 : Int32) dX10_endDay_5 (by decide) rfl ?_
  refine vv_iadd (q := 7) X dX10_endDay_6 rfl ?_
  refine vv_dup2 (q := 8) X dX10_endDay_7 rfl rfl rfl ?_
  obtain ⟨hin1, h⟩ := h
  refine vv_iald (q := 9) X 12 48 (Nat.le_of_ble_eq_true rfl) (fun _ => rfl) hin1 dX10_endDay_8 rfl ?_
  refine vv_iconst (q := 10) X (1 : Int32) dX10_endDay_9 (by decide) rfl ?_
  refine vv_iadd (q := 11) X dX10_endDay_10 rfl ?_
  obtain ⟨hin2, h⟩ := h
  refine vv_iast (q := 12) X 12 48 (Nat.le_of_ble_eq_true rfl) (fun _ => rfl) hin2 dX10_endDay_11 rfl ?_
  refine vv_nm (fun σ3 hσ3 => ?_)
  have h := h σ3 hσ3
  refine vv_aload_n (q := 13) X 0 dX10_endDay_12 rfl rfl rfl ?_
  refine vv_getf (q := 16) (ref := "HalfLaddersModel") (C := RX10) (T := TX10) (N := 27) X 0 10 18 (Nat.le_of_ble_eq_true rfl) rfl rfl (Nat.le_of_ble_eq_true rfl) (fun _ h => List.mem_cons_of_mem _ (List.mem_append_right _ h)) (List.mem_of_getElem? (i := 1) rfl) rfl rfl dX10_endDay_13 rfl ?_
  refine vv_iload_n (q := 17) X 1 dX10_endDay_16 rfl rfl rfl ?_
  refine vv_iconst (q := 18) X (3 : Int32) dX10_endDay_17 (by decide) rfl ?_
  refine vv_iadd (q := 19) X dX10_endDay_18 rfl ?_
  refine vv_iconst (q := 20) X (0 : Int32) dX10_endDay_19 (by decide) rfl ?_
  obtain ⟨hin4, h⟩ := h
  refine vv_iast (q := 21) X 12 48 (Nat.le_of_ble_eq_true rfl) (fun _ => rfl) hin4 dX10_endDay_20 rfl ?_
  refine vv_nm (fun σ5 hσ5 => ?_)
  have h := h σ5 hσ5
  refine vv_aload_n (q := 22) X 0 dX10_endDay_21 rfl rfl rfl ?_
  refine vv_getf (q := 25) (ref := "HalfLaddersModel") (C := RX10) (T := TX10) (N := 27) X 0 10 18 (Nat.le_of_ble_eq_true rfl) rfl rfl (Nat.le_of_ble_eq_true rfl) (fun _ h => List.mem_cons_of_mem _ (List.mem_append_right _ h)) (List.mem_of_getElem? (i := 1) rfl) rfl rfl dX10_endDay_22 rfl ?_
  refine vv_iload_n (q := 26) X 1 dX10_endDay_25 rfl rfl rfl ?_
  refine vv_iconst (q := 27) X (4 : Int32) dX10_endDay_26 (by decide) rfl ?_
  refine vv_iadd (q := 28) X dX10_endDay_27 rfl ?_
  refine vv_iconst (q := 29) X (0 : Int32) dX10_endDay_28 (by decide) rfl ?_
  obtain ⟨hin6, h⟩ := h
  refine vv_iast (q := 30) X 12 48 (Nat.le_of_ble_eq_true rfl) (fun _ => rfl) hin6 dX10_endDay_29 rfl ?_
  refine vv_nm (fun σ7 hσ7 => ?_)
  have h := h σ7 hσ7
  refine vv_iconst (q := 31) X (0 : Int32) dX10_endDay_30 (by decide) rfl ?_
  refine vv_istore_n (lv2 := [(2, .int (0 : Int32)), (0, .ref (ad 0)), (1, .int a1)]) (q := 32) X dX10_endDay_31 rfl (Nat.le_of_ble_eq_true rfl) rfl rfl ?_
  refine vv_iconst (q := 33) X (0 : Int32) dX10_endDay_32 (by decide) rfl ?_
  refine vv_istore_n (lv2 := [(3, .int (0 : Int32)), (2, .int (0 : Int32)), (0, .ref (ad 0)), (1, .int a1)]) (q := 34) X dX10_endDay_33 rfl (Nat.le_of_ble_eq_true rfl) rfl rfl ?_
  obtain ⟨n24, h⟩ := h
  refine vv_sub (lv' := [(0, .ref (ad 0)), (1, .int a1), (2, .int (0 : Int32)), (3, .int (0 : Int32))]) [2, 3, 1, 0] rfl ?_
  refine twLX10_endDay_34 X hr a1  _ ?_ n24 σ7 (0 : Int32) (0 : Int32) h
  intro σ20 y19 h
  refine vv_aload_n (q := 96) X 0 dX10_endDay_95 rfl rfl rfl ?_
  refine vv_getf (q := 99) (ref := "HalfLaddersModel") (C := RX10) (T := TX10) (N := 27) X 0 10 18 (Nat.le_of_ble_eq_true rfl) rfl rfl (Nat.le_of_ble_eq_true rfl) (fun _ h => List.mem_cons_of_mem _ (List.mem_append_right _ h)) (List.mem_of_getElem? (i := 1) rfl) rfl rfl dX10_endDay_96 rfl ?_
  refine vv_iload_n (q := 100) X 1 dX10_endDay_99 rfl rfl rfl ?_
  refine vv_iconst (q := 101) X (2 : Int32) dX10_endDay_100 (by decide) rfl ?_
  refine vv_iadd (q := 102) X dX10_endDay_101 rfl ?_
  refine vv_dup2 (q := 103) X dX10_endDay_102 rfl rfl rfl ?_
  obtain ⟨hin21, h⟩ := h
  refine vv_iald (q := 104) X 12 48 (Nat.le_of_ble_eq_true rfl) (fun _ => rfl) hin21 dX10_endDay_103 rfl ?_
  refine vv_iload_n (q := 105) X 2 dX10_endDay_104 rfl rfl rfl ?_
  refine vv_iadd (q := 106) X dX10_endDay_105 rfl ?_
  obtain ⟨hin22, h⟩ := h
  refine vv_iast (q := 107) X 12 48 (Nat.le_of_ble_eq_true rfl) (fun _ => rfl) hin22 dX10_endDay_106 rfl ?_
  refine vv_nm (fun σ23 hσ23 => ?_)
  have h := h σ23 hσ23
  refine vv_iload_n (q := 108) X 2 dX10_endDay_107 rfl rfl rfl ?_
  exact vv_iret X hr dX10_endDay_108 h

/-! X10_climb: climb(III)I -/
def rmX10_climb : Room := { frames := 2, cells := 0, slots := 0, locals := 50 }
def wX10_climb (σ : St) (a1 : Int32) (a2 : Int32) (a3 : Int32) (P : Int32 → St → Prop) : Prop :=
wX10_isOne σ a1 (fun r1 : Int32 =>
(r1 = 0 →
P (-1 : Int32) σ) ∧
(¬ r1 = 0 →
wX10_isOne σ a2 (fun r3 : Int32 =>
(r3 = 0 →
P (-1 : Int32) σ) ∧
(¬ r3 = 0 →
(a1 = a2 →
P (-1 : Int32) σ) ∧
(¬ a1 = a2 →
wX10_isTree σ a3 (fun r6 : Int32 =>
(¬ r6 = 0 →
wX10_mayClimb σ (0 : Int32) a1 a2 a3 (fun r8 : Int32 =>
(r8 = 0 →
P (-2 : Int32) σ) ∧
(¬ r8 = 0 →
wX10_climbs σ (0 : Int32) a1 a2 a3 (fun (r10 : Int32) (σ11 : St) =>
P r10 σ11)))) ∧
(r6 = 0 →
P (-1 : Int32) σ)))))))

set_option maxHeartbeats 8000000 in
set_option maxRecDepth 100000 in
theorem kX10_climb (l : Launch) (D : va_G) {cy : Nat → ClassId} {ad : Nat → Nat} (hw : xOk (wM ad cy)) {σ : St} {a1 : Int32} {a2 : Int32} {a3 : Int32} {P : Int32 → St → Prop} (h : wX10_climb σ a1 a2 a3 P) : MI l yX10_climb wsX10_climb rmX10_climb D cy (wM ad cy) [.ref (ad 0), .int a1, .int a2, .int a3] σ P := by
  unfold MI
  refine vv_met (cc := cX10_climb) (maxL := 4) (ret := (some .int)) hw (by decide +kernel) rfl [.ref (ad 0), .int a1, .int a2, .int a3] (Nat.le_of_ble_eq_true rfl) ?_
  intro p e s m args below meth c X hr
  have X : XX p s m args meth c cX10_climb 4 D cy (wM ad cy) wsX10_climb RX10 := X
  refine vv_sub (lv' := [(0, .ref (ad 0)), (1, .int a1), (2, .int a2), (3, .int a3)]) [0, 1, 2, 3] rfl ?_
  rw [wX10_climb] at h
  refine vv_aload_n (q := 1) X 0 dX10_climb_0 rfl rfl rfl ?_
  refine vv_iload_n (q := 2) X 1 dX10_climb_1 rfl rfl rfl ?_
  refine vv_cVi (q := 5) (C := RX10) X 0 10 [.int a1] (kX10_isOne l D X.2.2.1 h) (cwV 1 X.1.2.2.2.2 gX10_climb_X10_isOne rfl rfl rfl (by decide +kernel) ⟨Nat.le_of_ble_eq_true rfl, Nat.le_of_ble_eq_true rfl⟩) (Nat.le_of_ble_eq_true rfl) rfl rfl rfl rfl (Nat.le_of_ble_eq_true rfl) dX10_climb_2 rfl (fun r1 u9 h9 => ?_)
  obtain ⟨h9, hu9⟩ := h9
  subst u9
  have h := h9
  refine vv_if_eq (q := 8) X 29 dX10_climb_5 (by decide) rfl (fun c2 => ?_) (fun c2 => ?_)
  · have h := h.1 c2
    refine vv_iconst (q := 30) X (-1 : Int32) dX10_climb_29 (by decide) rfl ?_
    exact vv_iret X hr dX10_climb_30 h
  · have h := h.2 c2
    refine vv_aload_n (q := 9) X 0 dX10_climb_8 rfl rfl rfl ?_
    refine vv_iload_n (q := 10) X 2 dX10_climb_9 rfl rfl rfl ?_
    refine vv_cVi (q := 13) (C := RX10) X 0 10 [.int a2] (kX10_isOne l D X.2.2.1 h) (cwV 1 X.1.2.2.2.2 gX10_climb_X10_isOne rfl rfl rfl (by decide +kernel) ⟨Nat.le_of_ble_eq_true rfl, Nat.le_of_ble_eq_true rfl⟩) (Nat.le_of_ble_eq_true rfl) rfl rfl rfl rfl (Nat.le_of_ble_eq_true rfl) dX10_climb_10 rfl (fun r3 u9 h9 => ?_)
    obtain ⟨h9, hu9⟩ := h9
    subst u9
    have h := h9
    refine vv_if_eq (q := 16) X 29 dX10_climb_13 (by decide) rfl (fun c4 => ?_) (fun c4 => ?_)
    · have h := h.1 c4
      refine vv_iconst (q := 30) X (-1 : Int32) dX10_climb_29 (by decide) rfl ?_
      exact vv_iret X hr dX10_climb_30 h
    · have h := h.2 c4
      refine vv_iload_n (q := 17) X 1 dX10_climb_16 rfl rfl rfl ?_
      refine vv_iload_n (q := 18) X 2 dX10_climb_17 rfl rfl rfl ?_
      refine vv_icmp_eq (q := 21) X 29 dX10_climb_18 (by decide) rfl (fun c5 => ?_) (fun c5 => ?_)
      · have h := h.1 c5
        refine vv_iconst (q := 30) X (-1 : Int32) dX10_climb_29 (by decide) rfl ?_
        exact vv_iret X hr dX10_climb_30 h
      · have h := h.2 c5
        refine vv_aload_n (q := 22) X 0 dX10_climb_21 rfl rfl rfl ?_
        refine vv_iload_n (q := 23) X 3 dX10_climb_22 rfl rfl rfl ?_
        refine vv_cVi (q := 26) (C := RX10) X 0 10 [.int a3] (kX10_isTree l D X.2.2.1 h) (cwV 1 X.1.2.2.2.2 gX10_climb_X10_isTree rfl rfl rfl (by decide +kernel) ⟨Nat.le_of_ble_eq_true rfl, Nat.le_of_ble_eq_true rfl⟩) (Nat.le_of_ble_eq_true rfl) rfl rfl rfl rfl (Nat.le_of_ble_eq_true rfl) dX10_climb_23 rfl (fun r6 u9 h9 => ?_)
        obtain ⟨h9, hu9⟩ := h9
        subst u9
        have h := h9
        refine vv_if_ne (q := 29) X 31 dX10_climb_26 (by decide) rfl (fun c7 => ?_) (fun c7 => ?_)
        · have h := h.1 c7
          refine vv_aload_n (q := 32) X 0 dX10_climb_31 rfl rfl rfl ?_
          refine vv_iconst (q := 33) X (0 : Int32) dX10_climb_32 (by decide) rfl ?_
          refine vv_iload_n (q := 34) X 1 dX10_climb_33 rfl rfl rfl ?_
          refine vv_iload_n (q := 35) X 2 dX10_climb_34 rfl rfl rfl ?_
          refine vv_iload_n (q := 36) X 3 dX10_climb_35 rfl rfl rfl ?_
          refine vv_cVi (q := 39) (C := RX10) X 0 10 [.int (0 : Int32), .int a1, .int a2, .int a3] (kX10_mayClimb l D X.2.2.1 h) (cwV 4 X.1.2.2.2.2 gX10_climb_X10_mayClimb rfl rfl rfl (by decide +kernel) ⟨Nat.le_of_ble_eq_true rfl, Nat.le_of_ble_eq_true rfl⟩) (Nat.le_of_ble_eq_true rfl) rfl rfl rfl rfl (Nat.le_of_ble_eq_true rfl) dX10_climb_36 rfl (fun r8 u9 h9 => ?_)
          obtain ⟨h9, hu9⟩ := h9
          subst u9
          have h := h9
          refine vv_if_eq (q := 42) X 53 dX10_climb_39 (by decide) rfl (fun c9 => ?_) (fun c9 => ?_)
          · have h := h.1 c9
            refine vv_bipush (q := 55) X (-2 : Int32) dX10_climb_53 (by decide) rfl ?_
            exact vv_iret X hr dX10_climb_55 h
          · have h := h.2 c9
            refine vv_aload_n (q := 43) X 0 dX10_climb_42 rfl rfl rfl ?_
            refine vv_iconst (q := 44) X (0 : Int32) dX10_climb_43 (by decide) rfl ?_
            refine vv_iload_n (q := 45) X 1 dX10_climb_44 rfl rfl rfl ?_
            refine vv_iload_n (q := 46) X 2 dX10_climb_45 rfl rfl rfl ?_
            refine vv_iload_n (q := 47) X 3 dX10_climb_46 rfl rfl rfl ?_
            refine vv_cVi (q := 50) (C := RX10) X 0 10 [.int (0 : Int32), .int a1, .int a2, .int a3] (kX10_climbs l D X.2.2.1 h) (cwV 4 X.1.2.2.2.2 gX10_climb_X10_climbs rfl rfl rfl (by decide +kernel) ⟨Nat.le_of_ble_eq_true rfl, Nat.le_of_ble_eq_true rfl⟩) (Nat.le_of_ble_eq_true rfl) rfl rfl rfl rfl (Nat.le_of_ble_eq_true rfl) dX10_climb_47 rfl (fun r10 σ11 h => ?_)
            refine vv_goto X 55 dX10_climb_50 (by decide) ?_
            exact vv_iret X hr dX10_climb_55 h
        · have h := h.2 c7
          refine vv_iconst (q := 30) X (-1 : Int32) dX10_climb_29 (by decide) rfl ?_
          exact vv_iret X hr dX10_climb_30 h

/-! X10_ends: ends()I -/
def rmX10_ends : Room := { frames := 1, cells := 0, slots := 0, locals := 23 }
def wX10_ends (σ : St)  (P : Int32 → St → Prop) : Prop :=
vp_in (0 : Int32) 48 ∧
(¬ (σ.1 12 (0 : Int32).toNatClampNeg) = (30 : Int32) →
wX10_endDay σ (0 : Int32) (fun (r3 : Int32) (σ4 : St) =>
P r3 σ4)) ∧
((σ.1 12 (0 : Int32).toNatClampNeg) = (30 : Int32) →
P (-2 : Int32) σ)

set_option maxHeartbeats 8000000 in
set_option maxRecDepth 100000 in
theorem kX10_ends (l : Launch) (D : va_G) {cy : Nat → ClassId} {ad : Nat → Nat} (hw : xOk (wM ad cy)) {σ : St}  {P : Int32 → St → Prop} (h : wX10_ends σ  P) : MI l yX10_ends wsX10_ends rmX10_ends D cy (wM ad cy) [.ref (ad 0)] σ P := by
  unfold MI
  refine vv_met (cc := cX10_ends) (maxL := 1) (ret := (some .int)) hw (by decide +kernel) rfl [.ref (ad 0)] (Nat.le_of_ble_eq_true rfl) ?_
  intro p e s m args below meth c X hr
  have X : XX p s m args meth c cX10_ends 1 D cy (wM ad cy) wsX10_ends RX10 := X
  refine vv_sub (lv' := [(0, .ref (ad 0))]) [0] rfl ?_
  rw [wX10_ends] at h
  refine vv_aload_n (q := 1) X 0 dX10_ends_0 rfl rfl rfl ?_
  refine vv_getf (q := 4) (ref := "HalfLaddersModel") (C := RX10) (T := TX10) (N := 27) X 0 10 18 (Nat.le_of_ble_eq_true rfl) rfl rfl (Nat.le_of_ble_eq_true rfl) (fun _ h => List.mem_cons_of_mem _ (List.mem_append_right _ h)) (List.mem_of_getElem? (i := 1) rfl) rfl rfl dX10_ends_1 rfl ?_
  refine vv_iconst (q := 5) X (0 : Int32) dX10_ends_4 (by decide) rfl ?_
  obtain ⟨hin1, h⟩ := h
  refine vv_iald (q := 6) X 12 48 (Nat.le_of_ble_eq_true rfl) (fun _ => rfl) hin1 dX10_ends_5 rfl ?_
  refine vv_bipush (q := 8) X (30 : Int32) dX10_ends_6 (by decide) rfl ?_
  refine vv_icmp_ne (q := 11) X 16 dX10_ends_8 (by decide) rfl (fun c2 => ?_) (fun c2 => ?_)
  · have h := h.1 c2
    refine vv_aload_n (q := 17) X 0 dX10_ends_16 rfl rfl rfl ?_
    refine vv_iconst (q := 18) X (0 : Int32) dX10_ends_17 (by decide) rfl ?_
    refine vv_cVi (q := 21) (C := RX10) X 0 10 [.int (0 : Int32)] (kX10_endDay l D X.2.2.1 h) (cwV 1 X.1.2.2.2.2 gX10_ends_X10_endDay rfl rfl rfl (by decide +kernel) ⟨Nat.le_of_ble_eq_true rfl, Nat.le_of_ble_eq_true rfl⟩) (Nat.le_of_ble_eq_true rfl) rfl rfl rfl rfl (Nat.le_of_ble_eq_true rfl) dX10_ends_18 rfl (fun r3 σ4 h => ?_)
    exact vv_iret X hr dX10_ends_21 h
  · have h := h.2 c2
    refine vv_bipush (q := 13) X (-2 : Int32) dX10_ends_11 (by decide) rfl ?_
    refine vv_goto X 21 dX10_ends_13 (by decide) ?_
    exact vv_iret X hr dX10_ends_21 h

/-! X10_now: now(I)I -/
def rmX10_now : Room := { frames := 0, cells := 0, slots := 0, locals := 0 }
def wLX10_now_4 (f1 : Int32) (σ : St) (K32 : Int32 → Prop) (P : Int32 → Prop) : Nat → Int32 → Int32 → Prop
  | 0, _, _ => False
  | n + 1, x2, x3 =>
    vp_in (0 : Int32) 2 ∧
    ((σ.1 8 (0 : Int32).toNatClampNeg) ≤ x3 →
    K32 x2) ∧
    (¬ (σ.1 8 (0 : Int32).toNatClampNeg) ≤ x3 →
    vp_in ((6 : Int32) + x3) 48 ∧
    ∀ z4 : Int32, z4 = (x2 + (σ.1 12 ((6 : Int32) + x3).toNatClampNeg)) →
    ∀ z5 : Int32, z5 = x3 + (1 : Int32) →
    wLX10_now_4 f1 σ K32 P n z4 z5)

set_option maxHeartbeats 4000000 in
set_option maxRecDepth 100000 in
theorem twLX10_now_4 {p : Program} {l : Launch} {e : Env} {s : State} {m : MethodId} {args : Array Value} {below : List Frame} {meth : Method} {c : Code} {D : va_G} {cy : Nat → ClassId} {ad : Nat → Nat} (X : XX p s m args meth c cX10_now 4 D cy (wM ad cy) wsX10_now RX10) (hr : meth.sig.returnType = (some .int)) (f1 : Int32)  (σ : St) (K32 : Int32 → Prop) {P : Int32 → Prop} (hK32 : ∀ (x2 : Int32), K32 x2 → VV p l e rmX10_now s m args below meth c (MQ below (va_Qi (fun r u => P r ∧ u = σ) (xPost D (wM ad cy)) (xA (wM ad cy))) args s 0 0 (xA (wM ad cy))) 4 D (wM ad cy) σ 32 [(0, .ref (ad 0)), (1, .int f1), (2, .int x2)] []) : ∀ (n : Nat) (x2 : Int32) (x3 : Int32), wLX10_now_4 f1 σ K32 P n x2 x3 → VV p l e rmX10_now s m args below meth c (MQ below (va_Qi (fun r u => P r ∧ u = σ) (xPost D (wM ad cy)) (xA (wM ad cy))) args s 0 0 (xA (wM ad cy))) 4 D (wM ad cy) σ 4 [(0, .ref (ad 0)), (1, .int f1), (2, .int x2), (3, .int x3)] [] := by
  intro n
  induction n with
  | zero => intro x2 x3 h; exact h.elim
  | succ n ih =>
    intro x2 x3 h
    rw [wLX10_now_4] at h
    refine vv_iload_n (q := 5) X 3 dX10_now_4 rfl rfl rfl ?_
    refine vv_aload_n (q := 6) X 0 dX10_now_5 rfl rfl rfl ?_
    refine vv_getf (q := 9) (ref := "HalfLaddersModel") (C := RX10) (T := TX10) (N := 27) X 0 10 9 (Nat.le_of_ble_eq_true rfl) rfl rfl (Nat.le_of_ble_eq_true rfl) (fun _ h => List.mem_cons_of_mem _ (List.mem_append_right _ h)) (List.mem_of_getElem? (i := 1) rfl) rfl rfl dX10_now_6 rfl ?_
    refine vv_iconst (q := 10) X (0 : Int32) dX10_now_9 (by decide) rfl ?_
    obtain ⟨hin1, h⟩ := h
    refine vv_iald (q := 11) X 8 2 (Nat.le_of_ble_eq_true rfl) (fun _ => rfl) hin1 dX10_now_10 rfl ?_
    refine vv_icmp_ge (q := 14) X 32 dX10_now_11 (by decide) rfl (fun c2 => ?_) (fun c2 => ?_)
    · have h := h.1 c2
      refine vv_sub (lv' := [(0, .ref (ad 0)), (1, .int f1), (2, .int x2)]) [0, 1, 2] rfl ?_
      exact hK32 x2 h
    · have h := h.2 c2
      refine vv_iload_n (q := 15) X 2 dX10_now_14 rfl rfl rfl ?_
      refine vv_aload_n (q := 16) X 0 dX10_now_15 rfl rfl rfl ?_
      refine vv_getf (q := 19) (ref := "HalfLaddersModel") (C := RX10) (T := TX10) (N := 27) X 0 10 18 (Nat.le_of_ble_eq_true rfl) rfl rfl (Nat.le_of_ble_eq_true rfl) (fun _ h => List.mem_cons_of_mem _ (List.mem_append_right _ h)) (List.mem_of_getElem? (i := 2) rfl) rfl rfl dX10_now_16 rfl ?_
      refine vv_bipush (q := 21) X (6 : Int32) dX10_now_19 (by decide) rfl ?_
      refine vv_iload_n (q := 22) X 3 dX10_now_21 rfl rfl rfl ?_
      refine vv_iadd (q := 23) X dX10_now_22 rfl ?_
      obtain ⟨hin3, h⟩ := h
      refine vv_iald (q := 24) X 12 48 (Nat.le_of_ble_eq_true rfl) (fun _ => rfl) hin3 dX10_now_23 rfl ?_
      refine vv_iadd (q := 25) X dX10_now_24 rfl ?_
      refine vv_topi (fun z4 hz4 => ?_)
      have h := h z4 hz4
      refine vv_istore_n (lv2 := [(2, .int z4), (0, .ref (ad 0)), (1, .int f1), (3, .int x3)]) (q := 26) X dX10_now_25 rfl (Nat.le_of_ble_eq_true rfl) rfl rfl ?_
      obtain ⟨z5, hz5⟩ : ∃ y : Int32, y = x3 + (1 : Int32) := ⟨_, rfl⟩
      have h := h z5 hz5
      refine vv_iinc (v := z5) (lv2 := [(3, .int z5), (2, .int z4), (0, .ref (ad 0)), (1, .int f1)]) (q := 29) X 3 dX10_now_26 rfl (by rw [hz5]; rfl) (Nat.le_of_ble_eq_true rfl) rfl rfl ?_
      refine vv_goto X 4 dX10_now_29 (by decide) ?_
      refine vv_sub (lv' := [(0, .ref (ad 0)), (1, .int f1), (2, .int z4), (3, .int z5)]) [2, 3, 1, 0] rfl ?_
      exact ih z4 z5 h

def wX10_now (σ : St) (a1 : Int32) (P : Int32 → Prop) : Prop :=
∃ n16 : Nat, wLX10_now_4 a1 σ (fun (y6 : Int32) =>
(¬ a1 = 0 →
(¬ a1 = (1 : Int32) →
(¬ a1 = (2 : Int32) →
(¬ a1 = (3 : Int32) →
(¬ a1 = (4 : Int32) →
P (-1 : Int32)) ∧
(a1 = (4 : Int32) →
vp_in (3 : Int32) 48 ∧
P (σ.1 12 (3 : Int32).toNatClampNeg))) ∧
(a1 = (3 : Int32) →
P y6)) ∧
(a1 = (2 : Int32) →
vp_in (2 : Int32) 48 ∧
P (σ.1 12 (2 : Int32).toNatClampNeg))) ∧
(a1 = (1 : Int32) →
vp_in (1 : Int32) 48 ∧
P (σ.1 12 (1 : Int32).toNatClampNeg))) ∧
(a1 = 0 →
vp_in (0 : Int32) 48 ∧
P (σ.1 12 (0 : Int32).toNatClampNeg))) P n16 (0 : Int32) (0 : Int32)

set_option maxHeartbeats 8000000 in
set_option maxRecDepth 100000 in
theorem kX10_now (l : Launch) (D : va_G) {cy : Nat → ClassId} {ad : Nat → Nat} (hw : xOk (wM ad cy)) {σ : St} {a1 : Int32} {P : Int32 → Prop} (h : wX10_now σ a1 P) : MI l yX10_now wsX10_now rmX10_now D cy (wM ad cy) [.ref (ad 0), .int a1] σ (fun r u => P r ∧ u = σ) := by
  unfold MI
  refine vv_met (cc := cX10_now) (maxL := 4) (ret := (some .int)) hw (by decide +kernel) rfl [.ref (ad 0), .int a1] (Nat.le_of_ble_eq_true rfl) ?_
  intro p e s m args below meth c X hr
  have X : XX p s m args meth c cX10_now 4 D cy (wM ad cy) wsX10_now RX10 := X
  refine vv_sub (lv' := [(0, .ref (ad 0)), (1, .int a1)]) [0, 1] rfl ?_
  rw [wX10_now] at h
  refine vv_iconst (q := 1) X (0 : Int32) dX10_now_0 (by decide) rfl ?_
  refine vv_istore_n (lv2 := [(2, .int (0 : Int32)), (0, .ref (ad 0)), (1, .int a1)]) (q := 2) X dX10_now_1 rfl (Nat.le_of_ble_eq_true rfl) rfl rfl ?_
  refine vv_iconst (q := 3) X (0 : Int32) dX10_now_2 (by decide) rfl ?_
  refine vv_istore_n (lv2 := [(3, .int (0 : Int32)), (2, .int (0 : Int32)), (0, .ref (ad 0)), (1, .int a1)]) (q := 4) X dX10_now_3 rfl (Nat.le_of_ble_eq_true rfl) rfl rfl ?_
  obtain ⟨n16, h⟩ := h
  refine vv_sub (lv' := [(0, .ref (ad 0)), (1, .int a1), (2, .int (0 : Int32)), (3, .int (0 : Int32))]) [2, 3, 1, 0] rfl ?_
  refine twLX10_now_4 X hr a1  σ _ ?_ n16 (0 : Int32) (0 : Int32) h
  intro y6 h
  refine vv_iload_n (q := 33) X 1 dX10_now_32 rfl rfl rfl ?_
  refine vv_if_ne (q := 36) X 45 dX10_now_33 (by decide) rfl (fun c7 => ?_) (fun c7 => ?_)
  · have h := h.1 c7
    refine vv_iload_n (q := 46) X 1 dX10_now_45 rfl rfl rfl ?_
    refine vv_iconst (q := 47) X (1 : Int32) dX10_now_46 (by decide) rfl ?_
    refine vv_icmp_ne (q := 50) X 59 dX10_now_47 (by decide) rfl (fun c8 => ?_) (fun c8 => ?_)
    · have h := h.1 c8
      refine vv_iload_n (q := 60) X 1 dX10_now_59 rfl rfl rfl ?_
      refine vv_iconst (q := 61) X (2 : Int32) dX10_now_60 (by decide) rfl ?_
      refine vv_icmp_ne (q := 64) X 73 dX10_now_61 (by decide) rfl (fun c9 => ?_) (fun c9 => ?_)
      · have h := h.1 c9
        refine vv_iload_n (q := 74) X 1 dX10_now_73 rfl rfl rfl ?_
        refine vv_iconst (q := 75) X (3 : Int32) dX10_now_74 (by decide) rfl ?_
        refine vv_icmp_ne (q := 78) X 82 dX10_now_75 (by decide) rfl (fun c10 => ?_) (fun c10 => ?_)
        · have h := h.1 c10
          refine vv_iload_n (q := 83) X 1 dX10_now_82 rfl rfl rfl ?_
          refine vv_iconst (q := 84) X (4 : Int32) dX10_now_83 (by decide) rfl ?_
          refine vv_icmp_ne (q := 87) X 96 dX10_now_84 (by decide) rfl (fun c11 => ?_) (fun c11 => ?_)
          · have h := h.1 c11
            refine vv_iconst (q := 97) X (-1 : Int32) dX10_now_96 (by decide) rfl ?_
            exact vv_iret X hr dX10_now_97 ⟨h, rfl⟩
          · have h := h.2 c11
            refine vv_aload_n (q := 88) X 0 dX10_now_87 rfl rfl rfl ?_
            refine vv_getf (q := 91) (ref := "HalfLaddersModel") (C := RX10) (T := TX10) (N := 27) X 0 10 18 (Nat.le_of_ble_eq_true rfl) rfl rfl (Nat.le_of_ble_eq_true rfl) (fun _ h => List.mem_cons_of_mem _ (List.mem_append_right _ h)) (List.mem_of_getElem? (i := 2) rfl) rfl rfl dX10_now_88 rfl ?_
            refine vv_iconst (q := 92) X (3 : Int32) dX10_now_91 (by decide) rfl ?_
            obtain ⟨hin12, h⟩ := h
            refine vv_iald (q := 93) X 12 48 (Nat.le_of_ble_eq_true rfl) (fun _ => rfl) hin12 dX10_now_92 rfl ?_
            refine vv_goto X 97 dX10_now_93 (by decide) ?_
            exact vv_iret X hr dX10_now_97 ⟨h, rfl⟩
        · have h := h.2 c10
          refine vv_iload_n (q := 79) X 2 dX10_now_78 rfl rfl rfl ?_
          refine vv_goto X 97 dX10_now_79 (by decide) ?_
          exact vv_iret X hr dX10_now_97 ⟨h, rfl⟩
      · have h := h.2 c9
        refine vv_aload_n (q := 65) X 0 dX10_now_64 rfl rfl rfl ?_
        refine vv_getf (q := 68) (ref := "HalfLaddersModel") (C := RX10) (T := TX10) (N := 27) X 0 10 18 (Nat.le_of_ble_eq_true rfl) rfl rfl (Nat.le_of_ble_eq_true rfl) (fun _ h => List.mem_cons_of_mem _ (List.mem_append_right _ h)) (List.mem_of_getElem? (i := 2) rfl) rfl rfl dX10_now_65 rfl ?_
        refine vv_iconst (q := 69) X (2 : Int32) dX10_now_68 (by decide) rfl ?_
        obtain ⟨hin13, h⟩ := h
        refine vv_iald (q := 70) X 12 48 (Nat.le_of_ble_eq_true rfl) (fun _ => rfl) hin13 dX10_now_69 rfl ?_
        refine vv_goto X 97 dX10_now_70 (by decide) ?_
        exact vv_iret X hr dX10_now_97 ⟨h, rfl⟩
    · have h := h.2 c8
      refine vv_aload_n (q := 51) X 0 dX10_now_50 rfl rfl rfl ?_
      refine vv_getf (q := 54) (ref := "HalfLaddersModel") (C := RX10) (T := TX10) (N := 27) X 0 10 18 (Nat.le_of_ble_eq_true rfl) rfl rfl (Nat.le_of_ble_eq_true rfl) (fun _ h => List.mem_cons_of_mem _ (List.mem_append_right _ h)) (List.mem_of_getElem? (i := 2) rfl) rfl rfl dX10_now_51 rfl ?_
      refine vv_iconst (q := 55) X (1 : Int32) dX10_now_54 (by decide) rfl ?_
      obtain ⟨hin14, h⟩ := h
      refine vv_iald (q := 56) X 12 48 (Nat.le_of_ble_eq_true rfl) (fun _ => rfl) hin14 dX10_now_55 rfl ?_
      refine vv_goto X 97 dX10_now_56 (by decide) ?_
      exact vv_iret X hr dX10_now_97 ⟨h, rfl⟩
  · have h := h.2 c7
    refine vv_aload_n (q := 37) X 0 dX10_now_36 rfl rfl rfl ?_
    refine vv_getf (q := 40) (ref := "HalfLaddersModel") (C := RX10) (T := TX10) (N := 27) X 0 10 18 (Nat.le_of_ble_eq_true rfl) rfl rfl (Nat.le_of_ble_eq_true rfl) (fun _ h => List.mem_cons_of_mem _ (List.mem_append_right _ h)) (List.mem_of_getElem? (i := 2) rfl) rfl rfl dX10_now_37 rfl ?_
    refine vv_iconst (q := 41) X (0 : Int32) dX10_now_40 (by decide) rfl ?_
    obtain ⟨hin15, h⟩ := h
    refine vv_iald (q := 42) X 12 48 (Nat.le_of_ble_eq_true rfl) (fun _ => rfl) hin15 dX10_now_41 rfl ?_
    refine vv_goto X 97 dX10_now_42 (by decide) ?_
    exact vv_iret X hr dX10_now_97 ⟨h, rfl⟩

/-! X10_year: year()I -/
def rmX10_year : Room := { frames := 1, cells := 0, slots := 0, locals := 20 }
def wLX10_year_8   (K86 : St → Int32 → Prop) (P : Int32 → St → Prop) : Nat → St → Int32 → Int32 → Prop
  | 0, _, _, _ => False
  | n + 1, σ, x1, x2 =>
    vp_in (0 : Int32) 2 ∧
    ((σ.1 8 (0 : Int32).toNatClampNeg) ≤ x2 →
    K86 σ x1) ∧
    (¬ (σ.1 8 (0 : Int32).toNatClampNeg) ≤ x2 →
    vp_in (5 : Int32) 48 ∧
    vp_in (5 : Int32) 48 ∧
    ∀ σ6 : St, σ6 = sI σ 12 (5 : Int32).toNatClampNeg (((σ.1 12 (5 : Int32).toNatClampNeg) * (1103515245 : Int32)) + (12345 : Int32)) →
    vp_in x2 10 ∧
    vp_in (5 : Int32) 48 ∧
    vp_in ((6 : Int32) + x2) 48 ∧
    ∀ σ10 : St, σ10 = sI σ6 12 ((6 : Int32) + x2).toNatClampNeg (((σ6.1 11 x2.toNatClampNeg) * ((((σ6.1 12 (5 : Int32).toNatClampNeg).toUInt32 >>> ((16 : Int32).toUInt32 &&& Int32.toUInt32 31)).toInt32) - (((σ6.1 12 (5 : Int32).toNatClampNeg).toUInt32 >>> ((16 : Int32).toUInt32 &&& Int32.toUInt32 31)).toInt32) / (21 : Int32) * (21 : Int32))) / (10 : Int32)) →
    vp_in ((6 : Int32) + x2) 48 ∧
    ∀ z12 : Int32, z12 = (x1 + (σ10.1 12 ((6 : Int32) + x2).toNatClampNeg)) →
    ∀ z13 : Int32, z13 = x2 + (1 : Int32) →
    wLX10_year_8 K86 P n σ10 z12 z13)

set_option maxHeartbeats 4000000 in
set_option maxRecDepth 100000 in
theorem twLX10_year_8 {p : Program} {l : Launch} {e : Env} {s : State} {m : MethodId} {args : Array Value} {below : List Frame} {meth : Method} {c : Code} {D : va_G} {cy : Nat → ClassId} {ad : Nat → Nat} (X : XX p s m args meth c cX10_year 3 D cy (wM ad cy) wsX10_year RX10) (hr : meth.sig.returnType = (some .int))    (K86 : St → Int32 → Prop) {P : Int32 → St → Prop} (hK86 : ∀ (σ : St) (x1 : Int32), K86 σ x1 → VV p l e rmX10_year s m args below meth c (MQ below (va_Qi P (xPost D (wM ad cy)) (xA (wM ad cy))) args s 0 0 (xA (wM ad cy))) 3 D (wM ad cy) σ 86 [(1, .int x1)] []) : ∀ (n : Nat) (σ : St) (x1 : Int32) (x2 : Int32), wLX10_year_8 K86 P n σ x1 x2 → VV p l e rmX10_year s m args below meth c (MQ below (va_Qi P (xPost D (wM ad cy)) (xA (wM ad cy))) args s 0 0 (xA (wM ad cy))) 3 D (wM ad cy) σ 8 [(0, .ref (ad 0)), (1, .int x1), (2, .int x2)] [] := by
  intro n
  induction n with
  | zero => intro σ x1 x2 h; exact h.elim
  | succ n ih =>
    intro σ x1 x2 h
    rw [wLX10_year_8] at h
    refine vv_iload_n (q := 9) X 2 dX10_year_8 rfl rfl rfl ?_
    refine vv_aload_n (q := 10) X 0 dX10_year_9 rfl rfl rfl ?_
    refine vv_getf (q := 13) (ref := "HalfLaddersModel") (C := RX10) (T := TX10) (N := 27) X 0 10 9 (Nat.le_of_ble_eq_true rfl) rfl rfl (Nat.le_of_ble_eq_true rfl) (fun _ h => List.mem_cons_of_mem _ (List.mem_append_right _ h)) (List.mem_of_getElem? (i := 1) rfl) rfl rfl dX10_year_10 rfl ?_
    refine vv_iconst (q := 14) X (0 : Int32) dX10_year_13 (by decide) rfl ?_
    obtain ⟨hin2, h⟩ := h
    refine vv_iald (q := 15) X 8 2 (Nat.le_of_ble_eq_true rfl) (fun _ => rfl) hin2 dX10_year_14 rfl ?_
    refine vv_icmp_ge (q := 18) X 86 dX10_year_15 (by decide) rfl (fun c3 => ?_) (fun c3 => ?_)
    · have h := h.1 c3
      refine vv_sub (lv' := [(1, .int x1)]) [1] rfl ?_
      exact hK86 σ x1 h
    · have h := h.2 c3
      refine vv_aload_n (q := 19) X 0 dX10_year_18 rfl rfl rfl ?_
      refine vv_getf (q := 22) (ref := "HalfLaddersModel") (C := RX10) (T := TX10) (N := 27) X 0 10 18 (Nat.le_of_ble_eq_true rfl) rfl rfl (Nat.le_of_ble_eq_true rfl) (fun _ h => List.mem_cons_of_mem _ (List.mem_append_right _ h)) (List.mem_of_getElem? (i := 2) rfl) rfl rfl dX10_year_19 rfl ?_
      refine vv_iconst (q := 23) X (5 : Int32) dX10_year_22 (by decide) rfl ?_
      refine vv_aload_n (q := 24) X 0 dX10_year_23 rfl rfl rfl ?_
      refine vv_getf (q := 27) (ref := "HalfLaddersModel") (C := RX10) (T := TX10) (N := 27) X 0 10 18 (Nat.le_of_ble_eq_true rfl) rfl rfl (Nat.le_of_ble_eq_true rfl) (fun _ h => List.mem_cons_of_mem _ (List.mem_append_right _ h)) (List.mem_of_getElem? (i := 2) rfl) rfl rfl dX10_year_24 rfl ?_
      refine vv_iconst (q := 28) X (5 : Int32) dX10_year_27 (by decide) rfl ?_
      obtain ⟨hin4, h⟩ := h
      refine vv_iald (q := 29) X 12 48 (Nat.le_of_ble_eq_true rfl) (fun _ => rfl) hin4 dX10_year_28 rfl ?_
      refine vv_ldc (q := 31) X (1103515245 : Int32) dX10_year_29 (List.mem_of_getElem? (i := 3) rfl) rfl ?_
      refine vv_imul (q := 32) X dX10_year_31 rfl ?_
      refine vv_sipush (q := 35) X (12345 : Int32) dX10_year_32 (by decide) rfl ?_
      refine vv_iadd (q := 36) X dX10_year_35 rfl ?_
      obtain ⟨hin5, h⟩ := h
      refine vv_iast (q := 37) X 12 48 (Nat.le_of_ble_eq_true rfl) (fun _ => rfl) hin5 dX10_year_36 rfl ?_
      refine vv_nm (fun σ6 hσ6 => ?_)
      have h := h σ6 hσ6
      refine vv_aload_n (q := 38) X 0 dX10_year_37 rfl rfl rfl ?_
      refine vv_getf (q := 41) (ref := "HalfLaddersModel") (C := RX10) (T := TX10) (N := 27) X 0 10 18 (Nat.le_of_ble_eq_true rfl) rfl rfl (Nat.le_of_ble_eq_true rfl) (fun _ h => List.mem_cons_of_mem _ (List.mem_append_right _ h)) (List.mem_of_getElem? (i := 2) rfl) rfl rfl dX10_year_38 rfl ?_
      refine vv_bipush (q := 43) X (6 : Int32) dX10_year_41 (by decide) rfl ?_
      refine vv_iload_n (q := 44) X 2 dX10_year_43 rfl rfl rfl ?_
      refine vv_iadd (q := 45) X dX10_year_44 rfl ?_
      refine vv_aload_n (q := 46) X 0 dX10_year_45 rfl rfl rfl ?_
      refine vv_getf (q := 49) (ref := "HalfLaddersModel") (C := RX10) (T := TX10) (N := 27) X 0 10 12 (Nat.le_of_ble_eq_true rfl) rfl rfl (Nat.le_of_ble_eq_true rfl) (fun _ h => List.mem_cons_of_mem _ (List.mem_append_right _ h)) (List.mem_of_getElem? (i := 4) rfl) rfl rfl dX10_year_46 rfl ?_
      refine vv_iload_n (q := 50) X 2 dX10_year_49 rfl rfl rfl ?_
      obtain ⟨hin7, h⟩ := h
      refine vv_iald (q := 51) X 11 10 (Nat.le_of_ble_eq_true rfl) (fun _ => rfl) hin7 dX10_year_50 rfl ?_
      refine vv_aload_n (q := 52) X 0 dX10_year_51 rfl rfl rfl ?_
      refine vv_getf (q := 55) (ref := "HalfLaddersModel") (C := RX10) (T := TX10) (N := 27) X 0 10 18 (Nat.le_of_ble_eq_true rfl) rfl rfl (Nat.le_of_ble_eq_true rfl) (fun _ h => List.mem_cons_of_mem _ (List.mem_append_right _ h)) (List.mem_of_getElem? (i := 2) rfl) rfl rfl dX10_year_52 rfl ?_
      refine vv_iconst (q := 56) X (5 : Int32) dX10_year_55 (by decide) rfl ?_
      obtain ⟨hin8, h⟩ := h
      refine vv_iald (q := 57) X 12 48 (Nat.le_of_ble_eq_true rfl) (fun _ => rfl) hin8 dX10_year_56 rfl ?_
      refine vv_bipush (q := 59) X (16 : Int32) dX10_year_57 (by decide) rfl ?_
      refine vv_iushr (q := 60) X dX10_year_59 rfl ?_
      refine vv_bipush (q := 62) X (21 : Int32) dX10_year_60 (by decide) rfl ?_
      refine vv_irem (q := 63) X dX10_year_62 (by decide) rfl ?_
      refine vv_imul (q := 64) X dX10_year_63 rfl ?_
      refine vv_bipush (q := 66) X (10 : Int32) dX10_year_64 (by decide) rfl ?_
      refine vv_idiv (q := 67) X dX10_year_66 (by decide) rfl ?_
      obtain ⟨hin9, h⟩ := h
      refine vv_iast (q := 68) X 12 48 (Nat.le_of_ble_eq_true rfl) (fun _ => rfl) hin9 dX10_year_67 rfl ?_
      refine vv_nm (fun σ10 hσ10 => ?_)
      have h := h σ10 hσ10
      refine vv_iload_n (q := 69) X 1 dX10_year_68 rfl rfl rfl ?_
      refine vv_aload_n (q := 70) X 0 dX10_year_69 rfl rfl rfl ?_
      refine vv_getf (q := 73) (ref := "HalfLaddersModel") (C := RX10) (T := TX10) (N := 27) X 0 10 18 (Nat.le_of_ble_eq_true rfl) rfl rfl (Nat.le_of_ble_eq_true rfl) (fun _ h => List.mem_cons_of_mem _ (List.mem_append_right _ h)) (List.mem_of_getElem? (i := 2) rfl) rfl rfl dX10_year_70 rfl ?_
      refine vv_bipush (q := 75) X (6 : Int32) dX10_year_73 (by decide) rfl ?_
      refine vv_iload_n (q := 76) X 2 dX10_year_75 rfl rfl rfl ?_
      refine vv_iadd (q := 77) X dX10_year_76 rfl ?_
      obtain ⟨hin11, h⟩ := h
      refine vv_iald (q := 78) X 12 48 (Nat.le_of_ble_eq_true rfl) (fun _ => rfl) hin11 dX10_year_77 rfl ?_
      refine vv_iadd (q := 79) X dX10_year_78 rfl ?_
      refine vv_topi (fun z12 hz12 => ?_)
      have h := h z12 hz12
      refine vv_istore_n (lv2 := [(1, .int z12), (0, .ref (ad 0)), (2, .int x2)]) (q := 80) X dX10_year_79 rfl (Nat.le_of_ble_eq_true rfl) rfl rfl ?_
      obtain ⟨z13, hz13⟩ : ∃ y : Int32, y = x2 + (1 : Int32) := ⟨_, rfl⟩
      have h := h z13 hz13
      refine vv_iinc (v := z13) (lv2 := [(2, .int z13), (1, .int z12), (0, .ref (ad 0))]) (q := 83) X 2 dX10_year_80 rfl (by rw [hz13]; rfl) (Nat.le_of_ble_eq_true rfl) rfl rfl ?_
      refine vv_goto X 8 dX10_year_83 (by decide) ?_
      refine vv_sub (lv' := [(0, .ref (ad 0)), (1, .int z12), (2, .int z13)]) [2, 1, 0] rfl ?_
      exact ih σ10 z12 z13 h

def wX10_year (σ : St)  (P : Int32 → St → Prop) : Prop :=
wX10_begin σ  (fun σ1 : St =>
∃ n16 : Nat, wLX10_year_8 (fun (σ15 : St) (y14 : Int32) =>
P y14 σ15) P n16 σ1 (0 : Int32) (0 : Int32))

set_option maxHeartbeats 8000000 in
set_option maxRecDepth 100000 in
theorem kX10_year (l : Launch) (D : va_G) {cy : Nat → ClassId} {ad : Nat → Nat} (hw : xOk (wM ad cy)) {σ : St}  {P : Int32 → St → Prop} (h : wX10_year σ  P) : MI l yX10_year wsX10_year rmX10_year D cy (wM ad cy) [.ref (ad 0)] σ P := by
  unfold MI
  refine vv_met (cc := cX10_year) (maxL := 3) (ret := (some .int)) hw (by decide +kernel) rfl [.ref (ad 0)] (Nat.le_of_ble_eq_true rfl) ?_
  intro p e s m args below meth c X hr
  have X : XX p s m args meth c cX10_year 3 D cy (wM ad cy) wsX10_year RX10 := X
  refine vv_sub (lv' := [(0, .ref (ad 0))]) [0] rfl ?_
  rw [wX10_year] at h
  refine vv_aload_n (q := 1) X 0 dX10_year_0 rfl rfl rfl ?_
  refine vv_cVv (q := 4) (C := RX10) X 0 10 [] (kX10_begin l D X.2.2.1 h) (cwV 0 X.1.2.2.2.2 gX10_year_X10_begin rfl rfl rfl (by decide +kernel) ⟨Nat.le_of_ble_eq_true rfl, Nat.le_of_ble_eq_true rfl⟩) (Nat.le_of_ble_eq_true rfl) rfl rfl rfl rfl (Nat.le_of_ble_eq_true rfl) dX10_year_1 rfl (fun σ1 h => ?_)
  refine vv_iconst (q := 5) X (0 : Int32) dX10_year_4 (by decide) rfl ?_
  refine vv_istore_n (lv2 := [(1, .int (0 : Int32)), (0, .ref (ad 0))]) (q := 6) X dX10_year_5 rfl (Nat.le_of_ble_eq_true rfl) rfl rfl ?_
  refine vv_iconst (q := 7) X (0 : Int32) dX10_year_6 (by decide) rfl ?_
  refine vv_istore_n (lv2 := [(2, .int (0 : Int32)), (1, .int (0 : Int32)), (0, .ref (ad 0))]) (q := 8) X dX10_year_7 rfl (Nat.le_of_ble_eq_true rfl) rfl rfl ?_
  obtain ⟨n16, h⟩ := h
  refine vv_sub (lv' := [(0, .ref (ad 0)), (1, .int (0 : Int32)), (2, .int (0 : Int32))]) [2, 1, 0] rfl ?_
  refine twLX10_year_8 X hr  _ ?_ n16 σ1 (0 : Int32) (0 : Int32) h
  intro σ15 y14 h
  refine vv_iload_n (q := 87) X 0 dX10_year_86 rfl rfl rfl ?_
  exact vv_iret X hr dX10_year_87 h

/-! X10_lot: lot(I)I -/
def rmX10_lot : Room := { frames := 0, cells := 0, slots := 0, locals := 0 }
def wX10_lot (σ : St) (a1 : Int32) (P : Int32 → St → Prop) : Prop :=
vp_in (5 : Int32) 48 ∧
∀ z2 : Int32, z2 = (σ.1 12 (5 : Int32).toNatClampNeg) →
vp_in (5 : Int32) 48 ∧
∀ σ4 : St, σ4 = sI σ 12 (5 : Int32).toNatClampNeg a1 →
P z2 σ4

set_option maxHeartbeats 8000000 in
set_option maxRecDepth 100000 in
theorem kX10_lot (l : Launch) (D : va_G) {cy : Nat → ClassId} {ad : Nat → Nat} (hw : xOk (wM ad cy)) {σ : St} {a1 : Int32} {P : Int32 → St → Prop} (h : wX10_lot σ a1 P) : MI l yX10_lot wsX10_lot rmX10_lot D cy (wM ad cy) [.ref (ad 0), .int a1] σ P := by
  unfold MI
  refine vv_met (cc := cX10_lot) (maxL := 3) (ret := (some .int)) hw (by decide +kernel) rfl [.ref (ad 0), .int a1] (Nat.le_of_ble_eq_true rfl) ?_
  intro p e s m args below meth c X hr
  have X : XX p s m args meth c cX10_lot 3 D cy (wM ad cy) wsX10_lot RX10 := X
  refine vv_sub (lv' := [(0, .ref (ad 0)), (1, .int a1)]) [0, 1] rfl ?_
  rw [wX10_lot] at h
  refine vv_aload_n (q := 1) X 0 dX10_lot_0 rfl rfl rfl ?_
  refine vv_getf (q := 4) (ref := "HalfLaddersModel") (C := RX10) (T := TX10) (N := 27) X 0 10 18 (Nat.le_of_ble_eq_true rfl) rfl rfl (Nat.le_of_ble_eq_true rfl) (fun _ h => List.mem_cons_of_mem _ (List.mem_append_right _ h)) (List.mem_of_getElem? (i := 1) rfl) rfl rfl dX10_lot_1 rfl ?_
  refine vv_iconst (q := 5) X (5 : Int32) dX10_lot_4 (by decide) rfl ?_
  obtain ⟨hin1, h⟩ := h
  refine vv_iald (q := 6) X 12 48 (Nat.le_of_ble_eq_true rfl) (fun _ => rfl) hin1 dX10_lot_5 rfl ?_
  refine vv_topi (fun z2 hz2 => ?_)
  have h := h z2 hz2
  refine vv_istore_n (lv2 := [(2, .int z2), (0, .ref (ad 0)), (1, .int a1)]) (q := 7) X dX10_lot_6 rfl (Nat.le_of_ble_eq_true rfl) rfl rfl ?_
  refine vv_aload_n (q := 8) X 1 dX10_lot_7 rfl rfl rfl ?_
  refine vv_getf (q := 11) (ref := "HalfLaddersModel") (C := RX10) (T := TX10) (N := 27) X 0 10 18 (Nat.le_of_ble_eq_true rfl) rfl rfl (Nat.le_of_ble_eq_true rfl) (fun _ h => List.mem_cons_of_mem _ (List.mem_append_right _ h)) (List.mem_of_getElem? (i := 1) rfl) rfl rfl dX10_lot_8 rfl ?_
  refine vv_iconst (q := 12) X (5 : Int32) dX10_lot_11 (by decide) rfl ?_
  refine vv_iload_n (q := 13) X 2 dX10_lot_12 rfl rfl rfl ?_
  obtain ⟨hin3, h⟩ := h
  refine vv_iast (q := 14) X 12 48 (Nat.le_of_ble_eq_true rfl) (fun _ => rfl) hin3 dX10_lot_13 rfl ?_
  refine vv_nm (fun σ4 hσ4 => ?_)
  have h := h σ4 hσ4
  refine vv_iload_n (q := 15) X 0 dX10_lot_14 rfl rfl rfl ?_
  exact vv_iret X hr dX10_lot_15 h

/-! X10_leftOf: leftOf(I)I -/
def rmX10_leftOf : Room := { frames := 0, cells := 0, slots := 0, locals := 0 }
def wX10_leftOf (σ : St) (a0 : Int32) (P : Int32 → Prop) : Prop :=
P (a0 / (10 : Int32))

set_option maxHeartbeats 8000000 in
set_option maxRecDepth 100000 in
theorem kX10_leftOf (l : Launch) (D : va_G) {cy : Nat → ClassId} {ad : Nat → Nat} (hw : xOk (wM ad cy)) {σ : St} {a0 : Int32} {P : Int32 → Prop} (h : wX10_leftOf σ a0 P) : MI l yX10_leftOf wsX10_leftOf rmX10_leftOf D cy (wM ad cy) [.int a0] σ (fun r u => P r ∧ u = σ) := by
  unfold MI
  refine vv_met (cc := cX10_leftOf) (maxL := 1) (ret := (some .int)) hw (by decide +kernel) rfl [.int a0] (Nat.le_of_ble_eq_true rfl) ?_
  intro p e s m args below meth c X hr
  have X : XX p s m args meth c cX10_leftOf 1 D cy (wM ad cy) wsX10_leftOf RX10 := X
  refine vv_sub (lv' := [(0, .int a0)]) [0] rfl ?_
  rw [wX10_leftOf] at h
  refine vv_iload_n (q := 1) X 0 dX10_leftOf_0 rfl rfl rfl ?_
  refine vv_bipush (q := 3) X (10 : Int32) dX10_leftOf_1 (by decide) rfl ?_
  refine vv_idiv (q := 4) X dX10_leftOf_3 (by decide) rfl ?_
  exact vv_iret X hr dX10_leftOf_4 ⟨h, rfl⟩

/-! X10_mayPair: mayPair(IIII)Z -/
def rmX10_mayPair : Room := { frames := 2, cells := 0, slots := 0, locals := 47 }
def wX10_mayPair (σ : St) (a1 : Int32) (a2 : Int32) (a3 : Int32) (a4 : Int32) (P : Int32 → Prop) : Prop :=
∀ z1 : Int32, z1 = (a2 / (10 : Int32)) →
∀ z2 : Int32, z2 = (a2 - a2 / (10 : Int32) * (10 : Int32)) →
wX10_isOne σ z1 (fun r3 : Int32 =>
(r3 = 0 →
P (0 : Int32)) ∧
(¬ r3 = 0 →
wX10_isOne σ z2 (fun r5 : Int32 =>
(r5 = 0 →
P (0 : Int32)) ∧
(¬ r5 = 0 →
vp_in z1 16 ∧
(¬ (σ.1 3 z1.toNatClampNeg) = 0 →
P (0 : Int32)) ∧
((σ.1 3 z1.toNatClampNeg) = 0 →
vp_in z2 16 ∧
(¬ (σ.1 3 z2.toNatClampNeg) = (1 : Int32) →
P (0 : Int32)) ∧
((σ.1 3 z2.toNatClampNeg) = (1 : Int32) →
(¬ ((a4 >>> (z1 &&& 31)) &&& (1 : Int32)) = 0 →
P (0 : Int32)) ∧
(((a4 >>> (z1 &&& 31)) &&& (1 : Int32)) = 0 →
(¬ ((a4 >>> (z2 &&& 31)) &&& (1 : Int32)) = 0 →
P (0 : Int32)) ∧
(((a4 >>> (z2 &&& 31)) &&& (1 : Int32)) = 0 →
wX10_mayClimb σ a1 z1 z2 a3 (fun r13 : Int32 =>
(r13 = 0 →
P (0 : Int32)) ∧
(¬ r13 = 0 →
P (1 : Int32)))))))))))

set_option maxHeartbeats 8000000 in
set_option maxRecDepth 100000 in
theorem kX10_mayPair (l : Launch) (D : va_G) {cy : Nat → ClassId} {ad : Nat → Nat} (hw : xOk (wM ad cy)) {σ : St} {a1 : Int32} {a2 : Int32} {a3 : Int32} {a4 : Int32} {P : Int32 → Prop} (h : wX10_mayPair σ a1 a2 a3 a4 P) : MI l yX10_mayPair wsX10_mayPair rmX10_mayPair D cy (wM ad cy) [.ref (ad 0), .int a1, .int a2, .int a3, .int a4] σ (fun r u => P r ∧ u = σ) := by
  unfold MI
  refine vv_met (cc := cX10_mayPair) (maxL := 7) (ret := (some .boolean)) hw (by decide +kernel) rfl [.ref (ad 0), .int a1, .int a2, .int a3, .int a4] (Nat.le_of_ble_eq_true rfl) ?_
  intro p e s m args below meth c X hr
  have X : XX p s m args meth c cX10_mayPair 7 D cy (wM ad cy) wsX10_mayPair RX10 := X
  refine vv_sub (lv' := [(0, .ref (ad 0)), (1, .int a1), (2, .int a2), (3, .int a3), (4, .int a4)]) [0, 1, 2, 3, 4] rfl ?_
  rw [wX10_mayPair] at h
  refine vv_iload_n (q := 1) X 2 dX10_mayPair_0 rfl rfl rfl ?_
  refine vv_bipush (q := 3) X (10 : Int32) dX10_mayPair_1 (by decide) rfl ?_
  refine vv_idiv (q := 4) X dX10_mayPair_3 (by decide) rfl ?_
  refine vv_topi (fun z1 hz1 => ?_)
  have h := h z1 hz1
  refine vv_istore (lv2 := [(5, .int z1), (0, .ref (ad 0)), (1, .int a1), (2, .int a2), (3, .int a3), (4, .int a4)]) (q := 6) X dX10_mayPair_4 (Nat.le_of_ble_eq_true rfl) rfl rfl ?_
  refine vv_iload_n (q := 7) X 3 dX10_mayPair_6 rfl rfl rfl ?_
  refine vv_bipush (q := 9) X (10 : Int32) dX10_mayPair_7 (by decide) rfl ?_
  refine vv_irem (q := 10) X dX10_mayPair_9 (by decide) rfl ?_
  refine vv_topi (fun z2 hz2 => ?_)
  have h := h z2 hz2
  refine vv_istore (lv2 := [(6, .int z2), (5, .int z1), (0, .ref (ad 0)), (1, .int a1), (2, .int a2), (3, .int a3), (4, .int a4)]) (q := 12) X dX10_mayPair_10 (Nat.le_of_ble_eq_true rfl) rfl rfl ?_
  refine vv_aload_n (q := 13) X 2 dX10_mayPair_12 rfl rfl rfl ?_
  refine vv_iload (q := 15) X 1 dX10_mayPair_13 rfl rfl ?_
  refine vv_cVi (q := 18) (C := RX10) X 0 10 [.int z1] (kX10_isOne l D X.2.2.1 h) (cwV 1 X.1.2.2.2.2 gX10_mayPair_X10_isOne rfl rfl rfl (by decide +kernel) ⟨Nat.le_of_ble_eq_true rfl, Nat.le_of_ble_eq_true rfl⟩) (Nat.le_of_ble_eq_true rfl) rfl rfl rfl rfl (Nat.le_of_ble_eq_true rfl) dX10_mayPair_15 rfl (fun r3 u9 h9 => ?_)
  obtain ⟨h9, hu9⟩ := h9
  subst u9
  have h := h9
  refine vv_if_eq (q := 21) X 88 dX10_mayPair_18 (by decide) rfl (fun c4 => ?_) (fun c4 => ?_)
  · have h := h.1 c4
    refine vv_iconst (q := 89) X (0 : Int32) dX10_mayPair_88 (by decide) rfl ?_
    exact vv_zret X hr rfl dX10_mayPair_89 ⟨h, rfl⟩
  · have h := h.2 c4
    refine vv_aload_n (q := 22) X 2 dX10_mayPair_21 rfl rfl rfl ?_
    refine vv_iload (q := 24) X 0 dX10_mayPair_22 rfl rfl ?_
    refine vv_cVi (q := 27) (C := RX10) X 0 10 [.int z2] (kX10_isOne l D X.2.2.1 h) (cwV 1 X.1.2.2.2.2 gX10_mayPair_X10_isOne rfl rfl rfl (by decide +kernel) ⟨Nat.le_of_ble_eq_true rfl, Nat.le_of_ble_eq_true rfl⟩) (Nat.le_of_ble_eq_true rfl) rfl rfl rfl rfl (Nat.le_of_ble_eq_true rfl) dX10_mayPair_24 rfl (fun r5 u9 h9 => ?_)
    obtain ⟨h9, hu9⟩ := h9
    subst u9
    have h := h9
    refine vv_if_eq (q := 30) X 88 dX10_mayPair_27 (by decide) rfl (fun c6 => ?_) (fun c6 => ?_)
    · have h := h.1 c6
      refine vv_iconst (q := 89) X (0 : Int32) dX10_mayPair_88 (by decide) rfl ?_
      exact vv_zret X hr rfl dX10_mayPair_89 ⟨h, rfl⟩
    · have h := h.2 c6
      refine vv_aload_n (q := 31) X 2 dX10_mayPair_30 rfl rfl rfl ?_
      refine vv_getf (q := 34) (ref := "HalfLaddersModel") (C := RX10) (T := TX10) (N := 27) X 0 10 4 (Nat.le_of_ble_eq_true rfl) rfl rfl (Nat.le_of_ble_eq_true rfl) (fun _ h => List.mem_cons_of_mem _ (List.mem_append_right _ h)) (List.mem_of_getElem? (i := 1) rfl) rfl rfl dX10_mayPair_31 rfl ?_
      refine vv_iload (q := 36) X 1 dX10_mayPair_34 rfl rfl ?_
      obtain ⟨hin7, h⟩ := h
      refine vv_iald (q := 37) X 3 16 (Nat.le_of_ble_eq_true rfl) (fun _ => rfl) hin7 dX10_mayPair_36 rfl ?_
      refine vv_if_ne (q := 40) X 88 dX10_mayPair_37 (by decide) rfl (fun c8 => ?_) (fun c8 => ?_)
      · have h := h.1 c8
        refine vv_iconst (q := 89) X (0 : Int32) dX10_mayPair_88 (by decide) rfl ?_
        exact vv_zret X hr rfl dX10_mayPair_89 ⟨h, rfl⟩
      · have h := h.2 c8
        refine vv_aload_n (q := 41) X 2 dX10_mayPair_40 rfl rfl rfl ?_
        refine vv_getf (q := 44) (ref := "HalfLaddersModel") (C := RX10) (T := TX10) (N := 27) X 0 10 4 (Nat.le_of_ble_eq_true rfl) rfl rfl (Nat.le_of_ble_eq_true rfl) (fun _ h => List.mem_cons_of_mem _ (List.mem_append_right _ h)) (List.mem_of_getElem? (i := 1) rfl) rfl rfl dX10_mayPair_41 rfl ?_
        refine vv_iload (q := 46) X 0 dX10_mayPair_44 rfl rfl ?_
        obtain ⟨hin9, h⟩ := h
        refine vv_iald (q := 47) X 3 16 (Nat.le_of_ble_eq_true rfl) (fun _ => rfl) hin9 dX10_mayPair_46 rfl ?_
        refine vv_iconst (q := 48) X (1 : Int32) dX10_mayPair_47 (by decide) rfl ?_
        refine vv_icmp_ne (q := 51) X 88 dX10_mayPair_48 (by decide) rfl (fun c10 => ?_) (fun c10 => ?_)
        · have h := h.1 c10
          refine vv_iconst (q := 89) X (0 : Int32) dX10_mayPair_88 (by decide) rfl ?_
          exact vv_zret X hr rfl dX10_mayPair_89 ⟨h, rfl⟩
        · have h := h.2 c10
          refine vv_iload (q := 53) X 6 dX10_mayPair_51 rfl rfl ?_
          refine vv_iload (q := 55) X 1 dX10_mayPair_53 rfl rfl ?_
          refine vv_ishr (q := 56) X dX10_mayPair_55 rfl ?_
          refine vv_iconst (q := 57) X (1 : Int32) dX10_mayPair_56 (by decide) rfl ?_
          refine vv_iand (q := 58) X dX10_mayPair_57 rfl ?_
          refine vv_if_ne (q := 61) X 88 dX10_mayPair_58 (by decide) rfl (fun c11 => ?_) (fun c11 => ?_)
          · have h := h.1 c11
            refine vv_iconst (q := 89) X (0 : Int32) dX10_mayPair_88 (by decide) rfl ?_
            exact vv_zret X hr rfl dX10_mayPair_89 ⟨h, rfl⟩
          · have h := h.2 c11
            refine vv_iload (q := 63) X 6 dX10_mayPair_61 rfl rfl ?_
            refine vv_iload (q := 65) X 0 dX10_mayPair_63 rfl rfl ?_
            refine vv_ishr (q := 66) X dX10_mayPair_65 rfl ?_
            refine vv_iconst (q := 67) X (1 : Int32) dX10_mayPair_66 (by decide) rfl ?_
            refine vv_iand (q := 68) X dX10_mayPair_67 rfl ?_
            refine vv_if_ne (q := 71) X 88 dX10_mayPair_68 (by decide) rfl (fun c12 => ?_) (fun c12 => ?_)
            · have h := h.1 c12
              refine vv_iconst (q := 89) X (0 : Int32) dX10_mayPair_88 (by decide) rfl ?_
              exact vv_zret X hr rfl dX10_mayPair_89 ⟨h, rfl⟩
            · have h := h.2 c12
              refine vv_aload_n (q := 72) X 2 dX10_mayPair_71 rfl rfl rfl ?_
              refine vv_iload_n (q := 73) X 3 dX10_mayPair_72 rfl rfl rfl ?_
              refine vv_iload (q := 75) X 1 dX10_mayPair_73 rfl rfl ?_
              refine vv_iload (q := 77) X 0 dX10_mayPair_75 rfl rfl ?_
              refine vv_iload_n (q := 78) X 5 dX10_mayPair_77 rfl rfl rfl ?_
              refine vv_cVi (q := 81) (C := RX10) X 0 10 [.int a1, .int z1, .int z2, .int a3] (kX10_mayClimb l D X.2.2.1 h) (cwV 4 X.1.2.2.2.2 gX10_mayPair_X10_mayClimb rfl rfl rfl (by decide +kernel) ⟨Nat.le_of_ble_eq_true rfl, Nat.le_of_ble_eq_true rfl⟩) (Nat.le_of_ble_eq_true rfl) rfl rfl rfl rfl (Nat.le_of_ble_eq_true rfl) dX10_mayPair_78 rfl (fun r13 u9 h9 => ?_)
              obtain ⟨h9, hu9⟩ := h9
              subst u9
              have h := h9
              refine vv_if_eq (q := 84) X 88 dX10_mayPair_81 (by decide) rfl (fun c14 => ?_) (fun c14 => ?_)
              · have h := h.1 c14
                refine vv_iconst (q := 89) X (0 : Int32) dX10_mayPair_88 (by decide) rfl ?_
                exact vv_zret X hr rfl dX10_mayPair_89 ⟨h, rfl⟩
              · have h := h.2 c14
                refine vv_iconst (q := 85) X (1 : Int32) dX10_mayPair_84 (by decide) rfl ?_
                refine vv_goto X 89 dX10_mayPair_85 (by decide) ?_
                exact vv_zret X hr rfl dX10_mayPair_89 ⟨h, rfl⟩

