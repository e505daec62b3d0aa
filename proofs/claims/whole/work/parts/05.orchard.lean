/-! X3_everybody: everybody()I -/
def rmX3_everybody : Room := { frames := 0, cells := 0, slots := 0, locals := 0 }
def wX3_everybody (σ : St) (a0 : Nat) (P : Int32 → Prop) : Prop :=
isO a0 ∧
P (((1 : Int32) <<< ((σ.1 a0 0) &&& 31)) - (1 : Int32))

set_option maxHeartbeats 8000000 in
set_option maxRecDepth 100000 in
theorem kX3_everybody (l : Launch) (D : va_G) {cy : Nat → ClassId} {ad : Nat → Nat} {zb : Nat → Nat} (hw : xOk (wC ad cy zb)) {σ : St} {a0 : Nat} {P : Int32 → Prop} (h : wX3_everybody σ a0 P) : MI l yX3_everybody wsX3_everybody rmX3_everybody D cy (wC ad cy zb) [.ref (ad a0)] σ (fun r u => P r ∧ u = σ) := by
  unfold MI
  refine vv_met (cc := cX3_everybody) (maxL := 1) (ret := (some .int)) hw (by decide +kernel) rfl [.ref (ad a0)] (Nat.le_of_ble_eq_true rfl) ?_
  intro p e s m args below meth c X hr
  have X : XX p s m args meth c cX3_everybody 1 D cy (wC ad cy zb) wsX3_everybody RX3 := X
  refine vv_sub (lv' := [(0, .ref (ad a0))]) [0] rfl ?_
  rw [wX3_everybody] at h
  obtain ⟨ha0, h⟩ := h
  refine vv_iconst (q := 1) X (1 : Int32) dX3_everybody_0 (by decide) rfl ?_
  refine vv_aload_n (q := 2) X 0 dX3_everybody_1 rfl rfl rfl ?_
  refine vv_getf (q := 5) (ref := "HalfLadders$Orchard") (C := RX3) (T := TX3) (N := 10) X a0 3 0 (isO_lt 0 ha0 (Nat.le_of_ble_eq_true rfl)) (e_isO (ad := ad) (cy := cy) ha0 _ _) rfl (Nat.le_of_ble_eq_true rfl) (fun _ h => List.mem_cons_of_mem _ (List.mem_append_right _ h)) (List.mem_of_getElem? (i := 1) rfl) rfl rfl dX3_everybody_2 rfl ?_
  refine vv_ishl (q := 6) X dX3_everybody_5 rfl ?_
  refine vv_iconst (q := 7) X (1 : Int32) dX3_everybody_6 (by decide) rfl ?_
  refine vv_isub (q := 8) X dX3_everybody_7 rfl ?_
  exact vv_iret X hr dX3_everybody_8 ⟨h, rfl⟩

/-! X3_hasHalf: hasHalf(I)Z -/
def rmX3_hasHalf : Room := { frames := 0, cells := 0, slots := 0, locals := 0 }
def wX3_hasHalf (σ : St) (a0 : Nat) (a1 : Int32) (P : Int32 → Prop) : Prop :=
isO a0 ∧
(a1 < 0 →
P (0 : Int32)) ∧
(¬ a1 < 0 →
((σ.1 a0 0) ≤ a1 →
P (0 : Int32)) ∧
(¬ (σ.1 a0 0) ≤ a1 →
P (1 : Int32)))

set_option maxHeartbeats 8000000 in
set_option maxRecDepth 100000 in
theorem kX3_hasHalf (l : Launch) (D : va_G) {cy : Nat → ClassId} {ad : Nat → Nat} {zb : Nat → Nat} (hw : xOk (wC ad cy zb)) {σ : St} {a0 : Nat} {a1 : Int32} {P : Int32 → Prop} (h : wX3_hasHalf σ a0 a1 P) : MI l yX3_hasHalf wsX3_hasHalf rmX3_hasHalf D cy (wC ad cy zb) [.ref (ad a0), .int a1] σ (fun r u => P r ∧ u = σ) := by
  unfold MI
  refine vv_met (cc := cX3_hasHalf) (maxL := 2) (ret := (some .boolean)) hw (by decide +kernel) rfl [.ref (ad a0), .int a1] (Nat.le_of_ble_eq_true rfl) ?_
  intro p e s m args below meth c X hr
  have X : XX p s m args meth c cX3_hasHalf 2 D cy (wC ad cy zb) wsX3_hasHalf RX3 := X
  refine vv_sub (lv' := [(0, .ref (ad a0)), (1, .int a1)]) [0, 1] rfl ?_
  rw [wX3_hasHalf] at h
  obtain ⟨ha0, h⟩ := h
  refine vv_iload_n (q := 1) X 1 dX3_hasHalf_0 rfl rfl rfl ?_
  refine vv_if_lt (q := 4) X 16 dX3_hasHalf_1 (by decide) rfl (fun c1 => ?_) (fun c1 => ?_)
  · have h := h.1 c1
    refine vv_iconst (q := 17) X (0 : Int32) dX3_hasHalf_16 (by decide) rfl ?_
    exact vv_zret X hr rfl dX3_hasHalf_17 ⟨h, rfl⟩
  · have h := h.2 c1
    refine vv_iload_n (q := 5) X 1 dX3_hasHalf_4 rfl rfl rfl ?_
    refine vv_aload_n (q := 6) X 0 dX3_hasHalf_5 rfl rfl rfl ?_
    refine vv_getf (q := 9) (ref := "HalfLadders$Orchard") (C := RX3) (T := TX3) (N := 10) X a0 3 0 (isO_lt 0 ha0 (Nat.le_of_ble_eq_true rfl)) (e_isO (ad := ad) (cy := cy) ha0 _ _) rfl (Nat.le_of_ble_eq_true rfl) (fun _ h => List.mem_cons_of_mem _ (List.mem_append_right _ h)) (List.mem_of_getElem? (i := 1) rfl) rfl rfl dX3_hasHalf_6 rfl ?_
    refine vv_icmp_ge (q := 12) X 16 dX3_hasHalf_9 (by decide) rfl (fun c2 => ?_) (fun c2 => ?_)
    · have h := h.1 c2
      refine vv_iconst (q := 17) X (0 : Int32) dX3_hasHalf_16 (by decide) rfl ?_
      exact vv_zret X hr rfl dX3_hasHalf_17 ⟨h, rfl⟩
    · have h := h.2 c2
      refine vv_iconst (q := 13) X (1 : Int32) dX3_hasHalf_12 (by decide) rfl ?_
      refine vv_goto X 17 dX3_hasHalf_13 (by decide) ?_
      exact vv_zret X hr rfl dX3_hasHalf_17 ⟨h, rfl⟩

/-! X3_couldFit: couldFit(II)Z -/
def rmX3_couldFit : Room := { frames := 1, cells := 0, slots := 0, locals := 21 }
def wX3_couldFit (σ : St) (a0 : Nat) (a1 : Int32) (a2 : Int32) (P : Int32 → Prop) : Prop :=
isO a0 ∧
wX3_hasHalf σ a0 a1 (fun r1 : Int32 =>
(r1 = 0 →
P (0 : Int32)) ∧
(¬ r1 = 0 →
wX3_hasHalf σ a0 a2 (fun r3 : Int32 =>
(r3 = 0 →
P (0 : Int32)) ∧
(¬ r3 = 0 →
vp_in a1 8 ∧
vp_in a2 8 ∧
((σ.1 (a0 + 1) a1.toNatClampNeg) = (σ.1 (a0 + 1) a2.toNatClampNeg) →
P (0 : Int32)) ∧
(¬ (σ.1 (a0 + 1) a1.toNatClampNeg) = (σ.1 (a0 + 1) a2.toNatClampNeg) →
vp_in a1 8 ∧
(¬ (((σ.1 (a0 + 5) a1.toNatClampNeg) >>> (a2 &&& 31)) &&& (1 : Int32)) = 0 →
P (0 : Int32)) ∧
((((σ.1 (a0 + 5) a1.toNatClampNeg) >>> (a2 &&& 31)) &&& (1 : Int32)) = 0 →
P (1 : Int32)))))))

set_option maxHeartbeats 8000000 in
set_option maxRecDepth 100000 in
theorem kX3_couldFit (l : Launch) (D : va_G) {cy : Nat → ClassId} {ad : Nat → Nat} {zb : Nat → Nat} (hw : xOk (wC ad cy zb)) {σ : St} {a0 : Nat} {a1 : Int32} {a2 : Int32} {P : Int32 → Prop} (h : wX3_couldFit σ a0 a1 a2 P) : MI l yX3_couldFit wsX3_couldFit rmX3_couldFit D cy (wC ad cy zb) [.ref (ad a0), .int a1, .int a2] σ (fun r u => P r ∧ u = σ) := by
  unfold MI
  refine vv_met (cc := cX3_couldFit) (maxL := 3) (ret := (some .boolean)) hw (by decide +kernel) rfl [.ref (ad a0), .int a1, .int a2] (Nat.le_of_ble_eq_true rfl) ?_
  intro p e s m args below meth c X hr
  have X : XX p s m args meth c cX3_couldFit 3 D cy (wC ad cy zb) wsX3_couldFit RX3 := X
  refine vv_sub (lv' := [(0, .ref (ad a0)), (1, .int a1), (2, .int a2)]) [0, 1, 2] rfl ?_
  rw [wX3_couldFit] at h
  obtain ⟨ha0, h⟩ := h
  refine vv_aload_n (q := 1) X 0 dX3_couldFit_0 rfl rfl rfl ?_
  refine vv_iload_n (q := 2) X 1 dX3_couldFit_1 rfl rfl rfl ?_
  refine vv_cVi (q := 5) (C := RX3) X a0 3 [.int a1] (kX3_hasHalf l D X.2.2.1 h) (cwV 1 X.1.2.2.2.2 gX3_couldFit_X3_hasHalf rfl rfl rfl (by decide +kernel) ⟨Nat.le_of_ble_eq_true rfl, Nat.le_of_ble_eq_true rfl⟩) (isO_lt 0 ha0 (Nat.le_of_ble_eq_true rfl)) (e_isO (ad := ad) (cy := cy) ha0 _ _) rfl rfl rfl (Nat.le_of_ble_eq_true rfl) dX3_couldFit_2 rfl (fun r1 u9 h9 => ?_)
  obtain ⟨h9, hu9⟩ := h9
  subst u9
  have h := h9
  refine vv_if_eq (q := 8) X 48 dX3_couldFit_5 (by decide) rfl (fun c2 => ?_) (fun c2 => ?_)
  · have h := h.1 c2
    refine vv_iconst (q := 49) X (0 : Int32) dX3_couldFit_48 (by decide) rfl ?_
    exact vv_zret X hr rfl dX3_couldFit_49 ⟨h, rfl⟩
  · have h := h.2 c2
    refine vv_aload_n (q := 9) X 0 dX3_couldFit_8 rfl rfl rfl ?_
    refine vv_iload_n (q := 10) X 2 dX3_couldFit_9 rfl rfl rfl ?_
    refine vv_cVi (q := 13) (C := RX3) X a0 3 [.int a2] (kX3_hasHalf l D X.2.2.1 h) (cwV 1 X.1.2.2.2.2 gX3_couldFit_X3_hasHalf rfl rfl rfl (by decide +kernel) ⟨Nat.le_of_ble_eq_true rfl, Nat.le_of_ble_eq_true rfl⟩) (isO_lt 0 ha0 (Nat.le_of_ble_eq_true rfl)) (e_isO (ad := ad) (cy := cy) ha0 _ _) rfl rfl rfl (Nat.le_of_ble_eq_true rfl) dX3_couldFit_10 rfl (fun r3 u9 h9 => ?_)
    obtain ⟨h9, hu9⟩ := h9
    subst u9
    have h := h9
    refine vv_if_eq (q := 16) X 48 dX3_couldFit_13 (by decide) rfl (fun c4 => ?_) (fun c4 => ?_)
    · have h := h.1 c4
      refine vv_iconst (q := 49) X (0 : Int32) dX3_couldFit_48 (by decide) rfl ?_
      exact vv_zret X hr rfl dX3_couldFit_49 ⟨h, rfl⟩
    · have h := h.2 c4
      refine vv_aload_n (q := 17) X 0 dX3_couldFit_16 rfl rfl rfl ?_
      refine vv_getf (q := 20) (ref := "HalfLadders$Orchard") (C := RX3) (T := TX3) (N := 10) X a0 3 2 (isO_lt 0 ha0 (Nat.le_of_ble_eq_true rfl)) (e_isO (ad := ad) (cy := cy) ha0 _ _) rfl (Nat.le_of_ble_eq_true rfl) (fun _ h => List.mem_cons_of_mem _ (List.mem_append_right _ h)) (List.mem_of_getElem? (i := 1) rfl) rfl rfl dX3_couldFit_17 rfl ?_
      refine vv_iload_n (q := 21) X 1 dX3_couldFit_20 rfl rfl rfl ?_
      obtain ⟨hin5, h⟩ := h
      refine vv_iald (q := 22) X (a0 + 1) 8 (isO_lt 1 ha0 (Nat.le_of_ble_eq_true rfl)) (fun f => e_isO_1 (ad := ad) (cy := cy) ha0 f σ.2) hin5 dX3_couldFit_21 rfl ?_
      refine vv_aload_n (q := 23) X 0 dX3_couldFit_22 rfl rfl rfl ?_
      refine vv_getf (q := 26) (ref := "HalfLadders$Orchard") (C := RX3) (T := TX3) (N := 10) X a0 3 2 (isO_lt 0 ha0 (Nat.le_of_ble_eq_true rfl)) (e_isO (ad := ad) (cy := cy) ha0 _ _) rfl (Nat.le_of_ble_eq_true rfl) (fun _ h => List.mem_cons_of_mem _ (List.mem_append_right _ h)) (List.mem_of_getElem? (i := 1) rfl) rfl rfl dX3_couldFit_23 rfl ?_
      refine vv_iload_n (q := 27) X 2 dX3_couldFit_26 rfl rfl rfl ?_
      obtain ⟨hin6, h⟩ := h
      refine vv_iald (q := 28) X (a0 + 1) 8 (isO_lt 1 ha0 (Nat.le_of_ble_eq_true rfl)) (fun f => e_isO_1 (ad := ad) (cy := cy) ha0 f σ.2) hin6 dX3_couldFit_27 rfl ?_
      refine vv_icmp_eq (q := 31) X 48 dX3_couldFit_28 (by decide) rfl (fun c7 => ?_) (fun c7 => ?_)
      · have h := h.1 c7
        refine vv_iconst (q := 49) X (0 : Int32) dX3_couldFit_48 (by decide) rfl ?_
        exact vv_zret X hr rfl dX3_couldFit_49 ⟨h, rfl⟩
      · have h := h.2 c7
        refine vv_aload_n (q := 32) X 0 dX3_couldFit_31 rfl rfl rfl ?_
        refine vv_getf (q := 35) (ref := "HalfLadders$Orchard") (C := RX3) (T := TX3) (N := 10) X a0 3 6 (isO_lt 0 ha0 (Nat.le_of_ble_eq_true rfl)) (e_isO (ad := ad) (cy := cy) ha0 _ _) rfl (Nat.le_of_ble_eq_true rfl) (fun _ h => List.mem_cons_of_mem _ (List.mem_append_right _ h)) (List.mem_of_getElem? (i := 2) rfl) rfl rfl dX3_couldFit_32 rfl ?_
        refine vv_iload_n (q := 36) X 1 dX3_couldFit_35 rfl rfl rfl ?_
        obtain ⟨hin8, h⟩ := h
        refine vv_iald (q := 37) X (a0 + 5) 8 (isO_lt 5 ha0 (Nat.le_of_ble_eq_true rfl)) (fun f => e_isO_5 (ad := ad) (cy := cy) ha0 f σ.2) hin8 dX3_couldFit_36 rfl ?_
        refine vv_iload_n (q := 38) X 2 dX3_couldFit_37 rfl rfl rfl ?_
        refine vv_ishr (q := 39) X dX3_couldFit_38 rfl ?_
        refine vv_iconst (q := 40) X (1 : Int32) dX3_couldFit_39 (by decide) rfl ?_
        refine vv_iand (q := 41) X dX3_couldFit_40 rfl ?_
        refine vv_if_ne (q := 44) X 48 dX3_couldFit_41 (by decide) rfl (fun c9 => ?_) (fun c9 => ?_)
        · have h := h.1 c9
          refine vv_iconst (q := 49) X (0 : Int32) dX3_couldFit_48 (by decide) rfl ?_
          exact vv_zret X hr rfl dX3_couldFit_49 ⟨h, rfl⟩
        · have h := h.2 c9
          refine vv_iconst (q := 45) X (1 : Int32) dX3_couldFit_44 (by decide) rfl ?_
          refine vv_goto X 49 dX3_couldFit_45 (by decide) ?_
          exact vv_zret X hr rfl dX3_couldFit_49 ⟨h, rfl⟩

/-! X3_hasTree: hasTree(I)Z -/
def rmX3_hasTree : Room := { frames := 0, cells := 0, slots := 0, locals := 0 }
def wX3_hasTree (σ : St) (a0 : Nat) (a1 : Int32) (P : Int32 → Prop) : Prop :=
isO a0 ∧
(a1 < 0 →
P (0 : Int32)) ∧
(¬ a1 < 0 →
((σ.1 a0 1) ≤ a1 →
P (0 : Int32)) ∧
(¬ (σ.1 a0 1) ≤ a1 →
P (1 : Int32)))

set_option maxHeartbeats 8000000 in
set_option maxRecDepth 100000 in
theorem kX3_hasTree (l : Launch) (D : va_G) {cy : Nat → ClassId} {ad : Nat → Nat} {zb : Nat → Nat} (hw : xOk (wC ad cy zb)) {σ : St} {a0 : Nat} {a1 : Int32} {P : Int32 → Prop} (h : wX3_hasTree σ a0 a1 P) : MI l yX3_hasTree wsX3_hasTree rmX3_hasTree D cy (wC ad cy zb) [.ref (ad a0), .int a1] σ (fun r u => P r ∧ u = σ) := by
  unfold MI
  refine vv_met (cc := cX3_hasTree) (maxL := 2) (ret := (some .boolean)) hw (by decide +kernel) rfl [.ref (ad a0), .int a1] (Nat.le_of_ble_eq_true rfl) ?_
  intro p e s m args below meth c X hr
  have X : XX p s m args meth c cX3_hasTree 2 D cy (wC ad cy zb) wsX3_hasTree RX3 := X
  refine vv_sub (lv' := [(0, .ref (ad a0)), (1, .int a1)]) [0, 1] rfl ?_
  rw [wX3_hasTree] at h
  obtain ⟨ha0, h⟩ := h
  refine vv_iload_n (q := 1) X 1 dX3_hasTree_0 rfl rfl rfl ?_
  refine vv_if_lt (q := 4) X 16 dX3_hasTree_1 (by decide) rfl (fun c1 => ?_) (fun c1 => ?_)
  · have h := h.1 c1
    refine vv_iconst (q := 17) X (0 : Int32) dX3_hasTree_16 (by decide) rfl ?_
    exact vv_zret X hr rfl dX3_hasTree_17 ⟨h, rfl⟩
  · have h := h.2 c1
    refine vv_iload_n (q := 5) X 1 dX3_hasTree_4 rfl rfl rfl ?_
    refine vv_aload_n (q := 6) X 0 dX3_hasTree_5 rfl rfl rfl ?_
    refine vv_getf (q := 9) (ref := "HalfLadders$Orchard") (C := RX3) (T := TX3) (N := 10) X a0 3 1 (isO_lt 0 ha0 (Nat.le_of_ble_eq_true rfl)) (e_isO (ad := ad) (cy := cy) ha0 _ _) rfl (Nat.le_of_ble_eq_true rfl) (fun _ h => List.mem_cons_of_mem _ (List.mem_append_right _ h)) (List.mem_of_getElem? (i := 1) rfl) rfl rfl dX3_hasTree_6 rfl ?_
    refine vv_icmp_ge (q := 12) X 16 dX3_hasTree_9 (by decide) rfl (fun c2 => ?_) (fun c2 => ?_)
    · have h := h.1 c2
      refine vv_iconst (q := 17) X (0 : Int32) dX3_hasTree_16 (by decide) rfl ?_
      exact vv_zret X hr rfl dX3_hasTree_17 ⟨h, rfl⟩
    · have h := h.2 c2
      refine vv_iconst (q := 13) X (1 : Int32) dX3_hasTree_12 (by decide) rfl ?_
      refine vv_goto X 17 dX3_hasTree_13 (by decide) ?_
      exact vv_zret X hr rfl dX3_hasTree_17 ⟨h, rfl⟩

/-! X3_isRipe: isRipe(II)Z -/
def rmX3_isRipe : Room := { frames := 1, cells := 0, slots := 0, locals := 21 }
def wX3_isRipe (σ : St) (a0 : Nat) (a1 : Int32) (a2 : Int32) (P : Int32 → Prop) : Prop :=
isO a0 ∧
wX3_hasTree σ a0 a1 (fun r1 : Int32 =>
(r1 = 0 →
P (0 : Int32)) ∧
(¬ r1 = 0 →
vp_in a1 5 ∧
(a2 < (σ.1 (a0 + 7) a1.toNatClampNeg) →
P (0 : Int32)) ∧
(¬ a2 < (σ.1 (a0 + 7) a1.toNatClampNeg) →
vp_in a1 5 ∧
(((σ.1 (a0 + 7) a1.toNatClampNeg) + (3 : Int32)) < a2 →
P (0 : Int32)) ∧
(¬ ((σ.1 (a0 + 7) a1.toNatClampNeg) + (3 : Int32)) < a2 →
P (1 : Int32)))))

set_option maxHeartbeats 8000000 in
set_option maxRecDepth 100000 in
theorem kX3_isRipe (l : Launch) (D : va_G) {cy : Nat → ClassId} {ad : Nat → Nat} {zb : Nat → Nat} (hw : xOk (wC ad cy zb)) {σ : St} {a0 : Nat} {a1 : Int32} {a2 : Int32} {P : Int32 → Prop} (h : wX3_isRipe σ a0 a1 a2 P) : MI l yX3_isRipe wsX3_isRipe rmX3_isRipe D cy (wC ad cy zb) [.ref (ad a0), .int a1, .int a2] σ (fun r u => P r ∧ u = σ) := by
  unfold MI
  refine vv_met (cc := cX3_isRipe) (maxL := 3) (ret := (some .boolean)) hw (by decide +kernel) rfl [.ref (ad a0), .int a1, .int a2] (Nat.le_of_ble_eq_true rfl) ?_
  intro p e s m args below meth c X hr
  have X : XX p s m args meth c cX3_isRipe 3 D cy (wC ad cy zb) wsX3_isRipe RX3 := X
  refine vv_sub (lv' := [(0, .ref (ad a0)), (1, .int a1), (2, .int a2)]) [0, 1, 2] rfl ?_
  rw [wX3_isRipe] at h
  obtain ⟨ha0, h⟩ := h
  refine vv_aload_n (q := 1) X 0 dX3_isRipe_0 rfl rfl rfl ?_
  refine vv_iload_n (q := 2) X 1 dX3_isRipe_1 rfl rfl rfl ?_
  refine vv_cVi (q := 5) (C := RX3) X a0 3 [.int a1] (kX3_hasTree l D X.2.2.1 h) (cwV 1 X.1.2.2.2.2 gX3_isRipe_X3_hasTree rfl rfl rfl (by decide +kernel) ⟨Nat.le_of_ble_eq_true rfl, Nat.le_of_ble_eq_true rfl⟩) (isO_lt 0 ha0 (Nat.le_of_ble_eq_true rfl)) (e_isO (ad := ad) (cy := cy) ha0 _ _) rfl rfl rfl (Nat.le_of_ble_eq_true rfl) dX3_isRipe_2 rfl (fun r1 u9 h9 => ?_)
  obtain ⟨h9, hu9⟩ := h9
  subst u9
  have h := h9
  refine vv_if_eq (q := 8) X 34 dX3_isRipe_5 (by decide) rfl (fun c2 => ?_) (fun c2 => ?_)
  · have h := h.1 c2
    refine vv_iconst (q := 35) X (0 : Int32) dX3_isRipe_34 (by decide) rfl ?_
    exact vv_zret X hr rfl dX3_isRipe_35 ⟨h, rfl⟩
  · have h := h.2 c2
    refine vv_iload_n (q := 9) X 2 dX3_isRipe_8 rfl rfl rfl ?_
    refine vv_aload_n (q := 10) X 0 dX3_isRipe_9 rfl rfl rfl ?_
    refine vv_getf (q := 13) (ref := "HalfLadders$Orchard") (C := RX3) (T := TX3) (N := 10) X a0 3 8 (isO_lt 0 ha0 (Nat.le_of_ble_eq_true rfl)) (e_isO (ad := ad) (cy := cy) ha0 _ _) rfl (Nat.le_of_ble_eq_true rfl) (fun _ h => List.mem_cons_of_mem _ (List.mem_append_right _ h)) (List.mem_of_getElem? (i := 1) rfl) rfl rfl dX3_isRipe_10 rfl ?_
    refine vv_iload_n (q := 14) X 1 dX3_isRipe_13 rfl rfl rfl ?_
    obtain ⟨hin3, h⟩ := h
    refine vv_iald (q := 15) X (a0 + 7) 5 (isO_lt 7 ha0 (Nat.le_of_ble_eq_true rfl)) (fun f => e_isO_7 (ad := ad) (cy := cy) ha0 f σ.2) hin3 dX3_isRipe_14 rfl ?_
    refine vv_icmp_lt (q := 18) X 34 dX3_isRipe_15 (by decide) rfl (fun c4 => ?_) (fun c4 => ?_)
    · have h := h.1 c4
      refine vv_iconst (q := 35) X (0 : Int32) dX3_isRipe_34 (by decide) rfl ?_
      exact vv_zret X hr rfl dX3_isRipe_35 ⟨h, rfl⟩
    · have h := h.2 c4
      refine vv_iload_n (q := 19) X 2 dX3_isRipe_18 rfl rfl rfl ?_
      refine vv_aload_n (q := 20) X 0 dX3_isRipe_19 rfl rfl rfl ?_
      refine vv_getf (q := 23) (ref := "HalfLadders$Orchard") (C := RX3) (T := TX3) (N := 10) X a0 3 8 (isO_lt 0 ha0 (Nat.le_of_ble_eq_true rfl)) (e_isO (ad := ad) (cy := cy) ha0 _ _) rfl (Nat.le_of_ble_eq_true rfl) (fun _ h => List.mem_cons_of_mem _ (List.mem_append_right _ h)) (List.mem_of_getElem? (i := 1) rfl) rfl rfl dX3_isRipe_20 rfl ?_
      refine vv_iload_n (q := 24) X 1 dX3_isRipe_23 rfl rfl rfl ?_
      obtain ⟨hin5, h⟩ := h
      refine vv_iald (q := 25) X (a0 + 7) 5 (isO_lt 7 ha0 (Nat.le_of_ble_eq_true rfl)) (fun f => e_isO_7 (ad := ad) (cy := cy) ha0 f σ.2) hin5 dX3_isRipe_24 rfl ?_
      refine vv_iconst (q := 26) X (3 : Int32) dX3_isRipe_25 (by decide) rfl ?_
      refine vv_iadd (q := 27) X dX3_isRipe_26 rfl ?_
      refine vv_icmp_gt (q := 30) X 34 dX3_isRipe_27 (by decide) rfl (fun c6 => ?_) (fun c6 => ?_)
      · have h := h.1 c6
        refine vv_iconst (q := 35) X (0 : Int32) dX3_isRipe_34 (by decide) rfl ?_
        exact vv_zret X hr rfl dX3_isRipe_35 ⟨h, rfl⟩
      · have h := h.2 c6
        refine vv_iconst (q := 31) X (1 : Int32) dX3_isRipe_30 (by decide) rfl ?_
        refine vv_goto X 35 dX3_isRipe_31 (by decide) ?_
        exact vv_zret X hr rfl dX3_isRipe_35 ⟨h, rfl⟩

/-! X3_empty: empty()V -/
def rmX3_empty : Room := { frames := 0, cells := 0, slots := 0, locals := 0 }
def wX3_empty (σ : St) (a0 : Nat) (P : St → Prop) : Prop :=
isO a0 ∧
∀ σ1 : St, σ1 = sI σ a0 0 (0 : Int32) →
∀ σ2 : St, σ2 = sI σ1 a0 1 (0 : Int32) →
P σ2

set_option maxHeartbeats 8000000 in
set_option maxRecDepth 100000 in
theorem kX3_empty (l : Launch) (D : va_G) {cy : Nat → ClassId} {ad : Nat → Nat} {zb : Nat → Nat} (hw : xOk (wC ad cy zb)) {σ : St} {a0 : Nat} {P : St → Prop} (h : wX3_empty σ a0 P) : MV l yX3_empty wsX3_empty rmX3_empty D cy (wC ad cy zb) [.ref (ad a0)] σ P := by
  unfold MV
  refine vv_met (cc := cX3_empty) (maxL := 1) (ret := none) hw (by decide +kernel) rfl [.ref (ad a0)] (Nat.le_of_ble_eq_true rfl) ?_
  intro p e s m args below meth c X hr
  have X : XX p s m args meth c cX3_empty 1 D cy (wC ad cy zb) wsX3_empty RX3 := X
  refine vv_sub (lv' := [(0, .ref (ad a0))]) [0] rfl ?_
  rw [wX3_empty] at h
  obtain ⟨ha0, h⟩ := h
  refine vv_aload_n (q := 1) X 0 dX3_empty_0 rfl rfl rfl ?_
  refine vv_iconst (q := 2) X (0 : Int32) dX3_empty_1 (by decide) rfl ?_
  refine vv_putf (q := 5) (ref := "HalfLadders$Orchard") (C := RX3) (T := TX3) (N := 10) X a0 3 0 tyX3 tyX3_ok nmX3 (isO_lt 0 ha0 (Nat.le_of_ble_eq_true rfl)) (e_isO (ad := ad) (cy := cy) ha0 _ _) (e_isO (ad := ad) (cy := cy) ha0 _ _) rfl (Nat.le_of_ble_eq_true rfl) rfl (fun _ h => List.mem_cons_of_mem _ (List.mem_append_right _ h)) (List.mem_of_getElem? (i := 1) rfl) rfl rfl rfl dX3_empty_2 rfl ?_
  refine vv_nm (fun σ1 hσ1 => ?_)
  have h := h σ1 hσ1
  refine vv_aload_n (q := 6) X 0 dX3_empty_5 rfl rfl rfl ?_
  refine vv_iconst (q := 7) X (0 : Int32) dX3_empty_6 (by decide) rfl ?_
  refine vv_putf (q := 10) (ref := "HalfLadders$Orchard") (C := RX3) (T := TX3) (N := 10) X a0 3 1 tyX3 tyX3_ok nmX3 (isO_lt 0 ha0 (Nat.le_of_ble_eq_true rfl)) (e_isO (ad := ad) (cy := cy) ha0 _ _) (e_isO (ad := ad) (cy := cy) ha0 _ _) rfl (Nat.le_of_ble_eq_true rfl) rfl (fun _ h => List.mem_cons_of_mem _ (List.mem_append_right _ h)) (List.mem_of_getElem? (i := 2) rfl) rfl rfl rfl dX3_empty_7 rfl ?_
  refine vv_nm (fun σ2 hσ2 => ?_)
  have h := h σ2 hσ2
  exact vv_vret X hr dX3_empty_10 h

/-! X3_addHalf: addHalf(IIII)V -/
def rmX3_addHalf : Room := { frames := 0, cells := 0, slots := 0, locals := 0 }
def wX3_addHalf (σ : St) (a0 : Nat) (a1 : Int32) (a2 : Int32) (a3 : Int32) (a4 : Int32) (P : St → Prop) : Prop :=
isO a0 ∧
((8 : Int32) ≤ (σ.1 a0 0) →
P σ) ∧
(¬ (8 : Int32) ≤ (σ.1 a0 0) →
vp_in (σ.1 a0 0) 8 ∧
∀ σ3 : St, σ3 = sI σ (a0 + 1) (σ.1 a0 0).toNatClampNeg a1 →
vp_in (σ3.1 a0 0) 8 ∧
∀ σ5 : St, σ5 = sI σ3 (a0 + 2) (σ3.1 a0 0).toNatClampNeg a2 →
vp_in (σ5.1 a0 0) 8 ∧
∀ σ7 : St, σ7 = sI σ5 (a0 + 3) (σ5.1 a0 0).toNatClampNeg a3 →
vp_in (σ7.1 a0 0) 8 ∧
∀ σ9 : St, σ9 = sI σ7 (a0 + 4) (σ7.1 a0 0).toNatClampNeg a4 →
vp_in (σ9.1 a0 0) 8 ∧
∀ σ11 : St, σ11 = sI σ9 (a0 + 5) (σ9.1 a0 0).toNatClampNeg (0 : Int32) →
∀ σ12 : St, σ12 = sI σ11 a0 0 ((σ11.1 a0 0) + (1 : Int32)) →
P σ12)

set_option maxHeartbeats 8000000 in
set_option maxRecDepth 100000 in
theorem kX3_addHalf (l : Launch) (D : va_G) {cy : Nat → ClassId} {ad : Nat → Nat} {zb : Nat → Nat} (hw : xOk (wC ad cy zb)) {σ : St} {a0 : Nat} {a1 : Int32} {a2 : Int32} {a3 : Int32} {a4 : Int32} {P : St → Prop} (h : wX3_addHalf σ a0 a1 a2 a3 a4 P) : MV l yX3_addHalf wsX3_addHalf rmX3_addHalf D cy (wC ad cy zb) [.ref (ad a0), .int a1, .int a2, .int a3, .int a4] σ P := by
  unfold MV
  refine vv_met (cc := cX3_addHalf) (maxL := 5) (ret := none) hw (by decide +kernel) rfl [.ref (ad a0), .int a1, .int a2, .int a3, .int a4] (Nat.le_of_ble_eq_true rfl) ?_
  intro p e s m args below meth c X hr
  have X : XX p s m args meth c cX3_addHalf 5 D cy (wC ad cy zb) wsX3_addHalf RX3 := X
  refine vv_sub (lv' := [(0, .ref (ad a0)), (1, .int a1), (2, .int a2), (3, .int a3), (4, .int a4)]) [0, 1, 2, 3, 4] rfl ?_
  rw [wX3_addHalf] at h
  obtain ⟨ha0, h⟩ := h
  refine vv_aload_n (q := 1) X 0 dX3_addHalf_0 rfl rfl rfl ?_
  refine vv_getf (q := 4) (ref := "HalfLadders$Orchard") (C := RX3) (T := TX3) (N := 10) X a0 3 0 (isO_lt 0 ha0 (Nat.le_of_ble_eq_true rfl)) (e_isO (ad := ad) (cy := cy) ha0 _ _) rfl (Nat.le_of_ble_eq_true rfl) (fun _ h => List.mem_cons_of_mem _ (List.mem_append_right _ h)) (List.mem_of_getElem? (i := 1) rfl) rfl rfl dX3_addHalf_1 rfl ?_
  refine vv_bipush (q := 6) X (8 : Int32) dX3_addHalf_4 (by decide) rfl ?_
  refine vv_icmp_ge (q := 9) X 70 dX3_addHalf_6 (by decide) rfl (fun c1 => ?_) (fun c1 => ?_)
  · have h := h.1 c1
    exact vv_vret X hr dX3_addHalf_70 h
  · have h := h.2 c1
    refine vv_aload_n (q := 10) X 0 dX3_addHalf_9 rfl rfl rfl ?_
    refine vv_getf (q := 13) (ref := "HalfLadders$Orchard") (C := RX3) (T := TX3) (N := 10) X a0 3 2 (isO_lt 0 ha0 (Nat.le_of_ble_eq_true rfl)) (e_isO (ad := ad) (cy := cy) ha0 _ _) rfl (Nat.le_of_ble_eq_true rfl) (fun _ h => List.mem_cons_of_mem _ (List.mem_append_right _ h)) (List.mem_of_getElem? (i := 2) rfl) rfl rfl dX3_addHalf_10 rfl ?_
    refine vv_aload_n (q := 14) X 0 dX3_addHalf_13 rfl rfl rfl ?_
    refine vv_getf (q := 17) (ref := "HalfLadders$Orchard") (C := RX3) (T := TX3) (N := 10) X a0 3 0 (isO_lt 0 ha0 (Nat.le_of_ble_eq_true rfl)) (e_isO (ad := ad) (cy := cy) ha0 _ _) rfl (Nat.le_of_ble_eq_true rfl) (fun _ h => List.mem_cons_of_mem _ (List.mem_append_right _ h)) (List.mem_of_getElem? (i := 1) rfl) rfl rfl dX3_addHalf_14 rfl ?_
    refine vv_iload_n (q := 18) X 1 dX3_addHalf_17 rfl rfl rfl ?_
    obtain ⟨hin2, h⟩ := h
    refine vv_iast (q := 19) X (a0 + 1) 8 (isO_lt 1 ha0 (Nat.le_of_ble_eq_true rfl)) (fun f => e_isO_1 (ad := ad) (cy := cy) ha0 f σ.2) hin2 dX3_addHalf_18 rfl ?_
    refine vv_nm (fun σ3 hσ3 => ?_)
    have h := h σ3 hσ3
    refine vv_aload_n (q := 20) X 0 dX3_addHalf_19 rfl rfl rfl ?_
    refine vv_getf (q := 23) (ref := "HalfLadders$Orchard") (C := RX3) (T := TX3) (N := 10) X a0 3 3 (isO_lt 0 ha0 (Nat.le_of_ble_eq_true rfl)) (e_isO (ad := ad) (cy := cy) ha0 _ _) rfl (Nat.le_of_ble_eq_true rfl) (fun _ h => List.mem_cons_of_mem _ (List.mem_append_right _ h)) (List.mem_of_getElem? (i := 3) rfl) rfl rfl dX3_addHalf_20 rfl ?_
    refine vv_aload_n (q := 24) X 0 dX3_addHalf_23 rfl rfl rfl ?_
    refine vv_getf (q := 27) (ref := "HalfLadders$Orchard") (C := RX3) (T := TX3) (N := 10) X a0 3 0 (isO_lt 0 ha0 (Nat.le_of_ble_eq_true rfl)) (e_isO (ad := ad) (cy := cy) ha0 _ _) rfl (Nat.le_of_ble_eq_true rfl) (fun _ h => List.mem_cons_of_mem _ (List.mem_append_right _ h)) (List.mem_of_getElem? (i := 1) rfl) rfl rfl dX3_addHalf_24 rfl ?_
    refine vv_iload_n (q := 28) X 2 dX3_addHalf_27 rfl rfl rfl ?_
    obtain ⟨hin4, h⟩ := h
    refine vv_iast (q := 29) X (a0 + 2) 8 (isO_lt 2 ha0 (Nat.le_of_ble_eq_true rfl)) (fun f => e_isO_2 (ad := ad) (cy := cy) ha0 f σ3.2) hin4 dX3_addHalf_28 rfl ?_
    refine vv_nm (fun σ5 hσ5 => ?_)
    have h := h σ5 hσ5
    refine vv_aload_n (q := 30) X 0 dX3_addHalf_29 rfl rfl rfl ?_
    refine vv_getf (q := 33) (ref := "HalfLadders$Orchard") (C := RX3) (T := TX3) (N := 10) X a0 3 4 (isO_lt 0 ha0 (Nat.le_of_ble_eq_true rfl)) (e_isO (ad := ad) (cy := cy) ha0 _ _) rfl (Nat.le_of_ble_eq_true rfl) (fun _ h => List.mem_cons_of_mem _ (List.mem_append_right _ h)) (List.mem_of_getElem? (i := 4) rfl) rfl rfl dX3_addHalf_30 rfl ?_
    refine vv_aload_n (q := 34) X 0 dX3_addHalf_33 rfl rfl rfl ?_
    refine vv_getf (q := 37) (ref := "HalfLadders$Orchard") (C := RX3) (T := TX3) (N := 10) X a0 3 0 (isO_lt 0 ha0 (Nat.le_of_ble_eq_true rfl)) (e_isO (ad := ad) (cy := cy) ha0 _ _) rfl (Nat.le_of_ble_eq_true rfl) (fun _ h => List.mem_cons_of_mem _ (List.mem_append_right _ h)) (List.mem_of_getElem? (i := 1) rfl) rfl rfl dX3_addHalf_34 rfl ?_
    refine vv_iload_n (q := 38) X 3 dX3_addHalf_37 rfl rfl rfl ?_
    obtain ⟨hin6, h⟩ := h
    refine vv_iast (q := 39) X (a0 + 3) 8 (isO_lt 3 ha0 (Nat.le_of_ble_eq_true rfl)) (fun f => e_isO_3 (ad := ad) (cy := cy) ha0 f σ5.2) hin6 dX3_addHalf_38 rfl ?_
    refine vv_nm (fun σ7 hσ7 => ?_)
    have h := h σ7 hσ7
    refine vv_aload_n (q := 40) X 0 dX3_addHalf_39 rfl rfl rfl ?_
    refine vv_getf (q := 43) (ref := "HalfLadders$Orchard") (C := RX3) (T := TX3) (N := 10) X a0 3 5 (isO_lt 0 ha0 (Nat.le_of_ble_eq_true rfl)) (e_isO (ad := ad) (cy := cy) ha0 _ _) rfl (Nat.le_of_ble_eq_true rfl) (fun _ h => List.mem_cons_of_mem _ (List.mem_append_right _ h)) (List.mem_of_getElem? (i := 5) rfl) rfl rfl dX3_addHalf_40 rfl ?_
    refine vv_aload_n (q := 44) X 0 dX3_addHalf_43 rfl rfl rfl ?_
    refine vv_getf (q := 47) (ref := "HalfLadders$Orchard") (C := RX3) (T := TX3) (N := 10) X a0 3 0 (isO_lt 0 ha0 (Nat.le_of_ble_eq_true rfl)) (e_isO (ad := ad) (cy := cy) ha0 _ _) rfl (Nat.le_of_ble_eq_true rfl) (fun _ h => List.mem_cons_of_mem _ (List.mem_append_right _ h)) (List.mem_of_getElem? (i := 1) rfl) rfl rfl dX3_addHalf_44 rfl ?_
    refine vv_iload (q := 49) X 4 dX3_addHalf_47 rfl rfl ?_
    obtain ⟨hin8, h⟩ := h
    refine vv_iast (q := 50) X (a0 + 4) 8 (isO_lt 4 ha0 (Nat.le_of_ble_eq_true rfl)) (fun f => e_isO_4 (ad := ad) (cy := cy) ha0 f σ7.2) hin8 dX3_addHalf_49 rfl ?_
    refine vv_nm (fun σ9 hσ9 => ?_)
    have h := h σ9 hσ9
    refine vv_aload_n (q := 51) X 0 dX3_addHalf_50 rfl rfl rfl ?_
    refine vv_getf (q := 54) (ref := "HalfLadders$Orchard") (C := RX3) (T := TX3) (N := 10) X a0 3 6 (isO_lt 0 ha0 (Nat.le_of_ble_eq_true rfl)) (e_isO (ad := ad) (cy := cy) ha0 _ _) rfl (Nat.le_of_ble_eq_true rfl) (fun _ h => List.mem_cons_of_mem _ (List.mem_append_right _ h)) (List.mem_of_getElem? (i := 6) rfl) rfl rfl dX3_addHalf_51 rfl ?_
    refine vv_aload_n (q := 55) X 0 dX3_addHalf_54 rfl rfl rfl ?_
    refine vv_getf (q := 58) (ref := "HalfLadders$Orchard") (C := RX3) (T := TX3) (N := 10) X a0 3 0 (isO_lt 0 ha0 (Nat.le_of_ble_eq_true rfl)) (e_isO (ad := ad) (cy := cy) ha0 _ _) rfl (Nat.le_of_ble_eq_true rfl) (fun _ h => List.mem_cons_of_mem _ (List.mem_append_right _ h)) (List.mem_of_getElem? (i := 1) rfl) rfl rfl dX3_addHalf_55 rfl ?_
    refine vv_iconst (q := 59) X (0 : Int32) dX3_addHalf_58 (by decide) rfl ?_
    obtain ⟨hin10, h⟩ := h
    refine vv_iast (q := 60) X (a0 + 5) 8 (isO_lt 5 ha0 (Nat.le_of_ble_eq_true rfl)) (fun f => e_isO_5 (ad := ad) (cy := cy) ha0 f σ9.2) hin10 dX3_addHalf_59 rfl ?_
    refine vv_nm (fun σ11 hσ11 => ?_)
    have h := h σ11 hσ11
    refine vv_aload_n (q := 61) X 0 dX3_addHalf_60 rfl rfl rfl ?_
    refine vv_dup (q := 62) X dX3_addHalf_61 rfl rfl ?_
    refine vv_getf (q := 65) (ref := "HalfLadders$Orchard") (C := RX3) (T := TX3) (N := 10) X a0 3 0 (isO_lt 0 ha0 (Nat.le_of_ble_eq_true rfl)) (e_isO (ad := ad) (cy := cy) ha0 _ _) rfl (Nat.le_of_ble_eq_true rfl) (fun _ h => List.mem_cons_of_mem _ (List.mem_append_right _ h)) (List.mem_of_getElem? (i := 1) rfl) rfl rfl dX3_addHalf_62 rfl ?_
    refine vv_iconst (q := 66) X (1 : Int32) dX3_addHalf_65 (by decide) rfl ?_
    refine vv_iadd (q := 67) X dX3_addHalf_66 rfl ?_
    refine vv_putf (q := 70) (ref := "HalfLadders$Orchard") (C := RX3) (T := TX3) (N := 10) X a0 3 0 tyX3 tyX3_ok nmX3 (isO_lt 0 ha0 (Nat.le_of_ble_eq_true rfl)) (e_isO (ad := ad) (cy := cy) ha0 _ _) (e_isO (ad := ad) (cy := cy) ha0 _ _) rfl (Nat.le_of_ble_eq_true rfl) rfl (fun _ h => List.mem_cons_of_mem _ (List.mem_append_right _ h)) (List.mem_of_getElem? (i := 1) rfl) rfl rfl rfl dX3_addHalf_67 rfl ?_
    refine vv_nm (fun σ12 hσ12 => ?_)
    have h := h σ12 hσ12
    exact vv_vret X hr dX3_addHalf_70 h

/-! X3_addQuarrel: addQuarrel(II)V -/
def rmX3_addQuarrel : Room := { frames := 1, cells := 0, slots := 0, locals := 21 }
def wX3_addQuarrel (σ : St) (a0 : Nat) (a1 : Int32) (a2 : Int32) (P : St → Prop) : Prop :=
isO a0 ∧
wX3_hasHalf σ a0 a1 (fun r1 : Int32 =>
(r1 = 0 →
P σ) ∧
(¬ r1 = 0 →
wX3_hasHalf σ a0 a2 (fun r3 : Int32 =>
(r3 = 0 →
P σ) ∧
(¬ r3 = 0 →
vp_in a1 8 ∧
vp_in a1 8 ∧
∀ σ7 : St, σ7 = sI σ (a0 + 5) a1.toNatClampNeg ((σ.1 (a0 + 5) a1.toNatClampNeg) ||| ((1 : Int32) <<< (a2 &&& 31))) →
vp_in a2 8 ∧
vp_in a2 8 ∧
∀ σ10 : St, σ10 = sI σ7 (a0 + 5) a2.toNatClampNeg ((σ7.1 (a0 + 5) a2.toNatClampNeg) ||| ((1 : Int32) <<< (a1 &&& 31))) →
P σ10))))

set_option maxHeartbeats 8000000 in
set_option maxRecDepth 100000 in
theorem kX3_addQuarrel (l : Launch) (D : va_G) {cy : Nat → ClassId} {ad : Nat → Nat} {zb : Nat → Nat} (hw : xOk (wC ad cy zb)) {σ : St} {a0 : Nat} {a1 : Int32} {a2 : Int32} {P : St → Prop} (h : wX3_addQuarrel σ a0 a1 a2 P) : MV l yX3_addQuarrel wsX3_addQuarrel rmX3_addQuarrel D cy (wC ad cy zb) [.ref (ad a0), .int a1, .int a2] σ P := by
  unfold MV
  refine vv_met (cc := cX3_addQuarrel) (maxL := 3) (ret := none) hw (by decide +kernel) rfl [.ref (ad a0), .int a1, .int a2] (Nat.le_of_ble_eq_true rfl) ?_
  intro p e s m args below meth c X hr
  have X : XX p s m args meth c cX3_addQuarrel 3 D cy (wC ad cy zb) wsX3_addQuarrel RX3 := X
  refine vv_sub (lv' := [(0, .ref (ad a0)), (1, .int a1), (2, .int a2)]) [0, 1, 2] rfl ?_
  rw [wX3_addQuarrel] at h
  obtain ⟨ha0, h⟩ := h
  refine vv_aload_n (q := 1) X 0 dX3_addQuarrel_0 rfl rfl rfl ?_
  refine vv_iload_n (q := 2) X 1 dX3_addQuarrel_1 rfl rfl rfl ?_
  refine vv_cVi (q := 5) (C := RX3) X a0 3 [.int a1] (kX3_hasHalf l D X.2.2.1 h) (cwV 1 X.1.2.2.2.2 gX3_addQuarrel_X3_hasHalf rfl rfl rfl (by decide +kernel) ⟨Nat.le_of_ble_eq_true rfl, Nat.le_of_ble_eq_true rfl⟩) (isO_lt 0 ha0 (Nat.le_of_ble_eq_true rfl)) (e_isO (ad := ad) (cy := cy) ha0 _ _) rfl rfl rfl (Nat.le_of_ble_eq_true rfl) dX3_addQuarrel_2 rfl (fun r1 u9 h9 => ?_)
  obtain ⟨h9, hu9⟩ := h9
  subst u9
  have h := h9
  refine vv_if_eq (q := 8) X 40 dX3_addQuarrel_5 (by decide) rfl (fun c2 => ?_) (fun c2 => ?_)
  · have h := h.1 c2
    exact vv_vret X hr dX3_addQuarrel_40 h
  · have h := h.2 c2
    refine vv_aload_n (q := 9) X 0 dX3_addQuarrel_8 rfl rfl rfl ?_
    refine vv_iload_n (q := 10) X 2 dX3_addQuarrel_9 rfl rfl rfl ?_
    refine vv_cVi (q := 13) (C := RX3) X a0 3 [.int a2] (kX3_hasHalf l D X.2.2.1 h) (cwV 1 X.1.2.2.2.2 gX3_addQuarrel_X3_hasHalf rfl rfl rfl (by decide +kernel) ⟨Nat.le_of_ble_eq_true rfl, Nat.le_of_ble_eq_true rfl⟩) (isO_lt 0 ha0 (Nat.le_of_ble_eq_true rfl)) (e_isO (ad := ad) (cy := cy) ha0 _ _) rfl rfl rfl (Nat.le_of_ble_eq_true rfl) dX3_addQuarrel_10 rfl (fun r3 u9 h9 => ?_)
    obtain ⟨h9, hu9⟩ := h9
    subst u9
    have h := h9
    refine vv_if_eq (q := 16) X 40 dX3_addQuarrel_13 (by decide) rfl (fun c4 => ?_) (fun c4 => ?_)
    · have h := h.1 c4
      exact vv_vret X hr dX3_addQuarrel_40 h
    · have h := h.2 c4
      refine vv_aload_n (q := 17) X 0 dX3_addQuarrel_16 rfl rfl rfl ?_
      refine vv_getf (q := 20) (ref := "HalfLadders$Orchard") (C := RX3) (T := TX3) (N := 10) X a0 3 6 (isO_lt 0 ha0 (Nat.le_of_ble_eq_true rfl)) (e_isO (ad := ad) (cy := cy) ha0 _ _) rfl (Nat.le_of_ble_eq_true rfl) (fun _ h => List.mem_cons_of_mem _ (List.mem_append_right _ h)) (List.mem_of_getElem? (i := 1) rfl) rfl rfl dX3_addQuarrel_17 rfl ?_
      refine vv_iload_n (q := 21) X 1 dX3_addQuarrel_20 rfl rfl rfl ?_
      refine vv_dup2 (q := 22) X dX3_addQuarrel_21 rfl rfl rfl ?_
      obtain ⟨hin5, h⟩ := h
      refine vv_iald (q := 23) X (a0 + 5) 8 (isO_lt 5 ha0 (Nat.le_of_ble_eq_true rfl)) (fun f => e_isO_5 (ad := ad) (cy := cy) ha0 f σ.2) hin5 dX3_addQuarrel_22 rfl ?_
      refine vv_iconst (q := 24) X (1 : Int32) dX3_addQuarrel_23 (by decide) rfl ?_
      refine vv_iload_n (q := 25) X 2 dX3_addQuarrel_24 rfl rfl rfl ?_
      refine vv_ishl (q := 26) X dX3_addQuarrel_25 rfl ?_
      refine vv_ior (q := 27) X dX3_addQuarrel_26 rfl ?_
      obtain ⟨hin6, h⟩ := h
      refine vv_iast (q := 28) X (a0 + 5) 8 (isO_lt 5 ha0 (Nat.le_of_ble_eq_true rfl)) (fun f => e_isO_5 (ad := ad) (cy := cy) ha0 f σ.2) hin6 dX3_addQuarrel_27 rfl ?_
      refine vv_nm (fun σ7 hσ7 => ?_)
      have h := h σ7 hσ7
      refine vv_aload_n (q := 29) X 0 dX3_addQuarrel_28 rfl rfl rfl ?_
      refine vv_getf (q := 32) (ref := "HalfLadders$Orchard") (C := RX3) (T := TX3) (N := 10) X a0 3 6 (isO_lt 0 ha0 (Nat.le_of_ble_eq_true rfl)) (e_isO (ad := ad) (cy := cy) ha0 _ _) rfl (Nat.le_of_ble_eq_true rfl) (fun _ h => List.mem_cons_of_mem _ (List.mem_append_right _ h)) (List.mem_of_getElem? (i := 1) rfl) rfl rfl dX3_addQuarrel_29 rfl ?_
      refine vv_iload_n (q := 33) X 2 dX3_addQuarrel_32 rfl rfl rfl ?_
      refine vv_dup2 (q := 34) X dX3_addQuarrel_33 rfl rfl rfl ?_
      obtain ⟨hin8, h⟩ := h
      refine vv_iald (q := 35) X (a0 + 5) 8 (isO_lt 5 ha0 (Nat.le_of_ble_eq_true rfl)) (fun f => e_isO_5 (ad := ad) (cy := cy) ha0 f σ7.2) hin8 dX3_addQuarrel_34 rfl ?_
      refine vv_iconst (q := 36) X (1 : Int32) dX3_addQuarrel_35 (by decide) rfl ?_
      refine vv_iload_n (q := 37) X 1 dX3_addQuarrel_36 rfl rfl rfl ?_
      refine vv_ishl (q := 38) X dX3_addQuarrel_37 rfl ?_
      refine vv_ior (q := 39) X dX3_addQuarrel_38 rfl ?_
      obtain ⟨hin9, h⟩ := h
      refine vv_iast (q := 40) X (a0 + 5) 8 (isO_lt 5 ha0 (Nat.le_of_ble_eq_true rfl)) (fun f => e_isO_5 (ad := ad) (cy := cy) ha0 f σ7.2) hin9 dX3_addQuarrel_39 rfl ?_
      refine vv_nm (fun σ10 hσ10 => ?_)
      have h := h σ10 hσ10
      exact vv_vret X hr dX3_addQuarrel_40 h

/-! X3_addTree: addTree(III)V -/
def rmX3_addTree : Room := { frames := 0, cells := 0, slots := 0, locals := 0 }
def wX3_addTree (σ : St) (a0 : Nat) (a1 : Int32) (a2 : Int32) (a3 : Int32) (P : St → Prop) : Prop :=
isO a0 ∧
((5 : Int32) ≤ (σ.1 a0 1) →
P σ) ∧
(¬ (5 : Int32) ≤ (σ.1 a0 1) →
vp_in (σ.1 a0 1) 5 ∧
∀ σ3 : St, σ3 = sI σ (a0 + 6) (σ.1 a0 1).toNatClampNeg a1 →
vp_in (σ3.1 a0 1) 5 ∧
∀ σ5 : St, σ5 = sI σ3 (a0 + 7) (σ3.1 a0 1).toNatClampNeg a2 →
vp_in (σ5.1 a0 1) 5 ∧
∀ σ7 : St, σ7 = sI σ5 (a0 + 8) (σ5.1 a0 1).toNatClampNeg a3 →
∀ σ8 : St, σ8 = sI σ7 a0 1 ((σ7.1 a0 1) + (1 : Int32)) →
P σ8)

set_option maxHeartbeats 8000000 in
set_option maxRecDepth 100000 in
theorem kX3_addTree (l : Launch) (D : va_G) {cy : Nat → ClassId} {ad : Nat → Nat} {zb : Nat → Nat} (hw : xOk (wC ad cy zb)) {σ : St} {a0 : Nat} {a1 : Int32} {a2 : Int32} {a3 : Int32} {P : St → Prop} (h : wX3_addTree σ a0 a1 a2 a3 P) : MV l yX3_addTree wsX3_addTree rmX3_addTree D cy (wC ad cy zb) [.ref (ad a0), .int a1, .int a2, .int a3] σ P := by
  unfold MV
  refine vv_met (cc := cX3_addTree) (maxL := 4) (ret := none) hw (by decide +kernel) rfl [.ref (ad a0), .int a1, .int a2, .int a3] (Nat.le_of_ble_eq_true rfl) ?_
  intro p e s m args below meth c X hr
  have X : XX p s m args meth c cX3_addTree 4 D cy (wC ad cy zb) wsX3_addTree RX3 := X
  refine vv_sub (lv' := [(0, .ref (ad a0)), (1, .int a1), (2, .int a2), (3, .int a3)]) [0, 1, 2, 3] rfl ?_
  rw [wX3_addTree] at h
  obtain ⟨ha0, h⟩ := h
  refine vv_aload_n (q := 1) X 0 dX3_addTree_0 rfl rfl rfl ?_
  refine vv_getf (q := 4) (ref := "HalfLadders$Orchard") (C := RX3) (T := TX3) (N := 10) X a0 3 1 (isO_lt 0 ha0 (Nat.le_of_ble_eq_true rfl)) (e_isO (ad := ad) (cy := cy) ha0 _ _) rfl (Nat.le_of_ble_eq_true rfl) (fun _ h => List.mem_cons_of_mem _ (List.mem_append_right _ h)) (List.mem_of_getElem? (i := 1) rfl) rfl rfl dX3_addTree_1 rfl ?_
  refine vv_iconst (q := 5) X (5 : Int32) dX3_addTree_4 (by decide) rfl ?_
  refine vv_icmp_ge (q := 8) X 48 dX3_addTree_5 (by decide) rfl (fun c1 => ?_) (fun c1 => ?_)
  · have h := h.1 c1
    exact vv_vret X hr dX3_addTree_48 h
  · have h := h.2 c1
    refine vv_aload_n (q := 9) X 0 dX3_addTree_8 rfl rfl rfl ?_
    refine vv_getf (q := 12) (ref := "HalfLadders$Orchard") (C := RX3) (T := TX3) (N := 10) X a0 3 7 (isO_lt 0 ha0 (Nat.le_of_ble_eq_true rfl)) (e_isO (ad := ad) (cy := cy) ha0 _ _) rfl (Nat.le_of_ble_eq_true rfl) (fun _ h => List.mem_cons_of_mem _ (List.mem_append_right _ h)) (List.mem_of_getElem? (i := 2) rfl) rfl rfl dX3_addTree_9 rfl ?_
    refine vv_aload_n (q := 13) X 0 dX3_addTree_12 rfl rfl rfl ?_
    refine vv_getf (q := 16) (ref := "HalfLadders$Orchard") (C := RX3) (T := TX3) (N := 10) X a0 3 1 (isO_lt 0 ha0 (Nat.le_of_ble_eq_true rfl)) (e_isO (ad := ad) (cy := cy) ha0 _ _) rfl (Nat.le_of_ble_eq_true rfl) (fun _ h => List.mem_cons_of_mem _ (List.mem_append_right _ h)) (List.mem_of_getElem? (i := 1) rfl) rfl rfl dX3_addTree_13 rfl ?_
    refine vv_iload_n (q := 17) X 1 dX3_addTree_16 rfl rfl rfl ?_
    obtain ⟨hin2, h⟩ := h
    refine vv_iast (q := 18) X (a0 + 6) 5 (isO_lt 6 ha0 (Nat.le_of_ble_eq_true rfl)) (fun f => e_isO_6 (ad := ad) (cy := cy) ha0 f σ.2) hin2 dX3_addTree_17 rfl ?_
    refine vv_nm (fun σ3 hσ3 => ?_)
    have h := h σ3 hσ3
    refine vv_aload_n (q := 19) X 0 dX3_addTree_18 rfl rfl rfl ?_
    refine vv_getf (q := 22) (ref := "HalfLadders$Orchard") (C := RX3) (T := TX3) (N := 10) X a0 3 8 (isO_lt 0 ha0 (Nat.le_of_ble_eq_true rfl)) (e_isO (ad := ad) (cy := cy) ha0 _ _) rfl (Nat.le_of_ble_eq_true rfl) (fun _ h => List.mem_cons_of_mem _ (List.mem_append_right _ h)) (List.mem_of_getElem? (i := 3) rfl) rfl rfl dX3_addTree_19 rfl ?_
    refine vv_aload_n (q := 23) X 0 dX3_addTree_22 rfl rfl rfl ?_
    refine vv_getf (q := 26) (ref := "HalfLadders$Orchard") (C := RX3) (T := TX3) (N := 10) X a0 3 1 (isO_lt 0 ha0 (Nat.le_of_ble_eq_true rfl)) (e_isO (ad := ad) (cy := cy) ha0 _ _) rfl (Nat.le_of_ble_eq_true rfl) (fun _ h => List.mem_cons_of_mem _ (List.mem_append_right _ h)) (List.mem_of_getElem? (i := 1) rfl) rfl rfl dX3_addTree_23 rfl ?_
    refine vv_iload_n (q := 27) X 2 dX3_addTree_26 rfl rfl rfl ?_
    obtain ⟨hin4, h⟩ := h
    refine vv_iast (q := 28) X (a0 + 7) 5 (isO_lt 7 ha0 (Nat.le_of_ble_eq_true rfl)) (fun f => e_isO_7 (ad := ad) (cy := cy) ha0 f σ3.2) hin4 dX3_addTree_27 rfl ?_
    refine vv_nm (fun σ5 hσ5 => ?_)
    have h := h σ5 hσ5
    refine vv_aload_n (q := 29) X 0 dX3_addTree_28 rfl rfl rfl ?_
    refine vv_getf (q := 32) (ref := "HalfLadders$Orchard") (C := RX3) (T := TX3) (N := 10) X a0 3 9 (isO_lt 0 ha0 (Nat.le_of_ble_eq_true rfl)) (e_isO (ad := ad) (cy := cy) ha0 _ _) rfl (Nat.le_of_ble_eq_true rfl) (fun _ h => List.mem_cons_of_mem _ (List.mem_append_right _ h)) (List.mem_of_getElem? (i := 4) rfl) rfl rfl dX3_addTree_29 rfl ?_
    refine vv_aload_n (q := 33) X 0 dX3_addTree_32 rfl rfl rfl ?_
    refine vv_getf (q := 36) (ref := "HalfLadders$Orchard") (C := RX3) (T := TX3) (N := 10) X a0 3 1 (isO_lt 0 ha0 (Nat.le_of_ble_eq_true rfl)) (e_isO (ad := ad) (cy := cy) ha0 _ _) rfl (Nat.le_of_ble_eq_true rfl) (fun _ h => List.mem_cons_of_mem _ (List.mem_append_right _ h)) (List.mem_of_getElem? (i := 1) rfl) rfl rfl dX3_addTree_33 rfl ?_
    refine vv_iload_n (q := 37) X 3 dX3_addTree_36 rfl rfl rfl ?_
    obtain ⟨hin6, h⟩ := h
    refine vv_iast (q := 38) X (a0 + 8) 5 (isO_lt 8 ha0 (Nat.le_of_ble_eq_true rfl)) (fun f => e_isO_8 (ad := ad) (cy := cy) ha0 f σ5.2) hin6 dX3_addTree_37 rfl ?_
    refine vv_nm (fun σ7 hσ7 => ?_)
    have h := h σ7 hσ7
    refine vv_aload_n (q := 39) X 0 dX3_addTree_38 rfl rfl rfl ?_
    refine vv_dup (q := 40) X dX3_addTree_39 rfl rfl ?_
    refine vv_getf (q := 43) (ref := "HalfLadders$Orchard") (C := RX3) (T := TX3) (N := 10) X a0 3 1 (isO_lt 0 ha0 (Nat.le_of_ble_eq_true rfl)) (e_isO (ad := ad) (cy := cy) ha0 _ _) rfl (Nat.le_of_ble_eq_true rfl) (fun _ h => List.mem_cons_of_mem _ (List.mem_append_right _ h)) (List.mem_of_getElem? (i := 1) rfl) rfl rfl dX3_addTree_40 rfl ?_
    refine vv_iconst (q := 44) X (1 : Int32) dX3_addTree_43 (by decide) rfl ?_
    refine vv_iadd (q := 45) X dX3_addTree_44 rfl ?_
    refine vv_putf (q := 48) (ref := "HalfLadders$Orchard") (C := RX3) (T := TX3) (N := 10) X a0 3 1 tyX3 tyX3_ok nmX3 (isO_lt 0 ha0 (Nat.le_of_ble_eq_true rfl)) (e_isO (ad := ad) (cy := cy) ha0 _ _) (e_isO (ad := ad) (cy := cy) ha0 _ _) rfl (Nat.le_of_ble_eq_true rfl) rfl (fun _ h => List.mem_cons_of_mem _ (List.mem_append_right _ h)) (List.mem_of_getElem? (i := 1) rfl) rfl rfl rfl dX3_addTree_45 rfl ?_
    refine vv_nm (fun σ8 hσ8 => ?_)
    have h := h σ8 hσ8
    exact vv_vret X hr dX3_addTree_48 h

/-! X3_fits: fits(II)Z -/
def rmX3_fits : Room := { frames := 2, cells := 0, slots := 0, locals := 43 }
def wX3_fits (σ : St) (a0 : Nat) (a1 : Int32) (a2 : Int32) (P : Int32 → Prop) : Prop :=
isO a0 ∧
wX3_couldFit σ a0 a1 a2 (fun r1 : Int32 =>
(r1 = 0 →
P (0 : Int32)) ∧
(¬ r1 = 0 →
vp_in a1 8 ∧
vp_in a2 8 ∧
(¬ (σ.1 (a0 + 2) a1.toNatClampNeg) = (σ.1 (a0 + 2) a2.toNatClampNeg) →
P (0 : Int32)) ∧
((σ.1 (a0 + 2) a1.toNatClampNeg) = (σ.1 (a0 + 2) a2.toNatClampNeg) →
P (1 : Int32))))

set_option maxHeartbeats 8000000 in
set_option maxRecDepth 100000 in
theorem kX3_fits (l : Launch) (D : va_G) {cy : Nat → ClassId} {ad : Nat → Nat} {zb : Nat → Nat} (hw : xOk (wC ad cy zb)) {σ : St} {a0 : Nat} {a1 : Int32} {a2 : Int32} {P : Int32 → Prop} (h : wX3_fits σ a0 a1 a2 P) : MI l yX3_fits wsX3_fits rmX3_fits D cy (wC ad cy zb) [.ref (ad a0), .int a1, .int a2] σ (fun r u => P r ∧ u = σ) := by
  unfold MI
  refine vv_met (cc := cX3_fits) (maxL := 3) (ret := (some .boolean)) hw (by decide +kernel) rfl [.ref (ad a0), .int a1, .int a2] (Nat.le_of_ble_eq_true rfl) ?_
  intro p e s m args below meth c X hr
  have X : XX p s m args meth c cX3_fits 3 D cy (wC ad cy zb) wsX3_fits RX3 := X
  refine vv_sub (lv' := [(0, .ref (ad a0)), (1, .int a1), (2, .int a2)]) [0, 1, 2] rfl ?_
  rw [wX3_fits] at h
  obtain ⟨ha0, h⟩ := h
  refine vv_aload_n (q := 1) X 0 dX3_fits_0 rfl rfl rfl ?_
  refine vv_iload_n (q := 2) X 1 dX3_fits_1 rfl rfl rfl ?_
  refine vv_iload_n (q := 3) X 2 dX3_fits_2 rfl rfl rfl ?_
  refine vv_cVi (q := 6) (C := RX3) X a0 3 [.int a1, .int a2] (kX3_couldFit l D X.2.2.1 h) (cwV 2 X.1.2.2.2.2 gX3_fits_X3_couldFit rfl rfl rfl (by decide +kernel) ⟨Nat.le_of_ble_eq_true rfl, Nat.le_of_ble_eq_true rfl⟩) (isO_lt 0 ha0 (Nat.le_of_ble_eq_true rfl)) (e_isO (ad := ad) (cy := cy) ha0 _ _) rfl rfl rfl (Nat.le_of_ble_eq_true rfl) dX3_fits_3 rfl (fun r1 u9 h9 => ?_)
  obtain ⟨h9, hu9⟩ := h9
  subst u9
  have h := h9
  refine vv_if_eq (q := 9) X 28 dX3_fits_6 (by decide) rfl (fun c2 => ?_) (fun c2 => ?_)
  · have h := h.1 c2
    refine vv_iconst (q := 29) X (0 : Int32) dX3_fits_28 (by decide) rfl ?_
    exact vv_zret X hr rfl dX3_fits_29 ⟨h, rfl⟩
  · have h := h.2 c2
    refine vv_aload_n (q := 10) X 0 dX3_fits_9 rfl rfl rfl ?_
    refine vv_getf (q := 13) (ref := "HalfLadders$Orchard") (C := RX3) (T := TX3) (N := 10) X a0 3 3 (isO_lt 0 ha0 (Nat.le_of_ble_eq_true rfl)) (e_isO (ad := ad) (cy := cy) ha0 _ _) rfl (Nat.le_of_ble_eq_true rfl) (fun _ h => List.mem_cons_of_mem _ (List.mem_append_right _ h)) (List.mem_of_getElem? (i := 1) rfl) rfl rfl dX3_fits_10 rfl ?_
    refine vv_iload_n (q := 14) X 1 dX3_fits_13 rfl rfl rfl ?_
    obtain ⟨hin3, h⟩ := h
    refine vv_iald (q := 15) X (a0 + 2) 8 (isO_lt 2 ha0 (Nat.le_of_ble_eq_true rfl)) (fun f => e_isO_2 (ad := ad) (cy := cy) ha0 f σ.2) hin3 dX3_fits_14 rfl ?_
    refine vv_aload_n (q := 16) X 0 dX3_fits_15 rfl rfl rfl ?_
    refine vv_getf (q := 19) (ref := "HalfLadders$Orchard") (C := RX3) (T := TX3) (N := 10) X a0 3 3 (isO_lt 0 ha0 (Nat.le_of_ble_eq_true rfl)) (e_isO (ad := ad) (cy := cy) ha0 _ _) rfl (Nat.le_of_ble_eq_true rfl) (fun _ h => List.mem_cons_of_mem _ (List.mem_append_right _ h)) (List.mem_of_getElem? (i := 1) rfl) rfl rfl dX3_fits_16 rfl ?_
    refine vv_iload_n (q := 20) X 2 dX3_fits_19 rfl rfl rfl ?_
    obtain ⟨hin4, h⟩ := h
    refine vv_iald (q := 21) X (a0 + 2) 8 (isO_lt 2 ha0 (Nat.le_of_ble_eq_true rfl)) (fun f => e_isO_2 (ad := ad) (cy := cy) ha0 f σ.2) hin4 dX3_fits_20 rfl ?_
    refine vv_icmp_ne (q := 24) X 28 dX3_fits_21 (by decide) rfl (fun c5 => ?_) (fun c5 => ?_)
    · have h := h.1 c5
      refine vv_iconst (q := 29) X (0 : Int32) dX3_fits_28 (by decide) rfl ?_
      exact vv_zret X hr rfl dX3_fits_29 ⟨h, rfl⟩
    · have h := h.2 c5
      refine vv_iconst (q := 25) X (1 : Int32) dX3_fits_24 (by decide) rfl ?_
      refine vv_goto X 29 dX3_fits_25 (by decide) ?_
      exact vv_zret X hr rfl dX3_fits_29 ⟨h, rfl⟩

/-! X3_quarrelPairs: quarrelPairs()I -/
def rmX3_quarrelPairs : Room := { frames := 1, cells := 0, slots := 0, locals := 20 }
def wLX3_quarrelPairs_4 (f0 : Nat) (σ : St) (K30 : Int32 → Prop) (P : Int32 → Prop) : Nat → Int32 → Int32 → Prop
  | 0, _, _ => False
  | n + 1, x1, x2 =>
    ((σ.1 f0 0) ≤ x2 →
    K30 x1) ∧
    (¬ (σ.1 f0 0) ≤ x2 →
    vp_in x2 8 ∧
    wJ6_bitCount_0f7a4 σ (σ.1 (f0 + 5) x2.toNatClampNeg) (fun r3 : Int32 =>
    ∀ z4 : Int32, z4 = (x1 + r3) →
    ∀ z5 : Int32, z5 = x2 + (1 : Int32) →
    wLX3_quarrelPairs_4 f0 σ K30 P n z4 z5))

set_option maxHeartbeats 4000000 in
set_option maxRecDepth 100000 in
theorem twLX3_quarrelPairs_4 {p : Program} {l : Launch} {e : Env} {s : State} {m : MethodId} {args : Array Value} {below : List Frame} {meth : Method} {c : Code} {D : va_G} {cy : Nat → ClassId} {ad : Nat → Nat} {zb : Nat → Nat} (X : XX p s m args meth c cX3_quarrelPairs 3 D cy (wC ad cy zb) wsX3_quarrelPairs RX3) (hr : meth.sig.returnType = (some .int)) (f0 : Nat) (hf0 : isO f0) (σ : St) (K30 : Int32 → Prop) {P : Int32 → Prop} (hK30 : ∀ (x1 : Int32), K30 x1 → VV p l e rmX3_quarrelPairs s m args below meth c (MQ below (va_Qi (fun r u => P r ∧ u = σ) (xPost D (wC ad cy zb)) (xA (wC ad cy zb))) args s 0 0 (xA (wC ad cy zb))) 3 D (wC ad cy zb) σ 30 [(1, .int x1)] []) : ∀ (n : Nat) (x1 : Int32) (x2 : Int32), wLX3_quarrelPairs_4 f0 σ K30 P n x1 x2 → VV p l e rmX3_quarrelPairs s m args below meth c (MQ below (va_Qi (fun r u => P r ∧ u = σ) (xPost D (wC ad cy zb)) (xA (wC ad cy zb))) args s 0 0 (xA (wC ad cy zb))) 3 D (wC ad cy zb) σ 4 [(0, .ref (ad f0)), (1, .int x1), (2, .int x2)] [] := by
  intro n
  induction n with
  | zero => intro x1 x2 h; exact h.elim
  | succ n ih =>
    intro x1 x2 h
    rw [wLX3_quarrelPairs_4] at h
    refine vv_iload_n (q := 5) X 2 dX3_quarrelPairs_4 rfl rfl rfl ?_
    refine vv_aload_n (q := 6) X 0 dX3_quarrelPairs_5 rfl rfl rfl ?_
    refine vv_getf (q := 9) (ref := "HalfLadders$Orchard") (C := RX3) (T := TX3) (N := 10) X f0 3 0 (isO_lt 0 hf0 (Nat.le_of_ble_eq_true rfl)) (e_isO (ad := ad) (cy := cy) hf0 _ _) rfl (Nat.le_of_ble_eq_true rfl) (fun _ h => List.mem_cons_of_mem _ (List.mem_append_right _ h)) (List.mem_of_getElem? (i := 1) rfl) rfl rfl dX3_quarrelPairs_6 rfl ?_
    refine vv_icmp_ge (q := 12) X 30 dX3_quarrelPairs_9 (by decide) rfl (fun c1 => ?_) (fun c1 => ?_)
    · have h := h.1 c1
      refine vv_sub (lv' := [(1, .int x1)]) [1] rfl ?_
      exact hK30 x1 h
    · have h := h.2 c1
      refine vv_iload_n (q := 13) X 1 dX3_quarrelPairs_12 rfl rfl rfl ?_
      refine vv_aload_n (q := 14) X 0 dX3_quarrelPairs_13 rfl rfl rfl ?_
      refine vv_getf (q := 17) (ref := "HalfLadders$Orchard") (C := RX3) (T := TX3) (N := 10) X f0 3 6 (isO_lt 0 hf0 (Nat.le_of_ble_eq_true rfl)) (e_isO (ad := ad) (cy := cy) hf0 _ _) rfl (Nat.le_of_ble_eq_true rfl) (fun _ h => List.mem_cons_of_mem _ (List.mem_append_right _ h)) (List.mem_of_getElem? (i := 2) rfl) rfl rfl dX3_quarrelPairs_14 rfl ?_
      refine vv_iload_n (q := 18) X 2 dX3_quarrelPairs_17 rfl rfl rfl ?_
      obtain ⟨hin2, h⟩ := h
      refine vv_iald (q := 19) X (f0 + 5) 8 (isO_lt 5 hf0 (Nat.le_of_ble_eq_true rfl)) (fun f => e_isO_5 (ad := ad) (cy := cy) hf0 f σ.2) hin2 dX3_quarrelPairs_18 rfl ?_
      refine vv_cSi (q := 22) X [.int (σ.1 (f0 + 5) x2.toNatClampNeg)] (kJ6_bitCount_0f7a4 l D X.2.2.1 h) (va_cwS 1 X.1.2.2.2.2 gX3_quarrelPairs_J6_bitCount_0f7a4 rfl rfl rfl (by decide +kernel) ⟨Nat.le_of_ble_eq_true rfl, Nat.le_of_ble_eq_true rfl⟩) rfl rfl (Nat.le_of_ble_eq_true rfl) dX3_quarrelPairs_19 rfl (fun r3 u9 h9 => ?_)
      obtain ⟨h9, hu9⟩ := h9
      subst u9
      have h := h9
      refine vv_iadd (q := 23) X dX3_quarrelPairs_22 rfl ?_
      refine vv_topi (fun z4 hz4 => ?_)
      have h := h z4 hz4
      refine vv_istore_n (lv2 := [(1, .int z4), (0, .ref (ad f0)), (2, .int x2)]) (q := 24) X dX3_quarrelPairs_23 rfl (Nat.le_of_ble_eq_true rfl) rfl rfl ?_
      obtain ⟨z5, hz5⟩ : ∃ y : Int32, y = x2 + (1 : Int32) := ⟨_, rfl⟩
      have h := h z5 hz5
      refine vv_iinc (v := z5) (lv2 := [(2, .int z5), (1, .int z4), (0, .ref (ad f0))]) (q := 27) X 2 dX3_quarrelPairs_24 rfl (by rw [hz5]; rfl) (Nat.le_of_ble_eq_true rfl) rfl rfl ?_
      refine vv_goto X 4 dX3_quarrelPairs_27 (by decide) ?_
      refine vv_sub (lv' := [(0, .ref (ad f0)), (1, .int z4), (2, .int z5)]) [2, 1, 0] rfl ?_
      exact ih z4 z5 h

def wX3_quarrelPairs (σ : St) (a0 : Nat) (P : Int32 → Prop) : Prop :=
isO a0 ∧
∃ n7 : Nat, wLX3_quarrelPairs_4 a0 σ (fun (y6 : Int32) =>
P (y6 / (2 : Int32))) P n7 (0 : Int32) (0 : Int32)

set_option maxHeartbeats 8000000 in
set_option maxRecDepth 100000 in
theorem kX3_quarrelPairs (l : Launch) (D : va_G) {cy : Nat → ClassId} {ad : Nat → Nat} {zb : Nat → Nat} (hw : xOk (wC ad cy zb)) {σ : St} {a0 : Nat} {P : Int32 → Prop} (h : wX3_quarrelPairs σ a0 P) : MI l yX3_quarrelPairs wsX3_quarrelPairs rmX3_quarrelPairs D cy (wC ad cy zb) [.ref (ad a0)] σ (fun r u => P r ∧ u = σ) := by
  unfold MI
  refine vv_met (cc := cX3_quarrelPairs) (maxL := 3) (ret := (some .int)) hw (by decide +kernel) rfl [.ref (ad a0)] (Nat.le_of_ble_eq_true rfl) ?_
  intro p e s m args below meth c X hr
  have X : XX p s m args meth c cX3_quarrelPairs 3 D cy (wC ad cy zb) wsX3_quarrelPairs RX3 := X
  refine vv_sub (lv' := [(0, .ref (ad a0))]) [0] rfl ?_
  rw [wX3_quarrelPairs] at h
  obtain ⟨ha0, h⟩ := h
  refine vv_iconst (q := 1) X (0 : Int32) dX3_quarrelPairs_0 (by decide) rfl ?_
  refine vv_istore_n (lv2 := [(1, .int (0 : Int32)), (0, .ref (ad a0))]) (q := 2) X dX3_quarrelPairs_1 rfl (Nat.le_of_ble_eq_true rfl) rfl rfl ?_
  refine vv_iconst (q := 3) X (0 : Int32) dX3_quarrelPairs_2 (by decide) rfl ?_
  refine vv_istore_n (lv2 := [(2, .int (0 : Int32)), (1, .int (0 : Int32)), (0, .ref (ad a0))]) (q := 4) X dX3_quarrelPairs_3 rfl (Nat.le_of_ble_eq_true rfl) rfl rfl ?_
  obtain ⟨n7, h⟩ := h
  refine vv_sub (lv' := [(0, .ref (ad a0)), (1, .int (0 : Int32)), (2, .int (0 : Int32))]) [2, 1, 0] rfl ?_
  refine twLX3_quarrelPairs_4 X hr a0 ha0 σ _ ?_ n7 (0 : Int32) (0 : Int32) h
  intro y6 h
  refine vv_iload_n (q := 31) X 0 dX3_quarrelPairs_30 rfl rfl rfl ?_
  refine vv_iconst (q := 32) X (2 : Int32) dX3_quarrelPairs_31 (by decide) rfl ?_
  refine vv_idiv (q := 33) X dX3_quarrelPairs_32 (by decide) rfl ?_
  exact vv_iret X hr dX3_quarrelPairs_33 ⟨h, rfl⟩

