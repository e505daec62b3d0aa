/-! X0_fewer: fewer(II)I -/
def rmX0_fewer : Room := { frames := 1, cells := 0, slots := 0, locals := 21 }
def wX0_fewer (σ : St) (a0 : Int32) (a1 : Int32) (P : Int32 → Prop) : Prop :=
(¬ a0 = (-9 : Int32) →
(¬ a1 = (-9 : Int32) →
P (if a1 < a0 then a1 else a0)) ∧
(a1 = (-9 : Int32) →
P a0)) ∧
(a0 = (-9 : Int32) →
P a1)

set_option maxHeartbeats 8000000 in
set_option maxRecDepth 100000 in
theorem kX0_fewer (l : Launch) (D : va_G) {cy : Nat → ClassId} {ad : Nat → Nat} {zb : Nat → Nat} (hw : xOk (wC ad cy zb)) {σ : St} {a0 : Int32} {a1 : Int32} {P : Int32 → Prop} (h : wX0_fewer σ a0 a1 P) : MI l yX0_fewer wsX0_fewer rmX0_fewer D cy (wC ad cy zb) [.int a0, .int a1] σ (fun r u => P r ∧ u = σ) := by
  unfold MI
  refine vv_met (cc := cX0_fewer) (maxL := 2) (ret := (some .int)) hw (by decide +kernel) rfl [.int a0, .int a1] (Nat.le_of_ble_eq_true rfl) ?_
  intro p e s m args below meth c X hr
  have X : XX p s m args meth c cX0_fewer 2 D cy (wC ad cy zb) wsX0_fewer RX0 := X
  refine vv_sub (lv' := [(0, .int a0), (1, .int a1)]) [0, 1] rfl ?_
  rw [wX0_fewer] at h
  refine vv_iload_n (q := 1) X 0 dX0_fewer_0 rfl rfl rfl ?_
  refine vv_bipush (q := 3) X (-9 : Int32) dX0_fewer_1 (by decide) rfl ?_
  refine vv_icmp_ne (q := 6) X 8 dX0_fewer_3 (by decide) rfl (fun c1 => ?_) (fun c1 => ?_)
  · have h := h.1 c1
    refine vv_iload_n (q := 9) X 1 dX0_fewer_8 rfl rfl rfl ?_
    refine vv_bipush (q := 11) X (-9 : Int32) dX0_fewer_9 (by decide) rfl ?_
    refine vv_icmp_ne (q := 14) X 18 dX0_fewer_11 (by decide) rfl (fun c2 => ?_) (fun c2 => ?_)
    · have h := h.1 c2
      refine vv_iload_n (q := 19) X 0 dX0_fewer_18 rfl rfl rfl ?_
      refine vv_iload_n (q := 20) X 1 dX0_fewer_19 rfl rfl rfl ?_
      refine vv_mmin (q := 23) X (List.mem_of_getElem? (i := 1) rfl) (List.mem_of_getElem? (i := 2) rfl) (List.mem_of_getElem? (i := 3) rfl) (List.mem_of_getElem? (i := 4) rfl) (Nat.le_of_ble_eq_true rfl) (Nat.le_of_ble_eq_true rfl) dX0_fewer_20 rfl ?_
      exact vv_iret X hr dX0_fewer_23 ⟨h, rfl⟩
    · have h := h.2 c2
      refine vv_iload_n (q := 15) X 0 dX0_fewer_14 rfl rfl rfl ?_
      refine vv_goto X 23 dX0_fewer_15 (by decide) ?_
      exact vv_iret X hr dX0_fewer_23 ⟨h, rfl⟩
  · have h := h.2 c1
    refine vv_iload_n (q := 7) X 1 dX0_fewer_6 rfl rfl rfl ?_
    exact vv_iret X hr dX0_fewer_7 ⟨h, rfl⟩

/-! X0_fewestOf: fewestOf(LHalfLadders$Orchard;I)I -/
def rmX0_fewestOf : Room := { frames := 2, cells := 0, slots := 0, locals := 43 }
def wLX0_fewestOf_15 (f1 : Nat) (f2 : Int32) (f4 : Int32) (σ : St) (K108 : Int32 → Prop) (P : Int32 → Prop) : Nat → Int32 → Int32 → Prop
  | 0, _, _ => False
  | n + 1, x3, x5 =>
    ((σ.1 f1 0) ≤ x5 →
    K108 x3) ∧
    (¬ (σ.1 f1 0) ≤ x5 →
    ∀ z4 : Int32, z4 = (f2 &&& ((((1 : Int32) <<< (f4 &&& 31)) ||| ((1 : Int32) <<< (x5 &&& 31))) ^^^ (-1 : Int32))) →
    (((f2 >>> (x5 &&& 31)) &&& (1 : Int32)) = 0 →
    ∀ z6 : Int32, z6 = x5 + (1 : Int32) →
    wLX0_fewestOf_15 f1 f2 f4 σ K108 P n x3 z6) ∧
    (¬ ((f2 >>> (x5 &&& 31)) &&& (1 : Int32)) = 0 →
    wX3_couldFit σ f1 f4 x5 (fun r7 : Int32 =>
    (r7 = 0 →
    ∀ z9 : Int32, z9 = x5 + (1 : Int32) →
    wLX0_fewestOf_15 f1 f2 f4 σ K108 P n x3 z9) ∧
    (¬ r7 = 0 →
    vp_in z4 256 ∧
    ((σ.1 36 z4.toNatClampNeg) = (-9 : Int32) →
    ∀ z12 : Int32, z12 = x5 + (1 : Int32) →
    wLX0_fewestOf_15 f1 f2 f4 σ K108 P n x3 z12) ∧
    (¬ (σ.1 36 z4.toNatClampNeg) = (-9 : Int32) →
    vp_in z4 256 ∧
    vp_in f4 8 ∧
    vp_in x5 8 ∧
    wX0_fewer σ x3 ((σ.1 36 z4.toNatClampNeg) + (if 0 ≤ ((σ.1 (f1 + 2) f4.toNatClampNeg) - (σ.1 (f1 + 2) x5.toNatClampNeg)) then ((σ.1 (f1 + 2) f4.toNatClampNeg) - (σ.1 (f1 + 2) x5.toNatClampNeg)) else 0 - ((σ.1 (f1 + 2) f4.toNatClampNeg) - (σ.1 (f1 + 2) x5.toNatClampNeg)))) (fun r16 : Int32 =>
    ∀ z17 : Int32, z17 = x5 + (1 : Int32) →
    wLX0_fewestOf_15 f1 f2 f4 σ K108 P n r16 z17))))))

set_option maxHeartbeats 4000000 in
set_option maxRecDepth 100000 in
theorem twLX0_fewestOf_15 {p : Program} {l : Launch} {e : Env} {s : State} {m : MethodId} {args : Array Value} {below : List Frame} {meth : Method} {c : Code} {D : va_G} {cy : Nat → ClassId} {ad : Nat → Nat} {zb : Nat → Nat} (X : XX p s m args meth c cX0_fewestOf 7 D cy (wC ad cy zb) wsX0_fewestOf RX0) (hr : meth.sig.returnType = (some .int)) (f1 : Nat) (f2 : Int32) (f4 : Int32) (hf1 : isO f1) (σ : St) (K108 : Int32 → Prop) {P : Int32 → Prop} (hK108 : ∀ (x3 : Int32), K108 x3 → VV p l e rmX0_fewestOf s m args below meth c (MQ below (va_Qi (fun r u => P r ∧ u = σ) (xPost D (wC ad cy zb)) (xA (wC ad cy zb))) args s 0 0 (xA (wC ad cy zb))) 7 D (wC ad cy zb) σ 108 [(3, .int x3)] []) : ∀ (n : Nat) (x3 : Int32) (x5 : Int32), wLX0_fewestOf_15 f1 f2 f4 σ K108 P n x3 x5 → VV p l e rmX0_fewestOf s m args below meth c (MQ below (va_Qi (fun r u => P r ∧ u = σ) (xPost D (wC ad cy zb)) (xA (wC ad cy zb))) args s 0 0 (xA (wC ad cy zb))) 7 D (wC ad cy zb) σ 15 [(0, .ref (ad 34)), (1, .ref (ad f1)), (2, .int f2), (3, .int x3), (4, .int f4), (5, .int x5)] [] := by
  intro n
  induction n with
  | zero => intro x3 x5 h; exact h.elim
  | succ n ih =>
    intro x3 x5 h
    rw [wLX0_fewestOf_15] at h
    refine vv_iload (q := 17) X 5 dX0_fewestOf_15 rfl rfl ?_
    refine vv_aload_n (q := 18) X 1 dX0_fewestOf_17 rfl rfl rfl ?_
    refine vv_getf (q := 21) (ref := "HalfLadders$Orchard") (C := RX3) (T := TX3) (N := 10) X f1 3 0 (isO_lt 0 hf1 (Nat.le_of_ble_eq_true rfl)) (e_isO (ad := ad) (cy := cy) hf1 _ _) rfl (Nat.le_of_ble_eq_true rfl) (fun _ h => List.mem_cons_of_mem _ (List.mem_append_left _ (List.mem_append_right _ h))) (List.mem_of_getElem? (i := 1) rfl) rfl rfl dX0_fewestOf_18 rfl ?_
    refine vv_icmp_ge (q := 24) X 108 dX0_fewestOf_21 (by decide) rfl (fun c3 => ?_) (fun c3 => ?_)
    · have h := h.1 c3
      refine vv_sub (lv' := [(3, .int x3)]) [3] rfl ?_
      exact hK108 x3 h
    · have h := h.2 c3
      refine vv_iload_n (q := 25) X 2 dX0_fewestOf_24 rfl rfl rfl ?_
      refine vv_iconst (q := 26) X (1 : Int32) dX0_fewestOf_25 (by decide) rfl ?_
      refine vv_iload (q := 28) X 4 dX0_fewestOf_26 rfl rfl ?_
      refine vv_ishl (q := 29) X dX0_fewestOf_28 rfl ?_
      refine vv_iconst (q := 30) X (1 : Int32) dX0_fewestOf_29 (by decide) rfl ?_
      refine vv_iload (q := 32) X 5 dX0_fewestOf_30 rfl rfl ?_
      refine vv_ishl (q := 33) X dX0_fewestOf_32 rfl ?_
      refine vv_ior (q := 34) X dX0_fewestOf_33 rfl ?_
      refine vv_iconst (q := 35) X (-1 : Int32) dX0_fewestOf_34 (by decide) rfl ?_
      refine vv_ixor (q := 36) X dX0_fewestOf_35 rfl ?_
      refine vv_iand (q := 37) X dX0_fewestOf_36 rfl ?_
      refine vv_topi (fun z4 hz4 => ?_)
      have h := h z4 hz4
      refine vv_istore (lv2 := [(6, .int z4), (0, .ref (ad 34)), (1, .ref (ad f1)), (2, .int f2), (3, .int x3), (4, .int f4), (5, .int x5)]) (q := 39) X dX0_fewestOf_37 (Nat.le_of_ble_eq_true rfl) rfl rfl ?_
      refine vv_iload_n (q := 40) X 3 dX0_fewestOf_39 rfl rfl rfl ?_
      refine vv_iload (q := 42) X 6 dX0_fewestOf_40 rfl rfl ?_
      refine vv_ishr (q := 43) X dX0_fewestOf_42 rfl ?_
      refine vv_iconst (q := 44) X (1 : Int32) dX0_fewestOf_43 (by decide) rfl ?_
      refine vv_iand (q := 45) X dX0_fewestOf_44 rfl ?_
      refine vv_if_eq (q := 48) X 102 dX0_fewestOf_45 (by decide) rfl (fun c5 => ?_) (fun c5 => ?_)
      · have h := h.1 c5
        obtain ⟨z6, hz6⟩ : ∃ y : Int32, y = x5 + (1 : Int32) := ⟨_, rfl⟩
        have h := h z6 hz6
        refine vv_iinc (v := z6) (lv2 := [(5, .int z6), (6, .int z4), (0, .ref (ad 34)), (1, .ref (ad f1)), (2, .int f2), (3, .int x3), (4, .int f4)]) (q := 105) X 6 dX0_fewestOf_102 rfl (by rw [hz6]; rfl) (Nat.le_of_ble_eq_true rfl) rfl rfl ?_
        refine vv_goto X 15 dX0_fewestOf_105 (by decide) ?_
        refine vv_sub (lv' := [(0, .ref (ad 34)), (1, .ref (ad f1)), (2, .int f2), (3, .int x3), (4, .int f4), (5, .int z6)]) [2, 3, 4, 5, 6, 0] rfl ?_
        exact ih x3 z6 h
      · have h := h.2 c5
        refine vv_aload_n (q := 49) X 2 dX0_fewestOf_48 rfl rfl rfl ?_
        refine vv_iload (q := 51) X 5 dX0_fewestOf_49 rfl rfl ?_
        refine vv_iload (q := 53) X 6 dX0_fewestOf_51 rfl rfl ?_
        refine vv_cVi (q := 56) (C := RX3) X f1 3 [.int f4, .int x5] (kX3_couldFit l D X.2.2.1 h) (cwV 2 X.1.2.2.2.2 gX0_fewestOf_X3_couldFit rfl rfl rfl (by decide +kernel) ⟨Nat.le_of_ble_eq_true rfl, Nat.le_of_ble_eq_true rfl⟩) (isO_lt 0 hf1 (Nat.le_of_ble_eq_true rfl)) (e_isO (ad := ad) (cy := cy) hf1 _ _) rfl rfl rfl (Nat.le_of_ble_eq_true rfl) dX0_fewestOf_53 rfl (fun r7 u9 h9 => ?_)
        obtain ⟨h9, hu9⟩ := h9
        subst u9
        have h := h9
        refine vv_if_eq (q := 59) X 102 dX0_fewestOf_56 (by decide) rfl (fun c8 => ?_) (fun c8 => ?_)
        · have h := h.1 c8
          obtain ⟨z9, hz9⟩ : ∃ y : Int32, y = x5 + (1 : Int32) := ⟨_, rfl⟩
          have h := h z9 hz9
          refine vv_iinc (v := z9) (lv2 := [(5, .int z9), (6, .int z4), (0, .ref (ad 34)), (1, .ref (ad f1)), (2, .int f2), (3, .int x3), (4, .int f4)]) (q := 105) X 6 dX0_fewestOf_102 rfl (by rw [hz9]; rfl) (Nat.le_of_ble_eq_true rfl) rfl rfl ?_
          refine vv_goto X 15 dX0_fewestOf_105 (by decide) ?_
          refine vv_sub (lv' := [(0, .ref (ad 34)), (1, .ref (ad f1)), (2, .int f2), (3, .int x3), (4, .int f4), (5, .int z9)]) [2, 3, 4, 5, 6, 0] rfl ?_
          exact ih x3 z9 h
        · have h := h.2 c8
          refine vv_aload_n (q := 60) X 1 dX0_fewestOf_59 rfl rfl rfl ?_
          refine vv_getf (q := 63) (ref := "HalfLadders$Cutting") (C := RX0) (T := TX0) (N := 2) X 34 0 1 (Nat.le_of_ble_eq_true rfl) rfl rfl (Nat.le_of_ble_eq_true rfl) (fun _ h => List.mem_cons_of_mem _ (List.mem_append_right _ h)) (List.mem_of_getElem? (i := 2) rfl) rfl rfl dX0_fewestOf_60 rfl ?_
          refine vv_iload (q := 65) X 0 dX0_fewestOf_63 rfl rfl ?_
          obtain ⟨hin10, h⟩ := h
          refine vv_iald (q := 66) X 36 256 (Nat.le_of_ble_eq_true rfl) (fun _ => rfl) hin10 dX0_fewestOf_65 rfl ?_
          refine vv_bipush (q := 68) X (-9 : Int32) dX0_fewestOf_66 (by decide) rfl ?_
          refine vv_icmp_eq (q := 71) X 102 dX0_fewestOf_68 (by decide) rfl (fun c11 => ?_) (fun c11 => ?_)
          · have h := h.1 c11
            obtain ⟨z12, hz12⟩ : ∃ y : Int32, y = x5 + (1 : Int32) := ⟨_, rfl⟩
            have h := h z12 hz12
            refine vv_iinc (v := z12) (lv2 := [(5, .int z12), (6, .int z4), (0, .ref (ad 34)), (1, .ref (ad f1)), (2, .int f2), (3, .int x3), (4, .int f4)]) (q := 105) X 6 dX0_fewestOf_102 rfl (by rw [hz12]; rfl) (Nat.le_of_ble_eq_true rfl) rfl rfl ?_
            refine vv_goto X 15 dX0_fewestOf_105 (by decide) ?_
            refine vv_sub (lv' := [(0, .ref (ad 34)), (1, .ref (ad f1)), (2, .int f2), (3, .int x3), (4, .int f4), (5, .int z12)]) [2, 3, 4, 5, 6, 0] rfl ?_
            exact ih x3 z12 h
          · have h := h.2 c11
            refine vv_iload_n (q := 72) X 4 dX0_fewestOf_71 rfl rfl rfl ?_
            refine vv_aload_n (q := 73) X 1 dX0_fewestOf_72 rfl rfl rfl ?_
            refine vv_getf (q := 76) (ref := "HalfLadders$Cutting") (C := RX0) (T := TX0) (N := 2) X 34 0 1 (Nat.le_of_ble_eq_true rfl) rfl rfl (Nat.le_of_ble_eq_true rfl) (fun _ h => List.mem_cons_of_mem _ (List.mem_append_right _ h)) (List.mem_of_getElem? (i := 2) rfl) rfl rfl dX0_fewestOf_73 rfl ?_
            refine vv_iload (q := 78) X 0 dX0_fewestOf_76 rfl rfl ?_
            obtain ⟨hin13, h⟩ := h
            refine vv_iald (q := 79) X 36 256 (Nat.le_of_ble_eq_true rfl) (fun _ => rfl) hin13 dX0_fewestOf_78 rfl ?_
            refine vv_aload_n (q := 80) X 2 dX0_fewestOf_79 rfl rfl rfl ?_
            refine vv_getf (q := 83) (ref := "HalfLadders$Orchard") (C := RX3) (T := TX3) (N := 10) X f1 3 3 (isO_lt 0 hf1 (Nat.le_of_ble_eq_true rfl)) (e_isO (ad := ad) (cy := cy) hf1 _ _) rfl (Nat.le_of_ble_eq_true rfl) (fun _ h => List.mem_cons_of_mem _ (List.mem_append_left _ (List.mem_append_right _ h))) (List.mem_of_getElem? (i := 3) rfl) rfl rfl dX0_fewestOf_80 rfl ?_
            refine vv_iload (q := 85) X 5 dX0_fewestOf_83 rfl rfl ?_
            obtain ⟨hin14, h⟩ := h
            refine vv_iald (q := 86) X (f1 + 2) 8 (isO_lt 2 hf1 (Nat.le_of_ble_eq_true rfl)) (fun f => e_isO_2 (ad := ad) (cy := cy) hf1 f σ.2) hin14 dX0_fewestOf_85 rfl ?_
            refine vv_aload_n (q := 87) X 2 dX0_fewestOf_86 rfl rfl rfl ?_
            refine vv_getf (q := 90) (ref := "HalfLadders$Orchard") (C := RX3) (T := TX3) (N := 10) X f1 3 3 (isO_lt 0 hf1 (Nat.le_of_ble_eq_true rfl)) (e_isO (ad := ad) (cy := cy) hf1 _ _) rfl (Nat.le_of_ble_eq_true rfl) (fun _ h => List.mem_cons_of_mem _ (List.mem_append_left _ (List.mem_append_right _ h))) (List.mem_of_getElem? (i := 3) rfl) rfl rfl dX0_fewestOf_87 rfl ?_
            refine vv_iload (q := 92) X 6 dX0_fewestOf_90 rfl rfl ?_
            obtain ⟨hin15, h⟩ := h
            refine vv_iald (q := 93) X (f1 + 2) 8 (isO_lt 2 hf1 (Nat.le_of_ble_eq_true rfl)) (fun f => e_isO_2 (ad := ad) (cy := cy) hf1 f σ.2) hin15 dX0_fewestOf_92 rfl ?_
            refine vv_isub (q := 94) X dX0_fewestOf_93 rfl ?_
            refine vv_mabs (q := 97) X (List.mem_of_getElem? (i := 4) rfl) (List.mem_of_getElem? (i := 5) rfl) (List.mem_of_getElem? (i := 6) rfl) (List.mem_of_getElem? (i := 7) rfl) (Nat.le_of_ble_eq_true rfl) (Nat.le_of_ble_eq_true rfl) dX0_fewestOf_94 rfl ?_
            refine vv_iadd (q := 98) X dX0_fewestOf_97 rfl ?_
            refine vv_cSi (q := 101) X [.int x3, .int ((σ.1 36 z4.toNatClampNeg) + (if 0 ≤ ((σ.1 (f1 + 2) f4.toNatClampNeg) - (σ.1 (f1 + 2) x5.toNatClampNeg)) then ((σ.1 (f1 + 2) f4.toNatClampNeg) - (σ.1 (f1 + 2) x5.toNatClampNeg)) else 0 - ((σ.1 (f1 + 2) f4.toNatClampNeg) - (σ.1 (f1 + 2) x5.toNatClampNeg))))] (kX0_fewer l D X.2.2.1 h) (va_cwS 2 X.1.2.2.2.2 gX0_fewestOf_X0_fewer rfl rfl rfl (by decide +kernel) ⟨Nat.le_of_ble_eq_true rfl, Nat.le_of_ble_eq_true rfl⟩) rfl rfl (Nat.le_of_ble_eq_true rfl) dX0_fewestOf_98 rfl (fun r16 u9 h9 => ?_)
            obtain ⟨h9, hu9⟩ := h9
            subst u9
            have h := h9
            refine vv_istore_n (lv2 := [(3, .int r16), (6, .int z4), (0, .ref (ad 34)), (1, .ref (ad f1)), (2, .int f2), (4, .int f4), (5, .int x5)]) (q := 102) X dX0_fewestOf_101 rfl (Nat.le_of_ble_eq_true rfl) rfl rfl ?_
            obtain ⟨z17, hz17⟩ : ∃ y : Int32, y = x5 + (1 : Int32) := ⟨_, rfl⟩
            have h := h z17 hz17
            refine vv_iinc (v := z17) (lv2 := [(5, .int z17), (3, .int r16), (6, .int z4), (0, .ref (ad 34)), (1, .ref (ad f1)), (2, .int f2), (4, .int f4)]) (q := 105) X 6 dX0_fewestOf_102 rfl (by rw [hz17]; rfl) (Nat.le_of_ble_eq_true rfl) rfl rfl ?_
            refine vv_goto X 15 dX0_fewestOf_105 (by decide) ?_
            refine vv_sub (lv' := [(0, .ref (ad 34)), (1, .ref (ad f1)), (2, .int f2), (3, .int r16), (4, .int f4), (5, .int z17)]) [3, 4, 5, 1, 6, 0] rfl ?_
            exact ih r16 z17 h

def wX0_fewestOf (σ : St) (a1 : Nat) (a2 : Int32) (P : Int32 → Prop) : Prop :=
isO a1 ∧
wJ6_numberOfTrailingZeros_0f7a4 σ a2 (fun r1 : Int32 =>
∀ z2 : Int32, z2 = (r1 + (1 : Int32)) →
∃ n19 : Nat, wLX0_fewestOf_15 a1 a2 r1 σ (fun (y18 : Int32) =>
P y18) P n19 (-9 : Int32) z2)

set_option maxHeartbeats 8000000 in
set_option maxRecDepth 100000 in
theorem kX0_fewestOf (l : Launch) (D : va_G) {cy : Nat → ClassId} {ad : Nat → Nat} {zb : Nat → Nat} (hw : xOk (wC ad cy zb)) {σ : St} {a1 : Nat} {a2 : Int32} {P : Int32 → Prop} (h : wX0_fewestOf σ a1 a2 P) : MI l yX0_fewestOf wsX0_fewestOf rmX0_fewestOf D cy (wC ad cy zb) [.ref (ad 34), .ref (ad a1), .int a2] σ (fun r u => P r ∧ u = σ) := by
  unfold MI
  refine vv_met (cc := cX0_fewestOf) (maxL := 7) (ret := (some .int)) hw (by decide +kernel) rfl [.ref (ad 34), .ref (ad a1), .int a2] (Nat.le_of_ble_eq_true rfl) ?_
  intro p e s m args below meth c X hr
  have X : XX p s m args meth c cX0_fewestOf 7 D cy (wC ad cy zb) wsX0_fewestOf RX0 := X
  refine vv_sub (lv' := [(0, .ref (ad 34)), (1, .ref (ad a1)), (2, .int a2)]) [0, 1, 2] rfl ?_
  rw [wX0_fewestOf] at h
  obtain ⟨ha1, h⟩ := h
  refine vv_bipush (q := 2) X (-9 : Int32) dX0_fewestOf_0 (by decide) rfl ?_
  refine vv_istore_n (lv2 := [(3, .int (-9 : Int32)), (0, .ref (ad 34)), (1, .ref (ad a1)), (2, .int a2)]) (q := 3) X dX0_fewestOf_2 rfl (Nat.le_of_ble_eq_true rfl) rfl rfl ?_
  refine vv_iload_n (q := 4) X 3 dX0_fewestOf_3 rfl rfl rfl ?_
  refine vv_cSi (q := 7) X [.int a2] (kJ6_numberOfTrailingZeros_0f7a4 l D X.2.2.1 h) (va_cwS 1 X.1.2.2.2.2 gX0_fewestOf_J6_numberOfTrailingZeros_0f7a4 rfl rfl rfl (by decide +kernel) ⟨Nat.le_of_ble_eq_true rfl, Nat.le_of_ble_eq_true rfl⟩) rfl rfl (Nat.le_of_ble_eq_true rfl) dX0_fewestOf_4 rfl (fun r1 u9 h9 => ?_)
  obtain ⟨h9, hu9⟩ := h9
  subst u9
  have h := h9
  refine vv_istore (lv2 := [(4, .int r1), (3, .int (-9 : Int32)), (0, .ref (ad 34)), (1, .ref (ad a1)), (2, .int a2)]) (q := 9) X dX0_fewestOf_7 (Nat.le_of_ble_eq_true rfl) rfl rfl ?_
  refine vv_iload (q := 11) X 0 dX0_fewestOf_9 rfl rfl ?_
  refine vv_iconst (q := 12) X (1 : Int32) dX0_fewestOf_11 (by decide) rfl ?_
  refine vv_iadd (q := 13) X dX0_fewestOf_12 rfl ?_
  refine vv_topi (fun z2 hz2 => ?_)
  have h := h z2 hz2
  refine vv_istore (lv2 := [(5, .int z2), (4, .int r1), (3, .int (-9 : Int32)), (0, .ref (ad 34)), (1, .ref (ad a1)), (2, .int a2)]) (q := 15) X dX0_fewestOf_13 (Nat.le_of_ble_eq_true rfl) rfl rfl ?_
  obtain ⟨n19, h⟩ := h
  refine vv_sub (lv' := [(0, .ref (ad 34)), (1, .ref (ad a1)), (2, .int a2), (3, .int (-9 : Int32)), (4, .int r1), (5, .int z2)]) [3, 4, 5, 2, 1, 0] rfl ?_
  refine twLX0_fewestOf_15 X hr a1 a2 r1 ha1 σ _ ?_ n19 (-9 : Int32) z2 h
  intro y18 h
  refine vv_iload_n (q := 109) X 0 dX0_fewestOf_108 rfl rfl rfl ?_
  exact vv_iret X hr dX0_fewestOf_109 ⟨h, rfl⟩

/-! X0_reckon: reckon(LHalfLadders$Orchard;)V -/
def rmX0_reckon : Room := { frames := 3, cells := 0, slots := 0, locals := 69 }
def wLX0_reckon_18 (f1 : Nat)  (K87 : St → Prop) (P : St → Prop) : Nat → St → Int32 → Prop
  | 0, _, _ => False
  | n + 1, σ, x2 =>
    wX3_everybody σ f1 (fun r4 : Int32 =>
    (r4 < x2 →
    K87 σ) ∧
    (¬ r4 < x2 →
    wX0_fewestOf σ f1 x2 (fun r6 : Int32 =>
    vp_in x2 256 ∧
    ∀ σ8 : St, σ8 = sI σ 36 x2.toNatClampNeg r6 →
    wJ6_bitCount_0f7a4 σ8 x2 (fun r9 : Int32 =>
    (¬ (r9 - r9 / (2 : Int32) * (2 : Int32)) = 0 →
    ∀ z11 : Int32, z11 = x2 + (1 : Int32) →
    wLX0_reckon_18 f1 K87 P n σ8 z11) ∧
    ((r9 - r9 / (2 : Int32) * (2 : Int32)) = 0 →
    ((4 : Int32) < (r9 / (2 : Int32)) →
    ∀ z13 : Int32, z13 = x2 + (1 : Int32) →
    wLX0_reckon_18 f1 K87 P n σ8 z13) ∧
    (¬ (4 : Int32) < (r9 / (2 : Int32)) →
    vp_in (r9 / (2 : Int32)) 5 ∧
    vp_in x2 256 ∧
    wX0_fewer σ8 (σ8.1 35 (r9 / (2 : Int32)).toNatClampNeg) (σ8.1 36 x2.toNatClampNeg) (fun r16 : Int32 =>
    vp_in (r9 / (2 : Int32)) 5 ∧
    ∀ σ18 : St, σ18 = sI σ8 35 (r9 / (2 : Int32)).toNatClampNeg r16 →
    ∀ z19 : Int32, z19 = x2 + (1 : Int32) →
    wLX0_reckon_18 f1 K87 P n σ18 z19)))))))

set_option maxHeartbeats 4000000 in
set_option maxRecDepth 100000 in
theorem twLX0_reckon_18 {p : Program} {l : Launch} {e : Env} {s : State} {m : MethodId} {args : Array Value} {below : List Frame} {meth : Method} {c : Code} {D : va_G} {cy : Nat → ClassId} {ad : Nat → Nat} {zb : Nat → Nat} (X : XX p s m args meth c cX0_reckon 4 D cy (wC ad cy zb) wsX0_reckon RX0) (hr : meth.sig.returnType = none) (f1 : Nat) (hf1 : isO f1)  (K87 : St → Prop) {P : St → Prop} (hK87 : ∀ (σ : St), K87 σ → VV p l e rmX0_reckon s m args below meth c (MQ below (va_Qv P (xPost D (wC ad cy zb)) (xA (wC ad cy zb))) args s 0 0 (xA (wC ad cy zb))) 4 D (wC ad cy zb) σ 87 [] []) : ∀ (n : Nat) (σ : St) (x2 : Int32), wLX0_reckon_18 f1 K87 P n σ x2 → VV p l e rmX0_reckon s m args below meth c (MQ below (va_Qv P (xPost D (wC ad cy zb)) (xA (wC ad cy zb))) args s 0 0 (xA (wC ad cy zb))) 4 D (wC ad cy zb) σ 18 [(0, .ref (ad 34)), (1, .ref (ad f1)), (2, .int x2)] [] := by
  intro n
  induction n with
  | zero => intro σ x2 h; exact h.elim
  | succ n ih =>
    intro σ x2 h
    rw [wLX0_reckon_18] at h
    refine vv_iload_n (q := 19) X 2 dX0_reckon_18 rfl rfl rfl ?_
    refine vv_aload_n (q := 20) X 1 dX0_reckon_19 rfl rfl rfl ?_
    refine vv_cVi (q := 23) (C := RX3) X f1 3 [] (kX3_everybody l D X.2.2.1 h) (cwV 0 X.1.2.2.2.2 gX0_reckon_X3_everybody rfl rfl rfl (by decide +kernel) ⟨Nat.le_of_ble_eq_true rfl, Nat.le_of_ble_eq_true rfl⟩) (isO_lt 0 hf1 (Nat.le_of_ble_eq_true rfl)) (e_isO (ad := ad) (cy := cy) hf1 _ _) rfl rfl rfl (Nat.le_of_ble_eq_true rfl) dX0_reckon_20 rfl (fun r4 u9 h9 => ?_)
    obtain ⟨h9, hu9⟩ := h9
    subst u9
    have h := h9
    refine vv_icmp_gt (q := 26) X 87 dX0_reckon_23 (by decide) rfl (fun c5 => ?_) (fun c5 => ?_)
    · have h := h.1 c5
      refine vv_sub (lv' := []) [] rfl ?_
      exact hK87 σ h
    · have h := h.2 c5
      refine vv_aload_n (q := 27) X 0 dX0_reckon_26 rfl rfl rfl ?_
      refine vv_getf (q := 30) (ref := "HalfLadders$Cutting") (C := RX0) (T := TX0) (N := 2) X 34 0 1 (Nat.le_of_ble_eq_true rfl) rfl rfl (Nat.le_of_ble_eq_true rfl) (fun _ h => List.mem_cons_of_mem _ (List.mem_append_left _ (List.mem_append_right _ h))) (List.mem_of_getElem? (i := 2) rfl) rfl rfl dX0_reckon_27 rfl ?_
      refine vv_iload_n (q := 31) X 2 dX0_reckon_30 rfl rfl rfl ?_
      refine vv_aload_n (q := 32) X 0 dX0_reckon_31 rfl rfl rfl ?_
      refine vv_aload_n (q := 33) X 1 dX0_reckon_32 rfl rfl rfl ?_
      refine vv_iload_n (q := 34) X 2 dX0_reckon_33 rfl rfl rfl ?_
      refine vv_cVi (q := 37) (C := RX0) X 34 0 [.ref (ad f1), .int x2] (kX0_fewestOf l D X.2.2.1 h) (cwV 2 X.1.2.2.2.2 gX0_reckon_X0_fewestOf rfl rfl rfl (by decide +kernel) ⟨Nat.le_of_ble_eq_true rfl, Nat.le_of_ble_eq_true rfl⟩) (Nat.le_of_ble_eq_true rfl) rfl rfl rfl rfl (Nat.le_of_ble_eq_true rfl) dX0_reckon_34 rfl (fun r6 u9 h9 => ?_)
      obtain ⟨h9, hu9⟩ := h9
      subst u9
      have h := h9
      obtain ⟨hin7, h⟩ := h
      refine vv_iast (q := 38) X 36 256 (Nat.le_of_ble_eq_true rfl) (fun _ => rfl) hin7 dX0_reckon_37 rfl ?_
      refine vv_nm (fun σ8 hσ8 => ?_)
      have h := h σ8 hσ8
      refine vv_iload_n (q := 39) X 2 dX0_reckon_38 rfl rfl rfl ?_
      refine vv_cSi (q := 42) X [.int x2] (kJ6_bitCount_0f7a4 l D X.2.2.1 h) (va_cwS 1 X.1.2.2.2.2 gX0_reckon_J6_bitCount_0f7a4 rfl rfl rfl (by decide +kernel) ⟨Nat.le_of_ble_eq_true rfl, Nat.le_of_ble_eq_true rfl⟩) rfl rfl (Nat.le_of_ble_eq_true rfl) dX0_reckon_39 rfl (fun r9 u9 h9 => ?_)
      obtain ⟨h9, hu9⟩ := h9
      subst u9
      have h := h9
      refine vv_istore_n (lv2 := [(3, .int r9), (0, .ref (ad 34)), (1, .ref (ad f1)), (2, .int x2)]) (q := 43) X dX0_reckon_42 rfl (Nat.le_of_ble_eq_true rfl) rfl rfl ?_
      refine vv_iload_n (q := 44) X 0 dX0_reckon_43 rfl rfl rfl ?_
      refine vv_iconst (q := 45) X (2 : Int32) dX0_reckon_44 (by decide) rfl ?_
      refine vv_irem (q := 46) X dX0_reckon_45 (by decide) rfl ?_
      refine vv_if_ne (q := 49) X 81 dX0_reckon_46 (by decide) rfl (fun c10 => ?_) (fun c10 => ?_)
      · have h := h.1 c10
        obtain ⟨z11, hz11⟩ : ∃ y : Int32, y = x2 + (1 : Int32) := ⟨_, rfl⟩
        have h := h z11 hz11
        refine vv_iinc (v := z11) (lv2 := [(2, .int z11), (3, .int r9), (0, .ref (ad 34)), (1, .ref (ad f1))]) (q := 84) X 3 dX0_reckon_81 rfl (by rw [hz11]; rfl) (Nat.le_of_ble_eq_true rfl) rfl rfl ?_
        refine vv_goto X 18 dX0_reckon_84 (by decide) ?_
        refine vv_sub (lv' := [(0, .ref (ad 34)), (1, .ref (ad f1)), (2, .int z11)]) [2, 3, 0] rfl ?_
        exact ih σ8 z11 h
      · have h := h.2 c10
        refine vv_iload_n (q := 50) X 0 dX0_reckon_49 rfl rfl rfl ?_
        refine vv_iconst (q := 51) X (2 : Int32) dX0_reckon_50 (by decide) rfl ?_
        refine vv_idiv (q := 52) X dX0_reckon_51 (by decide) rfl ?_
        refine vv_iconst (q := 53) X (4 : Int32) dX0_reckon_52 (by decide) rfl ?_
        refine vv_icmp_gt (q := 56) X 81 dX0_reckon_53 (by decide) rfl (fun c12 => ?_) (fun c12 => ?_)
        · have h := h.1 c12
          obtain ⟨z13, hz13⟩ : ∃ y : Int32, y = x2 + (1 : Int32) := ⟨_, rfl⟩
          have h := h z13 hz13
          refine vv_iinc (v := z13) (lv2 := [(2, .int z13), (3, .int r9), (0, .ref (ad 34)), (1, .ref (ad f1))]) (q := 84) X 3 dX0_reckon_81 rfl (by rw [hz13]; rfl) (Nat.le_of_ble_eq_true rfl) rfl rfl ?_
          refine vv_goto X 18 dX0_reckon_84 (by decide) ?_
          refine vv_sub (lv' := [(0, .ref (ad 34)), (1, .ref (ad f1)), (2, .int z13)]) [2, 3, 0] rfl ?_
          exact ih σ8 z13 h
        · have h := h.2 c12
          refine vv_aload_n (q := 57) X 1 dX0_reckon_56 rfl rfl rfl ?_
          refine vv_getf (q := 60) (ref := "HalfLadders$Cutting") (C := RX0) (T := TX0) (N := 2) X 34 0 0 (Nat.le_of_ble_eq_true rfl) rfl rfl (Nat.le_of_ble_eq_true rfl) (fun _ h => List.mem_cons_of_mem _ (List.mem_append_left _ (List.mem_append_right _ h))) (List.mem_of_getElem? (i := 1) rfl) rfl rfl dX0_reckon_57 rfl ?_
          refine vv_iload_n (q := 61) X 0 dX0_reckon_60 rfl rfl rfl ?_
          refine vv_iconst (q := 62) X (2 : Int32) dX0_reckon_61 (by decide) rfl ?_
          refine vv_idiv (q := 63) X dX0_reckon_62 (by decide) rfl ?_
          refine vv_aload_n (q := 64) X 1 dX0_reckon_63 rfl rfl rfl ?_
          refine vv_getf (q := 67) (ref := "HalfLadders$Cutting") (C := RX0) (T := TX0) (N := 2) X 34 0 0 (Nat.le_of_ble_eq_true rfl) rfl rfl (Nat.le_of_ble_eq_true rfl) (fun _ h => List.mem_cons_of_mem _ (List.mem_append_left _ (List.mem_append_right _ h))) (List.mem_of_getElem? (i := 1) rfl) rfl rfl dX0_reckon_64 rfl ?_
          refine vv_iload_n (q := 68) X 0 dX0_reckon_67 rfl rfl rfl ?_
          refine vv_iconst (q := 69) X (2 : Int32) dX0_reckon_68 (by decide) rfl ?_
          refine vv_idiv (q := 70) X dX0_reckon_69 (by decide) rfl ?_
          obtain ⟨hin14, h⟩ := h
          refine vv_iald (q := 71) X 35 5 (Nat.le_of_ble_eq_true rfl) (fun _ => rfl) hin14 dX0_reckon_70 rfl ?_
          refine vv_aload_n (q := 72) X 1 dX0_reckon_71 rfl rfl rfl ?_
          refine vv_getf (q := 75) (ref := "HalfLadders$Cutting") (C := RX0) (T := TX0) (N := 2) X 34 0 1 (Nat.le_of_ble_eq_true rfl) rfl rfl (Nat.le_of_ble_eq_true rfl) (fun _ h => List.mem_cons_of_mem _ (List.mem_append_left _ (List.mem_append_right _ h))) (List.mem_of_getElem? (i := 2) rfl) rfl rfl dX0_reckon_72 rfl ?_
          refine vv_iload_n (q := 76) X 3 dX0_reckon_75 rfl rfl rfl ?_
          obtain ⟨hin15, h⟩ := h
          refine vv_iald (q := 77) X 36 256 (Nat.le_of_ble_eq_true rfl) (fun _ => rfl) hin15 dX0_reckon_76 rfl ?_
          refine vv_cSi (q := 80) X [.int (σ8.1 35 (r9 / (2 : Int32)).toNatClampNeg), .int (σ8.1 36 x2.toNatClampNeg)] (kX0_fewer l D X.2.2.1 h) (va_cwS 2 X.1.2.2.2.2 gX0_reckon_X0_fewer rfl rfl rfl (by decide +kernel) ⟨Nat.le_of_ble_eq_true rfl, Nat.le_of_ble_eq_true rfl⟩) rfl rfl (Nat.le_of_ble_eq_true rfl) dX0_reckon_77 rfl (fun r16 u9 h9 => ?_)
          obtain ⟨h9, hu9⟩ := h9
          subst u9
          have h := h9
          obtain ⟨hin17, h⟩ := h
          refine vv_iast (q := 81) X 35 5 (Nat.le_of_ble_eq_true rfl) (fun _ => rfl) hin17 dX0_reckon_80 rfl ?_
          refine vv_nm (fun σ18 hσ18 => ?_)
          have h := h σ18 hσ18
          obtain ⟨z19, hz19⟩ : ∃ y : Int32, y = x2 + (1 : Int32) := ⟨_, rfl⟩
          have h := h z19 hz19
          refine vv_iinc (v := z19) (lv2 := [(2, .int z19), (3, .int r9), (0, .ref (ad 34)), (1, .ref (ad f1))]) (q := 84) X 3 dX0_reckon_81 rfl (by rw [hz19]; rfl) (Nat.le_of_ble_eq_true rfl) rfl rfl ?_
          refine vv_goto X 18 dX0_reckon_84 (by decide) ?_
          refine vv_sub (lv' := [(0, .ref (ad 34)), (1, .ref (ad f1)), (2, .int z19)]) [2, 3, 0] rfl ?_
          exact ih σ18 z19 h

def wX0_reckon (σ : St) (a1 : Nat) (P : St → Prop) : Prop :=
isO a1 ∧
∀ σ1 : St, σ1 = sF σ 35 5 (-9 : Int32) →
vp_in (0 : Int32) 256 ∧
∀ σ3 : St, σ3 = sI σ1 36 (0 : Int32).toNatClampNeg (0 : Int32) →
∃ n21 : Nat, wLX0_reckon_18 a1 (fun (σ20 : St) =>
P σ20) P n21 σ3 (1 : Int32)

set_option maxHeartbeats 8000000 in
set_option maxRecDepth 100000 in
theorem kX0_reckon (l : Launch) (D : va_G) {cy : Nat → ClassId} {ad : Nat → Nat} {zb : Nat → Nat} (hw : xOk (wC ad cy zb)) {σ : St} {a1 : Nat} {P : St → Prop} (h : wX0_reckon σ a1 P) : MV l yX0_reckon wsX0_reckon rmX0_reckon D cy (wC ad cy zb) [.ref (ad 34), .ref (ad a1)] σ P := by
  unfold MV
  refine vv_met (cc := cX0_reckon) (maxL := 4) (ret := none) hw (by decide +kernel) rfl [.ref (ad 34), .ref (ad a1)] (Nat.le_of_ble_eq_true rfl) ?_
  intro p e s m args below meth c X hr
  have X : XX p s m args meth c cX0_reckon 4 D cy (wC ad cy zb) wsX0_reckon RX0 := X
  refine vv_sub (lv' := [(0, .ref (ad 34)), (1, .ref (ad a1))]) [0, 1] rfl ?_
  rw [wX0_reckon] at h
  obtain ⟨ha1, h⟩ := h
  refine vv_aload_n (q := 1) X 0 dX0_reckon_0 rfl rfl rfl ?_
  refine vv_getf (q := 4) (ref := "HalfLadders$Cutting") (C := RX0) (T := TX0) (N := 2) X 34 0 0 (Nat.le_of_ble_eq_true rfl) rfl rfl (Nat.le_of_ble_eq_true rfl) (fun _ h => List.mem_cons_of_mem _ (List.mem_append_left _ (List.mem_append_right _ h))) (List.mem_of_getElem? (i := 1) rfl) rfl rfl dX0_reckon_1 rfl ?_
  refine vv_bipush (q := 6) X (-9 : Int32) dX0_reckon_4 (by decide) rfl ?_
  refine vv_cSv (q := 9) (P := fun u => u = sF σ 35 5 (-9 : Int32)) X [.ref (ad 35), .int (-9 : Int32)] (kJ7_fill l D X.2.2.1 (k := 35) (n := 5) (Nat.le_of_ble_eq_true rfl) (fun _ => rfl) (Nat.le_of_ble_eq_true rfl) rfl) (va_cwS 2 X.1.2.2.2.2 gX0_reckon_J7_fill_53178 rfl rfl rfl (by decide +kernel) ⟨Nat.le_of_ble_eq_true rfl, Nat.le_of_ble_eq_true rfl⟩) rfl rfl (Nat.le_of_ble_eq_true rfl) dX0_reckon_6 rfl (fun σ1 hσ1 => ?_)
  have h := h σ1 hσ1
  refine vv_aload_n (q := 10) X 0 dX0_reckon_9 rfl rfl rfl ?_
  refine vv_getf (q := 13) (ref := "HalfLadders$Cutting") (C := RX0) (T := TX0) (N := 2) X 34 0 1 (Nat.le_of_ble_eq_true rfl) rfl rfl (Nat.le_of_ble_eq_true rfl) (fun _ h => List.mem_cons_of_mem _ (List.mem_append_left _ (List.mem_append_right _ h))) (List.mem_of_getElem? (i := 2) rfl) rfl rfl dX0_reckon_10 rfl ?_
  refine vv_iconst (q := 14) X (0 : Int32) dX0_reckon_13 (by decide) rfl ?_
  refine vv_iconst (q := 15) X (0 : Int32) dX0_reckon_14 (by decide) rfl ?_
  obtain ⟨hin2, h⟩ := h
  refine vv_iast (q := 16) X 36 256 (Nat.le_of_ble_eq_true rfl) (fun _ => rfl) hin2 dX0_reckon_15 rfl ?_
  refine vv_nm (fun σ3 hσ3 => ?_)
  have h := h σ3 hσ3
  refine vv_iconst (q := 17) X (1 : Int32) dX0_reckon_16 (by decide) rfl ?_
  refine vv_istore_n (lv2 := [(2, .int (1 : Int32)), (0, .ref (ad 34)), (1, .ref (ad a1))]) (q := 18) X dX0_reckon_17 rfl (Nat.le_of_ble_eq_true rfl) rfl rfl ?_
  obtain ⟨n21, h⟩ := h
  refine vv_sub (lv' := [(0, .ref (ad 34)), (1, .ref (ad a1)), (2, .int (1 : Int32))]) [1, 2, 0] rfl ?_
  refine twLX0_reckon_18 X hr a1 ha1 _ ?_ n21 σ3 (1 : Int32) h
  intro σ20 h
  exact vv_vret X hr dX0_reckon_87 h

