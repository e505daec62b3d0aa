/-! X4_listOf: listOf(LHalfLadders$Orchard;I)V -/
def rmX4_listOf : Room := { frames := 3, cells := 0, slots := 0, locals := 65 }
def wLX4_listOf_2 (f1 : Nat) (f2 : Int32)  (K141 : St → Prop) (P : St → Prop) : Nat → St → Int32 → Prop
  | 0, _, _ => False
  | n + 1, σ, x3 =>
    ((σ.1 f1 0) ≤ x3 →
    K141 σ) ∧
    (¬ (σ.1 f1 0) ≤ x3 →
    wX3_fits σ f1 f2 x3 (fun r2 : Int32 =>
    (r2 = 0 →
    ∀ z4 : Int32, z4 = x3 + (1 : Int32) →
    wLX4_listOf_2 f1 f2 K141 P n σ z4) ∧
    (¬ r2 = 0 →
    ((16 : Int32) ≤ (σ.1 25 0) →
    ∀ z6 : Int32, z6 = x3 + (1 : Int32) →
    wLX4_listOf_2 f1 f2 K141 P n σ z6) ∧
    (¬ (16 : Int32) ≤ (σ.1 25 0) →
    vp_in (σ.1 25 0) 16 ∧
    ∀ σ8 : St, σ8 = sI σ 26 (σ.1 25 0).toNatClampNeg f2 →
    vp_in (σ8.1 25 0) 16 ∧
    ∀ σ10 : St, σ10 = sI σ8 27 (σ8.1 25 0).toNatClampNeg x3 →
    vp_in (σ10.1 25 0) 16 ∧
    ∀ σ12 : St, σ12 = sI σ10 28 (σ10.1 25 0).toNatClampNeg (((1 : Int32) <<< (f2 &&& 31)) ||| ((1 : Int32) <<< (x3 &&& 31))) →
    vp_in f2 8 ∧
    vp_in (σ12.1 25 0) 16 ∧
    ∀ σ15 : St, σ15 = sI σ12 29 (σ12.1 25 0).toNatClampNeg (σ12.1 (f1 + 2) f2.toNatClampNeg) →
    vp_in f2 8 ∧
    vp_in x3 8 ∧
    vp_in (σ15.1 25 0) 16 ∧
    ∀ σ19 : St, σ19 = sI σ15 30 (σ15.1 25 0).toNatClampNeg (if (σ15.1 (f1 + 3) x3.toNatClampNeg) < (σ15.1 (f1 + 3) f2.toNatClampNeg) then (σ15.1 (f1 + 3) x3.toNatClampNeg) else (σ15.1 (f1 + 3) f2.toNatClampNeg)) →
    vp_in f2 8 ∧
    vp_in x3 8 ∧
    vp_in (σ19.1 25 0) 16 ∧
    ∀ σ23 : St, σ23 = sI σ19 31 (σ19.1 25 0).toNatClampNeg ((σ19.1 (f1 + 4) f2.toNatClampNeg) + (σ19.1 (f1 + 4) x3.toNatClampNeg)) →
    ∀ σ24 : St, σ24 = sI σ23 25 0 ((σ23.1 25 0) + (1 : Int32)) →
    ∀ z25 : Int32, z25 = x3 + (1 : Int32) →
    wLX4_listOf_2 f1 f2 K141 P n σ24 z25))))

set_option maxHeartbeats 4000000 in
set_option maxRecDepth 100000 in
theorem twLX4_listOf_2 {p : Program} {l : Launch} {e : Env} {s : State} {m : MethodId} {args : Array Value} {below : List Frame} {meth : Method} {c : Code} {D : va_G} {cy : Nat → ClassId} {ad : Nat → Nat} {zb : Nat → Nat} (X : XX p s m args meth c cX4_listOf 4 D cy (wC ad cy zb) wsX4_listOf RX4) (hr : meth.sig.returnType = none) (f1 : Nat) (f2 : Int32) (hf1 : isO f1)  (K141 : St → Prop) {P : St → Prop} (hK141 : ∀ (σ : St), K141 σ → VV p l e rmX4_listOf s m args below meth c (MQ below (va_Qv P (xPost D (wC ad cy zb)) (xA (wC ad cy zb))) args s 0 0 (xA (wC ad cy zb))) 4 D (wC ad cy zb) σ 141 [] []) : ∀ (n : Nat) (σ : St) (x3 : Int32), wLX4_listOf_2 f1 f2 K141 P n σ x3 → VV p l e rmX4_listOf s m args below meth c (MQ below (va_Qv P (xPost D (wC ad cy zb)) (xA (wC ad cy zb))) args s 0 0 (xA (wC ad cy zb))) 4 D (wC ad cy zb) σ 2 [(0, .ref (ad 25)), (1, .ref (ad f1)), (2, .int f2), (3, .int x3)] [] := by
  intro n
  induction n with
  | zero => intro σ x3 h; exact h.elim
  | succ n ih =>
    intro σ x3 h
    rw [wLX4_listOf_2] at h
    refine vv_iload_n (q := 3) X 3 dX4_listOf_2 rfl rfl rfl ?_
    refine vv_aload_n (q := 4) X 1 dX4_listOf_3 rfl rfl rfl ?_
    refine vv_getf (q := 7) (ref := "HalfLadders$Orchard") (C := RX3) (T := TX3) (N := 10) X f1 3 0 (isO_lt 0 hf1 (Nat.le_of_ble_eq_true rfl)) (e_isO (ad := ad) (cy := cy) hf1 _ _) rfl (Nat.le_of_ble_eq_true rfl) (fun _ h => List.mem_cons_of_mem _ (List.mem_append_left _ (List.mem_append_right _ h))) (List.mem_of_getElem? (i := 1) rfl) rfl rfl dX4_listOf_4 rfl ?_
    refine vv_icmp_ge (q := 10) X 141 dX4_listOf_7 (by decide) rfl (fun c1 => ?_) (fun c1 => ?_)
    · have h := h.1 c1
      refine vv_sub (lv' := []) [] rfl ?_
      exact hK141 σ h
    · have h := h.2 c1
      refine vv_aload_n (q := 11) X 1 dX4_listOf_10 rfl rfl rfl ?_
      refine vv_iload_n (q := 12) X 2 dX4_listOf_11 rfl rfl rfl ?_
      refine vv_iload_n (q := 13) X 3 dX4_listOf_12 rfl rfl rfl ?_
      refine vv_cVi (q := 16) (C := RX3) X f1 3 [.int f2, .int x3] (kX3_fits l D X.2.2.1 h) (cwV 2 X.1.2.2.2.2 gX4_listOf_X3_fits rfl rfl rfl (by decide +kernel) ⟨Nat.le_of_ble_eq_true rfl, Nat.le_of_ble_eq_true rfl⟩) (isO_lt 0 hf1 (Nat.le_of_ble_eq_true rfl)) (e_isO (ad := ad) (cy := cy) hf1 _ _) rfl rfl rfl (Nat.le_of_ble_eq_true rfl) dX4_listOf_13 rfl (fun r2 u9 h9 => ?_)
      obtain ⟨h9, hu9⟩ := h9
      subst u9
      have h := h9
      refine vv_if_eq (q := 19) X 135 dX4_listOf_16 (by decide) rfl (fun c3 => ?_) (fun c3 => ?_)
      · have h := h.1 c3
        obtain ⟨z4, hz4⟩ : ∃ y : Int32, y = x3 + (1 : Int32) := ⟨_, rfl⟩
        have h := h z4 hz4
        refine vv_iinc (v := z4) (lv2 := [(3, .int z4), (0, .ref (ad 25)), (1, .ref (ad f1)), (2, .int f2)]) (q := 138) X 3 dX4_listOf_135 rfl (by rw [hz4]; rfl) (Nat.le_of_ble_eq_true rfl) rfl rfl ?_
        refine vv_goto X 2 dX4_listOf_138 (by decide) ?_
        refine vv_sub (lv' := [(0, .ref (ad 25)), (1, .ref (ad f1)), (2, .int f2), (3, .int z4)]) [1, 2, 3, 0] rfl ?_
        exact ih σ z4 h
      · have h := h.2 c3
        refine vv_aload_n (q := 20) X 0 dX4_listOf_19 rfl rfl rfl ?_
        refine vv_getf (q := 23) (ref := "HalfLadders$Pairs") (C := RX4) (T := TX4) (N := 8) X 25 4 0 (Nat.le_of_ble_eq_true rfl) rfl rfl (Nat.le_of_ble_eq_true rfl) (fun _ h => List.mem_cons_of_mem _ (List.mem_append_right _ h)) (List.mem_of_getElem? (i := 2) rfl) rfl rfl dX4_listOf_20 rfl ?_
        refine vv_bipush (q := 25) X (16 : Int32) dX4_listOf_23 (by decide) rfl ?_
        refine vv_icmp_ge (q := 28) X 135 dX4_listOf_25 (by decide) rfl (fun c5 => ?_) (fun c5 => ?_)
        · have h := h.1 c5
          obtain ⟨z6, hz6⟩ : ∃ y : Int32, y = x3 + (1 : Int32) := ⟨_, rfl⟩
          have h := h z6 hz6
          refine vv_iinc (v := z6) (lv2 := [(3, .int z6), (0, .ref (ad 25)), (1, .ref (ad f1)), (2, .int f2)]) (q := 138) X 3 dX4_listOf_135 rfl (by rw [hz6]; rfl) (Nat.le_of_ble_eq_true rfl) rfl rfl ?_
          refine vv_goto X 2 dX4_listOf_138 (by decide) ?_
          refine vv_sub (lv' := [(0, .ref (ad 25)), (1, .ref (ad f1)), (2, .int f2), (3, .int z6)]) [1, 2, 3, 0] rfl ?_
          exact ih σ z6 h
        · have h := h.2 c5
          refine vv_aload_n (q := 29) X 0 dX4_listOf_28 rfl rfl rfl ?_
          refine vv_getf (q := 32) (ref := "HalfLadders$Pairs") (C := RX4) (T := TX4) (N := 8) X 25 4 2 (Nat.le_of_ble_eq_true rfl) rfl rfl (Nat.le_of_ble_eq_true rfl) (fun _ h => List.mem_cons_of_mem _ (List.mem_append_right _ h)) (List.mem_of_getElem? (i := 3) rfl) rfl rfl dX4_listOf_29 rfl ?_
          refine vv_aload_n (q := 33) X 0 dX4_listOf_32 rfl rfl rfl ?_
          refine vv_getf (q := 36) (ref := "HalfLadders$Pairs") (C := RX4) (T := TX4) (N := 8) X 25 4 0 (Nat.le_of_ble_eq_true rfl) rfl rfl (Nat.le_of_ble_eq_true rfl) (fun _ h => List.mem_cons_of_mem _ (List.mem_append_right _ h)) (List.mem_of_getElem? (i := 2) rfl) rfl rfl dX4_listOf_33 rfl ?_
          refine vv_iload_n (q := 37) X 2 dX4_listOf_36 rfl rfl rfl ?_
          obtain ⟨hin7, h⟩ := h
          refine vv_iast (q := 38) X 26 16 (Nat.le_of_ble_eq_true rfl) (fun _ => rfl) hin7 dX4_listOf_37 rfl ?_
          refine vv_nm (fun σ8 hσ8 => ?_)
          have h := h σ8 hσ8
          refine vv_aload_n (q := 39) X 0 dX4_listOf_38 rfl rfl rfl ?_
          refine vv_getf (q := 42) (ref := "HalfLadders$Pairs") (C := RX4) (T := TX4) (N := 8) X 25 4 3 (Nat.le_of_ble_eq_true rfl) rfl rfl (Nat.le_of_ble_eq_true rfl) (fun _ h => List.mem_cons_of_mem _ (List.mem_append_right _ h)) (List.mem_of_getElem? (i := 4) rfl) rfl rfl dX4_listOf_39 rfl ?_
          refine vv_aload_n (q := 43) X 0 dX4_listOf_42 rfl rfl rfl ?_
          refine vv_getf (q := 46) (ref := "HalfLadders$Pairs") (C := RX4) (T := TX4) (N := 8) X 25 4 0 (Nat.le_of_ble_eq_true rfl) rfl rfl (Nat.le_of_ble_eq_true rfl) (fun _ h => List.mem_cons_of_mem _ (List.mem_append_right _ h)) (List.mem_of_getElem? (i := 2) rfl) rfl rfl dX4_listOf_43 rfl ?_
          refine vv_iload_n (q := 47) X 3 dX4_listOf_46 rfl rfl rfl ?_
          obtain ⟨hin9, h⟩ := h
          refine vv_iast (q := 48) X 27 16 (Nat.le_of_ble_eq_true rfl) (fun _ => rfl) hin9 dX4_listOf_47 rfl ?_
          refine vv_nm (fun σ10 hσ10 => ?_)
          have h := h σ10 hσ10
          refine vv_aload_n (q := 49) X 0 dX4_listOf_48 rfl rfl rfl ?_
          refine vv_getf (q := 52) (ref := "HalfLadders$Pairs") (C := RX4) (T := TX4) (N := 8) X 25 4 4 (Nat.le_of_ble_eq_true rfl) rfl rfl (Nat.le_of_ble_eq_true rfl) (fun _ h => List.mem_cons_of_mem _ (List.mem_append_right _ h)) (List.mem_of_getElem? (i := 5) rfl) rfl rfl dX4_listOf_49 rfl ?_
          refine vv_aload_n (q := 53) X 0 dX4_listOf_52 rfl rfl rfl ?_
          refine vv_getf (q := 56) (ref := "HalfLadders$Pairs") (C := RX4) (T := TX4) (N := 8) X 25 4 0 (Nat.le_of_ble_eq_true rfl) rfl rfl (Nat.le_of_ble_eq_true rfl) (fun _ h => List.mem_cons_of_mem _ (List.mem_append_right _ h)) (List.mem_of_getElem? (i := 2) rfl) rfl rfl dX4_listOf_53 rfl ?_
          refine vv_iconst (q := 57) X (1 : Int32) dX4_listOf_56 (by decide) rfl ?_
          refine vv_iload_n (q := 58) X 2 dX4_listOf_57 rfl rfl rfl ?_
          refine vv_ishl (q := 59) X dX4_listOf_58 rfl ?_
          refine vv_iconst (q := 60) X (1 : Int32) dX4_listOf_59 (by decide) rfl ?_
          refine vv_iload_n (q := 61) X 3 dX4_listOf_60 rfl rfl rfl ?_
          refine vv_ishl (q := 62) X dX4_listOf_61 rfl ?_
          refine vv_ior (q := 63) X dX4_listOf_62 rfl ?_
          obtain ⟨hin11, h⟩ := h
          refine vv_iast (q := 64) X 28 16 (Nat.le_of_ble_eq_true rfl) (fun _ => rfl) hin11 dX4_listOf_63 rfl ?_
          refine vv_nm (fun σ12 hσ12 => ?_)
          have h := h σ12 hσ12
          refine vv_aload_n (q := 65) X 0 dX4_listOf_64 rfl rfl rfl ?_
          refine vv_getf (q := 68) (ref := "HalfLadders$Pairs") (C := RX4) (T := TX4) (N := 8) X 25 4 5 (Nat.le_of_ble_eq_true rfl) rfl rfl (Nat.le_of_ble_eq_true rfl) (fun _ h => List.mem_cons_of_mem _ (List.mem_append_right _ h)) (List.mem_of_getElem? (i := 6) rfl) rfl rfl dX4_listOf_65 rfl ?_
          refine vv_aload_n (q := 69) X 0 dX4_listOf_68 rfl rfl rfl ?_
          refine vv_getf (q := 72) (ref := "HalfLadders$Pairs") (C := RX4) (T := TX4) (N := 8) X 25 4 0 (Nat.le_of_ble_eq_true rfl) rfl rfl (Nat.le_of_ble_eq_true rfl) (fun _ h => List.mem_cons_of_mem _ (List.mem_append_right _ h)) (List.mem_of_getElem? (i := 2) rfl) rfl rfl dX4_listOf_69 rfl ?_
          refine vv_aload_n (q := 73) X 1 dX4_listOf_72 rfl rfl rfl ?_
          refine vv_getf (q := 76) (ref := "HalfLadders$Orchard") (C := RX3) (T := TX3) (N := 10) X f1 3 3 (isO_lt 0 hf1 (Nat.le_of_ble_eq_true rfl)) (e_isO (ad := ad) (cy := cy) hf1 _ _) rfl (Nat.le_of_ble_eq_true rfl) (fun _ h => List.mem_cons_of_mem _ (List.mem_append_left _ (List.mem_append_right _ h))) (List.mem_of_getElem? (i := 7) rfl) rfl rfl dX4_listOf_73 rfl ?_
          refine vv_iload_n (q := 77) X 2 dX4_listOf_76 rfl rfl rfl ?_
          obtain ⟨hin13, h⟩ := h
          refine vv_iald (q := 78) X (f1 + 2) 8 (isO_lt 2 hf1 (Nat.le_of_ble_eq_true rfl)) (fun f => e_isO_2 (ad := ad) (cy := cy) hf1 f σ12.2) hin13 dX4_listOf_77 rfl ?_
          obtain ⟨hin14, h⟩ := h
          refine vv_iast (q := 79) X 29 16 (Nat.le_of_ble_eq_true rfl) (fun _ => rfl) hin14 dX4_listOf_78 rfl ?_
          refine vv_nm (fun σ15 hσ15 => ?_)
          have h := h σ15 hσ15
          refine vv_aload_n (q := 80) X 0 dX4_listOf_79 rfl rfl rfl ?_
          refine vv_getf (q := 83) (ref := "HalfLadders$Pairs") (C := RX4) (T := TX4) (N := 8) X 25 4 6 (Nat.le_of_ble_eq_true rfl) rfl rfl (Nat.le_of_ble_eq_true rfl) (fun _ h => List.mem_cons_of_mem _ (List.mem_append_right _ h)) (List.mem_of_getElem? (i := 8) rfl) rfl rfl dX4_listOf_80 rfl ?_
          refine vv_aload_n (q := 84) X 0 dX4_listOf_83 rfl rfl rfl ?_
          refine vv_getf (q := 87) (ref := "HalfLadders$Pairs") (C := RX4) (T := TX4) (N := 8) X 25 4 0 (Nat.le_of_ble_eq_true rfl) rfl rfl (Nat.le_of_ble_eq_true rfl) (fun _ h => List.mem_cons_of_mem _ (List.mem_append_right _ h)) (List.mem_of_getElem? (i := 2) rfl) rfl rfl dX4_listOf_84 rfl ?_
          refine vv_aload_n (q := 88) X 1 dX4_listOf_87 rfl rfl rfl ?_
          refine vv_getf (q := 91) (ref := "HalfLadders$Orchard") (C := RX3) (T := TX3) (N := 10) X f1 3 4 (isO_lt 0 hf1 (Nat.le_of_ble_eq_true rfl)) (e_isO (ad := ad) (cy := cy) hf1 _ _) rfl (Nat.le_of_ble_eq_true rfl) (fun _ h => List.mem_cons_of_mem _ (List.mem_append_left _ (List.mem_append_right _ h))) (List.mem_of_getElem? (i := 9) rfl) rfl rfl dX4_listOf_88 rfl ?_
          refine vv_iload_n (q := 92) X 2 dX4_listOf_91 rfl rfl rfl ?_
          obtain ⟨hin16, h⟩ := h
          refine vv_iald (q := 93) X (f1 + 3) 8 (isO_lt 3 hf1 (Nat.le_of_ble_eq_true rfl)) (fun f => e_isO_3 (ad := ad) (cy := cy) hf1 f σ15.2) hin16 dX4_listOf_92 rfl ?_
          refine vv_aload_n (q := 94) X 1 dX4_listOf_93 rfl rfl rfl ?_
          refine vv_getf (q := 97) (ref := "HalfLadders$Orchard") (C := RX3) (T := TX3) (N := 10) X f1 3 4 (isO_lt 0 hf1 (Nat.le_of_ble_eq_true rfl)) (e_isO (ad := ad) (cy := cy) hf1 _ _) rfl (Nat.le_of_ble_eq_true rfl) (fun _ h => List.mem_cons_of_mem _ (List.mem_append_left _ (List.mem_append_right _ h))) (List.mem_of_getElem? (i := 9) rfl) rfl rfl dX4_listOf_94 rfl ?_
          refine vv_iload_n (q := 98) X 3 dX4_listOf_97 rfl rfl rfl ?_
          obtain ⟨hin17, h⟩ := h
          refine vv_iald (q := 99) X (f1 + 3) 8 (isO_lt 3 hf1 (Nat.le_of_ble_eq_true rfl)) (fun f => e_isO_3 (ad := ad) (cy := cy) hf1 f σ15.2) hin17 dX4_listOf_98 rfl ?_
          refine vv_mmin (q := 102) X (List.mem_of_getElem? (i := 10) rfl) (List.mem_of_getElem? (i := 11) rfl) (List.mem_of_getElem? (i := 12) rfl) (List.mem_of_getElem? (i := 13) rfl) (Nat.le_of_ble_eq_true rfl) (Nat.le_of_ble_eq_true rfl) dX4_listOf_99 rfl ?_
          obtain ⟨hin18, h⟩ := h
          refine vv_iast (q := 103) X 30 16 (Nat.le_of_ble_eq_true rfl) (fun _ => rfl) hin18 dX4_listOf_102 rfl ?_
          refine vv_nm (fun σ19 hσ19 => ?_)
          have h := h σ19 hσ19
          refine vv_aload_n (q := 104) X 0 dX4_listOf_103 rfl rfl rfl ?_
          refine vv_getf (q := 107) (ref := "HalfLadders$Pairs") (C := RX4) (T := TX4) (N := 8) X 25 4 7 (Nat.le_of_ble_eq_true rfl) rfl rfl (Nat.le_of_ble_eq_true rfl) (fun _ h => List.mem_cons_of_mem _ (List.mem_append_right _ h)) (List.mem_of_getElem? (i := 14) rfl) rfl rfl dX4_listOf_104 rfl ?_
          refine vv_aload_n (q := 108) X 0 dX4_listOf_107 rfl rfl rfl ?_
          refine vv_getf (q := 111) (ref := "HalfLadders$Pairs") (C := RX4) (T := TX4) (N := 8) X 25 4 0 (Nat.le_of_ble_eq_true rfl) rfl rfl (Nat.le_of_ble_eq_true rfl) (fun _ h => List.mem_cons_of_mem _ (List.mem_append_right _ h)) (List.mem_of_getElem? (i := 2) rfl) rfl rfl dX4_listOf_108 rfl ?_
          refine vv_aload_n (q := 112) X 1 dX4_listOf_111 rfl rfl rfl ?_
          refine vv_getf (q := 115) (ref := "HalfLadders$Orchard") (C := RX3) (T := TX3) (N := 10) X f1 3 5 (isO_lt 0 hf1 (Nat.le_of_ble_eq_true rfl)) (e_isO (ad := ad) (cy := cy) hf1 _ _) rfl (Nat.le_of_ble_eq_true rfl) (fun _ h => List.mem_cons_of_mem _ (List.mem_append_left _ (List.mem_append_right _ h))) (List.mem_of_getElem? (i := 15) rfl) rfl rfl dX4_listOf_112 rfl ?_
          refine vv_iload_n (q := 116) X 2 dX4_listOf_115 rfl rfl rfl ?_
          obtain ⟨hin20, h⟩ := h
          refine vv_iald (q := 117) X (f1 + 4) 8 (isO_lt 4 hf1 (Nat.le_of_ble_eq_true rfl)) (fun f => e_isO_4 (ad := ad) (cy := cy) hf1 f σ19.2) hin20 dX4_listOf_116 rfl ?_
          refine vv_aload_n (q := 118) X 1 dX4_listOf_117 rfl rfl rfl ?_
          refine vv_getf (q := 121) (ref := "HalfLadders$Orchard") (C := RX3) (T := TX3) (N := 10) X f1 3 5 (isO_lt 0 hf1 (Nat.le_of_ble_eq_true rfl)) (e_isO (ad := ad) (cy := cy) hf1 _ _) rfl (Nat.le_of_ble_eq_true rfl) (fun _ h => List.mem_cons_of_mem _ (List.mem_append_left _ (List.mem_append_right _ h))) (List.mem_of_getElem? (i := 15) rfl) rfl rfl dX4_listOf_118 rfl ?_
          refine vv_iload_n (q := 122) X 3 dX4_listOf_121 rfl rfl rfl ?_
          obtain ⟨hin21, h⟩ := h
          refine vv_iald (q := 123) X (f1 + 4) 8 (isO_lt 4 hf1 (Nat.le_of_ble_eq_true rfl)) (fun f => e_isO_4 (ad := ad) (cy := cy) hf1 f σ19.2) hin21 dX4_listOf_122 rfl ?_
          refine vv_iadd (q := 124) X dX4_listOf_123 rfl ?_
          obtain ⟨hin22, h⟩ := h
          refine vv_iast (q := 125) X 31 16 (Nat.le_of_ble_eq_true rfl) (fun _ => rfl) hin22 dX4_listOf_124 rfl ?_
          refine vv_nm (fun σ23 hσ23 => ?_)
          have h := h σ23 hσ23
          refine vv_aload_n (q := 126) X 0 dX4_listOf_125 rfl rfl rfl ?_
          refine vv_dup (q := 127) X dX4_listOf_126 rfl rfl ?_
          refine vv_getf (q := 130) (ref := "HalfLadders$Pairs") (C := RX4) (T := TX4) (N := 8) X 25 4 0 (Nat.le_of_ble_eq_true rfl) rfl rfl (Nat.le_of_ble_eq_true rfl) (fun _ h => List.mem_cons_of_mem _ (List.mem_append_right _ h)) (List.mem_of_getElem? (i := 2) rfl) rfl rfl dX4_listOf_127 rfl ?_
          refine vv_iconst (q := 131) X (1 : Int32) dX4_listOf_130 (by decide) rfl ?_
          refine vv_iadd (q := 132) X dX4_listOf_131 rfl ?_
          refine vv_putf (q := 135) (ref := "HalfLadders$Pairs") (C := RX4) (T := TX4) (N := 8) X 25 4 0 tyX4 tyX4_ok nmX4 (Nat.le_of_ble_eq_true rfl) rfl rfl rfl (Nat.le_of_ble_eq_true rfl) rfl (fun _ h => List.mem_cons_of_mem _ (List.mem_append_right _ h)) (List.mem_of_getElem? (i := 2) rfl) rfl rfl rfl dX4_listOf_132 rfl ?_
          refine vv_nm (fun σ24 hσ24 => ?_)
          have h := h σ24 hσ24
          obtain ⟨z25, hz25⟩ : ∃ y : Int32, y = x3 + (1 : Int32) := ⟨_, rfl⟩
          have h := h z25 hz25
          refine vv_iinc (v := z25) (lv2 := [(3, .int z25), (0, .ref (ad 25)), (1, .ref (ad f1)), (2, .int f2)]) (q := 138) X 3 dX4_listOf_135 rfl (by rw [hz25]; rfl) (Nat.le_of_ble_eq_true rfl) rfl rfl ?_
          refine vv_goto X 2 dX4_listOf_138 (by decide) ?_
          refine vv_sub (lv' := [(0, .ref (ad 25)), (1, .ref (ad f1)), (2, .int f2), (3, .int z25)]) [1, 2, 3, 0] rfl ?_
          exact ih σ24 z25 h

def wX4_listOf (σ : St) (a1 : Nat) (a2 : Int32) (P : St → Prop) : Prop :=
isO a1 ∧
∃ n27 : Nat, wLX4_listOf_2 a1 a2 (fun (σ26 : St) =>
P σ26) P n27 σ (0 : Int32)

set_option maxHeartbeats 8000000 in
set_option maxRecDepth 100000 in
theorem kX4_listOf (l : Launch) (D : va_G) {cy : Nat → ClassId} {ad : Nat → Nat} {zb : Nat → Nat} (hw : xOk (wC ad cy zb)) {σ : St} {a1 : Nat} {a2 : Int32} {P : St → Prop} (h : wX4_listOf σ a1 a2 P) : MV l yX4_listOf wsX4_listOf rmX4_listOf D cy (wC ad cy zb) [.ref (ad 25), .ref (ad a1), .int a2] σ P := by
  unfold MV
  refine vv_met (cc := cX4_listOf) (maxL := 4) (ret := none) hw (by decide +kernel) rfl [.ref (ad 25), .ref (ad a1), .int a2] (Nat.le_of_ble_eq_true rfl) ?_
  intro p e s m args below meth c X hr
  have X : XX p s m args meth c cX4_listOf 4 D cy (wC ad cy zb) wsX4_listOf RX4 := X
  refine vv_sub (lv' := [(0, .ref (ad 25)), (1, .ref (ad a1)), (2, .int a2)]) [0, 1, 2] rfl ?_
  rw [wX4_listOf] at h
  obtain ⟨ha1, h⟩ := h
  refine vv_iconst (q := 1) X (0 : Int32) dX4_listOf_0 (by decide) rfl ?_
  refine vv_istore_n (lv2 := [(3, .int (0 : Int32)), (0, .ref (ad 25)), (1, .ref (ad a1)), (2, .int a2)]) (q := 2) X dX4_listOf_1 rfl (Nat.le_of_ble_eq_true rfl) rfl rfl ?_
  obtain ⟨n27, h⟩ := h
  refine vv_sub (lv' := [(0, .ref (ad 25)), (1, .ref (ad a1)), (2, .int a2), (3, .int (0 : Int32))]) [1, 2, 3, 0] rfl ?_
  refine twLX4_listOf_2 X hr a1 a2 ha1 _ ?_ n27 σ (0 : Int32) h
  intro σ26 h
  exact vv_vret X hr dX4_listOf_141 h

/-! X4_list: list(LHalfLadders$Orchard;)V -/
def rmX4_list : Room := { frames := 4, cells := 0, slots := 0, locals := 88 }
def wLX4_list_12 (f1 : Nat)  (K53 : St → Prop) (P : St → Prop) : Nat → St → Int32 → Prop
  | 0, _, _ => False
  | n + 1, σ, x2 =>
    ((σ.1 f1 0) ≤ x2 →
    K53 σ) ∧
    (¬ (σ.1 f1 0) ≤ x2 →
    vp_in x2 8 ∧
    (¬ (σ.1 (f1 + 1) x2.toNatClampNeg) = 0 →
    ∀ z6 : Int32, z6 = x2 + (1 : Int32) →
    wLX4_list_12 f1 K53 P n σ z6) ∧
    ((σ.1 (f1 + 1) x2.toNatClampNeg) = 0 →
    ∀ σ7 : St, σ7 = sI σ 25 1 ((σ.1 25 1) ||| ((1 : Int32) <<< (x2 &&& 31))) →
    wX4_listOf σ7 f1 x2 (fun σ8 : St =>
    ∀ z9 : Int32, z9 = x2 + (1 : Int32) →
    wLX4_list_12 f1 K53 P n σ8 z9)))

set_option maxHeartbeats 4000000 in
set_option maxRecDepth 100000 in
theorem twLX4_list_12 {p : Program} {l : Launch} {e : Env} {s : State} {m : MethodId} {args : Array Value} {below : List Frame} {meth : Method} {c : Code} {D : va_G} {cy : Nat → ClassId} {ad : Nat → Nat} {zb : Nat → Nat} (X : XX p s m args meth c cX4_list 3 D cy (wC ad cy zb) wsX4_list RX4) (hr : meth.sig.returnType = none) (f1 : Nat) (hf1 : isO f1)  (K53 : St → Prop) {P : St → Prop} (hK53 : ∀ (σ : St), K53 σ → VV p l e rmX4_list s m args below meth c (MQ below (va_Qv P (xPost D (wC ad cy zb)) (xA (wC ad cy zb))) args s 0 0 (xA (wC ad cy zb))) 3 D (wC ad cy zb) σ 53 [] []) : ∀ (n : Nat) (σ : St) (x2 : Int32), wLX4_list_12 f1 K53 P n σ x2 → VV p l e rmX4_list s m args below meth c (MQ below (va_Qv P (xPost D (wC ad cy zb)) (xA (wC ad cy zb))) args s 0 0 (xA (wC ad cy zb))) 3 D (wC ad cy zb) σ 12 [(0, .ref (ad 25)), (1, .ref (ad f1)), (2, .int x2)] [] := by
  intro n
  induction n with
  | zero => intro σ x2 h; exact h.elim
  | succ n ih =>
    intro σ x2 h
    rw [wLX4_list_12] at h
    refine vv_iload_n (q := 13) X 2 dX4_list_12 rfl rfl rfl ?_
    refine vv_aload_n (q := 14) X 1 dX4_list_13 rfl rfl rfl ?_
    refine vv_getf (q := 17) (ref := "HalfLadders$Orchard") (C := RX3) (T := TX3) (N := 10) X f1 3 0 (isO_lt 0 hf1 (Nat.le_of_ble_eq_true rfl)) (e_isO (ad := ad) (cy := cy) hf1 _ _) rfl (Nat.le_of_ble_eq_true rfl) (fun _ h => List.mem_cons_of_mem _ (List.mem_append_right _ h)) (List.mem_of_getElem? (i := 3) rfl) rfl rfl dX4_list_14 rfl ?_
    refine vv_icmp_ge (q := 20) X 53 dX4_list_17 (by decide) rfl (fun c3 => ?_) (fun c3 => ?_)
    · have h := h.1 c3
      refine vv_sub (lv' := []) [] rfl ?_
      exact hK53 σ h
    · have h := h.2 c3
      refine vv_aload_n (q := 21) X 1 dX4_list_20 rfl rfl rfl ?_
      refine vv_getf (q := 24) (ref := "HalfLadders$Orchard") (C := RX3) (T := TX3) (N := 10) X f1 3 2 (isO_lt 0 hf1 (Nat.le_of_ble_eq_true rfl)) (e_isO (ad := ad) (cy := cy) hf1 _ _) rfl (Nat.le_of_ble_eq_true rfl) (fun _ h => List.mem_cons_of_mem _ (List.mem_append_right _ h)) (List.mem_of_getElem? (i := 4) rfl) rfl rfl dX4_list_21 rfl ?_
      refine vv_iload_n (q := 25) X 2 dX4_list_24 rfl rfl rfl ?_
      obtain ⟨hin4, h⟩ := h
      refine vv_iald (q := 26) X (f1 + 1) 8 (isO_lt 1 hf1 (Nat.le_of_ble_eq_true rfl)) (fun f => e_isO_1 (ad := ad) (cy := cy) hf1 f σ.2) hin4 dX4_list_25 rfl ?_
      refine vv_if_ne (q := 29) X 47 dX4_list_26 (by decide) rfl (fun c5 => ?_) (fun c5 => ?_)
      · have h := h.1 c5
        obtain ⟨z6, hz6⟩ : ∃ y : Int32, y = x2 + (1 : Int32) := ⟨_, rfl⟩
        have h := h z6 hz6
        refine vv_iinc (v := z6) (lv2 := [(2, .int z6), (0, .ref (ad 25)), (1, .ref (ad f1))]) (q := 50) X 2 dX4_list_47 rfl (by rw [hz6]; rfl) (Nat.le_of_ble_eq_true rfl) rfl rfl ?_
        refine vv_goto X 12 dX4_list_50 (by decide) ?_
        refine vv_sub (lv' := [(0, .ref (ad 25)), (1, .ref (ad f1)), (2, .int z6)]) [1, 2, 0] rfl ?_
        exact ih σ z6 h
      · have h := h.2 c5
        refine vv_aload_n (q := 30) X 0 dX4_list_29 rfl rfl rfl ?_
        refine vv_dup (q := 31) X dX4_list_30 rfl rfl ?_
        refine vv_getf (q := 34) (ref := "HalfLadders$Pairs") (C := RX4) (T := TX4) (N := 8) X 25 4 1 (Nat.le_of_ble_eq_true rfl) rfl rfl (Nat.le_of_ble_eq_true rfl) (fun _ h => List.mem_cons_of_mem _ (List.mem_append_left _ (List.mem_append_right _ h))) (List.mem_of_getElem? (i := 2) rfl) rfl rfl dX4_list_31 rfl ?_
        refine vv_iconst (q := 35) X (1 : Int32) dX4_list_34 (by decide) rfl ?_
        refine vv_iload_n (q := 36) X 2 dX4_list_35 rfl rfl rfl ?_
        refine vv_ishl (q := 37) X dX4_list_36 rfl ?_
        refine vv_ior (q := 38) X dX4_list_37 rfl ?_
        refine vv_putf (q := 41) (ref := "HalfLadders$Pairs") (C := RX4) (T := TX4) (N := 8) X 25 4 1 tyX4 tyX4_ok nmX4 (Nat.le_of_ble_eq_true rfl) rfl rfl rfl (Nat.le_of_ble_eq_true rfl) rfl (fun _ h => List.mem_cons_of_mem _ (List.mem_append_left _ (List.mem_append_right _ h))) (List.mem_of_getElem? (i := 2) rfl) rfl rfl rfl dX4_list_38 rfl ?_
        refine vv_nm (fun σ7 hσ7 => ?_)
        have h := h σ7 hσ7
        refine vv_aload_n (q := 42) X 0 dX4_list_41 rfl rfl rfl ?_
        refine vv_aload_n (q := 43) X 1 dX4_list_42 rfl rfl rfl ?_
        refine vv_iload_n (q := 44) X 2 dX4_list_43 rfl rfl rfl ?_
        refine vv_cVv (q := 47) (C := RX4) X 25 4 [.ref (ad f1), .int x2] (kX4_listOf l D X.2.2.1 h) (cwV 2 X.1.2.2.2.2 gX4_list_X4_listOf rfl rfl rfl (by decide +kernel) ⟨Nat.le_of_ble_eq_true rfl, Nat.le_of_ble_eq_true rfl⟩) (Nat.le_of_ble_eq_true rfl) rfl rfl rfl rfl (Nat.le_of_ble_eq_true rfl) dX4_list_44 rfl (fun σ8 h => ?_)
        obtain ⟨z9, hz9⟩ : ∃ y : Int32, y = x2 + (1 : Int32) := ⟨_, rfl⟩
        have h := h z9 hz9
        refine vv_iinc (v := z9) (lv2 := [(2, .int z9), (0, .ref (ad 25)), (1, .ref (ad f1))]) (q := 50) X 2 dX4_list_47 rfl (by rw [hz9]; rfl) (Nat.le_of_ble_eq_true rfl) rfl rfl ?_
        refine vv_goto X 12 dX4_list_50 (by decide) ?_
        refine vv_sub (lv' := [(0, .ref (ad 25)), (1, .ref (ad f1)), (2, .int z9)]) [1, 2, 0] rfl ?_
        exact ih σ8 z9 h

def wX4_list (σ : St) (a1 : Nat) (P : St → Prop) : Prop :=
isO a1 ∧
∀ σ1 : St, σ1 = sI σ 25 0 (0 : Int32) →
∀ σ2 : St, σ2 = sI σ1 25 1 (0 : Int32) →
∃ n11 : Nat, wLX4_list_12 a1 (fun (σ10 : St) =>
P σ10) P n11 σ2 (0 : Int32)

set_option maxHeartbeats 8000000 in
set_option maxRecDepth 100000 in
theorem kX4_list (l : Launch) (D : va_G) {cy : Nat → ClassId} {ad : Nat → Nat} {zb : Nat → Nat} (hw : xOk (wC ad cy zb)) {σ : St} {a1 : Nat} {P : St → Prop} (h : wX4_list σ a1 P) : MV l yX4_list wsX4_list rmX4_list D cy (wC ad cy zb) [.ref (ad 25), .ref (ad a1)] σ P := by
  unfold MV
  refine vv_met (cc := cX4_list) (maxL := 3) (ret := none) hw (by decide +kernel) rfl [.ref (ad 25), .ref (ad a1)] (Nat.le_of_ble_eq_true rfl) ?_
  intro p e s m args below meth c X hr
  have X : XX p s m args meth c cX4_list 3 D cy (wC ad cy zb) wsX4_list RX4 := X
  refine vv_sub (lv' := [(0, .ref (ad 25)), (1, .ref (ad a1))]) [0, 1] rfl ?_
  rw [wX4_list] at h
  obtain ⟨ha1, h⟩ := h
  refine vv_aload_n (q := 1) X 0 dX4_list_0 rfl rfl rfl ?_
  refine vv_iconst (q := 2) X (0 : Int32) dX4_list_1 (by decide) rfl ?_
  refine vv_putf (q := 5) (ref := "HalfLadders$Pairs") (C := RX4) (T := TX4) (N := 8) X 25 4 0 tyX4 tyX4_ok nmX4 (Nat.le_of_ble_eq_true rfl) rfl rfl rfl (Nat.le_of_ble_eq_true rfl) rfl (fun _ h => List.mem_cons_of_mem _ (List.mem_append_left _ (List.mem_append_right _ h))) (List.mem_of_getElem? (i := 1) rfl) rfl rfl rfl dX4_list_2 rfl ?_
  refine vv_nm (fun σ1 hσ1 => ?_)
  have h := h σ1 hσ1
  refine vv_aload_n (q := 6) X 0 dX4_list_5 rfl rfl rfl ?_
  refine vv_iconst (q := 7) X (0 : Int32) dX4_list_6 (by decide) rfl ?_
  refine vv_putf (q := 10) (ref := "HalfLadders$Pairs") (C := RX4) (T := TX4) (N := 8) X 25 4 1 tyX4 tyX4_ok nmX4 (Nat.le_of_ble_eq_true rfl) rfl rfl rfl (Nat.le_of_ble_eq_true rfl) rfl (fun _ h => List.mem_cons_of_mem _ (List.mem_append_left _ (List.mem_append_right _ h))) (List.mem_of_getElem? (i := 2) rfl) rfl rfl rfl dX4_list_7 rfl ?_
  refine vv_nm (fun σ2 hσ2 => ?_)
  have h := h σ2 hσ2
  refine vv_iconst (q := 11) X (0 : Int32) dX4_list_10 (by decide) rfl ?_
  refine vv_istore_n (lv2 := [(2, .int (0 : Int32)), (0, .ref (ad 25)), (1, .ref (ad a1))]) (q := 12) X dX4_list_11 rfl (Nat.le_of_ble_eq_true rfl) rfl rfl ?_
  obtain ⟨n11, h⟩ := h
  refine vv_sub (lv' := [(0, .ref (ad 25)), (1, .ref (ad a1)), (2, .int (0 : Int32))]) [1, 2, 0] rfl ?_
  refine twLX4_list_12 X hr a1 ha1 _ ?_ n11 σ2 (0 : Int32) h
  intro σ10 h
  exact vv_vret X hr dX4_list_53 h

/-! X4_indexOf: indexOf(I)I -/
def rmX4_indexOf : Room := { frames := 0, cells := 0, slots := 0, locals := 0 }
def wLX4_indexOf_2 (f1 : Int32) (σ : St) (K28 : Prop) (P : Int32 → Prop) : Nat → Int32 → Prop
  | 0, _ => False
  | n + 1, x2 =>
    ((σ.1 25 0) ≤ x2 →
    K28) ∧
    (¬ (σ.1 25 0) ≤ x2 →
    vp_in x2 16 ∧
    (¬ (σ.1 28 x2.toNatClampNeg) = f1 →
    ∀ z4 : Int32, z4 = x2 + (1 : Int32) →
    wLX4_indexOf_2 f1 σ K28 P n z4) ∧
    ((σ.1 28 x2.toNatClampNeg) = f1 →
    P x2))

set_option maxHeartbeats 4000000 in
set_option maxRecDepth 100000 in
theorem twLX4_indexOf_2 {p : Program} {l : Launch} {e : Env} {s : State} {m : MethodId} {args : Array Value} {below : List Frame} {meth : Method} {c : Code} {D : va_G} {cy : Nat → ClassId} {ad : Nat → Nat} {zb : Nat → Nat} (X : XX p s m args meth c cX4_indexOf 3 D cy (wC ad cy zb) wsX4_indexOf RX4) (hr : meth.sig.returnType = (some .int)) (f1 : Int32)  (σ : St) (K28 : Prop) {P : Int32 → Prop} (hK28 : K28 → VV p l e rmX4_indexOf s m args below meth c (MQ below (va_Qi (fun r u => P r ∧ u = σ) (xPost D (wC ad cy zb)) (xA (wC ad cy zb))) args s 0 0 (xA (wC ad cy zb))) 3 D (wC ad cy zb) σ 28 [] []) : ∀ (n : Nat) (x2 : Int32), wLX4_indexOf_2 f1 σ K28 P n x2 → VV p l e rmX4_indexOf s m args below meth c (MQ below (va_Qi (fun r u => P r ∧ u = σ) (xPost D (wC ad cy zb)) (xA (wC ad cy zb))) args s 0 0 (xA (wC ad cy zb))) 3 D (wC ad cy zb) σ 2 [(0, .ref (ad 25)), (1, .int f1), (2, .int x2)] [] := by
  intro n
  induction n with
  | zero => intro x2 h; exact h.elim
  | succ n ih =>
    intro x2 h
    rw [wLX4_indexOf_2] at h
    refine vv_iload_n (q := 3) X 2 dX4_indexOf_2 rfl rfl rfl ?_
    refine vv_aload_n (q := 4) X 0 dX4_indexOf_3 rfl rfl rfl ?_
    refine vv_getf (q := 7) (ref := "HalfLadders$Pairs") (C := RX4) (T := TX4) (N := 8) X 25 4 0 (Nat.le_of_ble_eq_true rfl) rfl rfl (Nat.le_of_ble_eq_true rfl) (fun _ h => List.mem_cons_of_mem _ (List.mem_append_right _ h)) (List.mem_of_getElem? (i := 1) rfl) rfl rfl dX4_indexOf_4 rfl ?_
    refine vv_icmp_ge (q := 10) X 28 dX4_indexOf_7 (by decide) rfl (fun c1 => ?_) (fun c1 => ?_)
    · have h := h.1 c1
      refine vv_sub (lv' := []) [] rfl ?_
      exact hK28  h
    · have h := h.2 c1
      refine vv_aload_n (q := 11) X 0 dX4_indexOf_10 rfl rfl rfl ?_
      refine vv_getf (q := 14) (ref := "HalfLadders$Pairs") (C := RX4) (T := TX4) (N := 8) X 25 4 4 (Nat.le_of_ble_eq_true rfl) rfl rfl (Nat.le_of_ble_eq_true rfl) (fun _ h => List.mem_cons_of_mem _ (List.mem_append_right _ h)) (List.mem_of_getElem? (i := 2) rfl) rfl rfl dX4_indexOf_11 rfl ?_
      refine vv_iload_n (q := 15) X 2 dX4_indexOf_14 rfl rfl rfl ?_
      obtain ⟨hin2, h⟩ := h
      refine vv_iald (q := 16) X 28 16 (Nat.le_of_ble_eq_true rfl) (fun _ => rfl) hin2 dX4_indexOf_15 rfl ?_
      refine vv_iload_n (q := 17) X 1 dX4_indexOf_16 rfl rfl rfl ?_
      refine vv_icmp_ne (q := 20) X 22 dX4_indexOf_17 (by decide) rfl (fun c3 => ?_) (fun c3 => ?_)
      · have h := h.1 c3
        obtain ⟨z4, hz4⟩ : ∃ y : Int32, y = x2 + (1 : Int32) := ⟨_, rfl⟩
        have h := h z4 hz4
        refine vv_iinc (v := z4) (lv2 := [(2, .int z4), (0, .ref (ad 25)), (1, .int f1)]) (q := 25) X 2 dX4_indexOf_22 rfl (by rw [hz4]; rfl) (Nat.le_of_ble_eq_true rfl) rfl rfl ?_
        refine vv_goto X 2 dX4_indexOf_25 (by decide) ?_
        refine vv_sub (lv' := [(0, .ref (ad 25)), (1, .int f1), (2, .int z4)]) [1, 2, 0] rfl ?_
        exact ih z4 h
      · have h := h.2 c3
        refine vv_iload_n (q := 21) X 2 dX4_indexOf_20 rfl rfl rfl ?_
        exact vv_iret X hr dX4_indexOf_21 ⟨h, rfl⟩

def wX4_indexOf (σ : St) (a1 : Int32) (P : Int32 → Prop) : Prop :=
∃ n5 : Nat, wLX4_indexOf_2 a1 σ (P (-1 : Int32)) P n5 (0 : Int32)

set_option maxHeartbeats 8000000 in
set_option maxRecDepth 100000 in
theorem kX4_indexOf (l : Launch) (D : va_G) {cy : Nat → ClassId} {ad : Nat → Nat} {zb : Nat → Nat} (hw : xOk (wC ad cy zb)) {σ : St} {a1 : Int32} {P : Int32 → Prop} (h : wX4_indexOf σ a1 P) : MI l yX4_indexOf wsX4_indexOf rmX4_indexOf D cy (wC ad cy zb) [.ref (ad 25), .int a1] σ (fun r u => P r ∧ u = σ) := by
  unfold MI
  refine vv_met (cc := cX4_indexOf) (maxL := 3) (ret := (some .int)) hw (by decide +kernel) rfl [.ref (ad 25), .int a1] (Nat.le_of_ble_eq_true rfl) ?_
  intro p e s m args below meth c X hr
  have X : XX p s m args meth c cX4_indexOf 3 D cy (wC ad cy zb) wsX4_indexOf RX4 := X
  refine vv_sub (lv' := [(0, .ref (ad 25)), (1, .int a1)]) [0, 1] rfl ?_
  rw [wX4_indexOf] at h
  refine vv_iconst (q := 1) X (0 : Int32) dX4_indexOf_0 (by decide) rfl ?_
  refine vv_istore_n (lv2 := [(2, .int (0 : Int32)), (0, .ref (ad 25)), (1, .int a1)]) (q := 2) X dX4_indexOf_1 rfl (Nat.le_of_ble_eq_true rfl) rfl rfl ?_
  obtain ⟨n5, h⟩ := h
  refine vv_sub (lv' := [(0, .ref (ad 25)), (1, .int a1), (2, .int (0 : Int32))]) [1, 2, 0] rfl ?_
  refine twLX4_indexOf_2 X hr a1  σ _ ?_ n5 (0 : Int32) h
  intro h
  refine vv_iconst (q := 29) X (-1 : Int32) dX4_indexOf_28 (by decide) rfl ?_
  exact vv_iret X hr dX4_indexOf_29 ⟨h, rfl⟩

/-! X4_numberOf: numberOf(I)I -/
def rmX4_numberOf : Room := { frames := 0, cells := 0, slots := 0, locals := 0 }
def wX4_numberOf (σ : St) (a1 : Int32) (P : Int32 → Prop) : Prop :=
(a1 < 0 →
P (-9 : Int32)) ∧
(¬ a1 < 0 →
((σ.1 25 0) ≤ a1 →
P (-9 : Int32)) ∧
(¬ (σ.1 25 0) ≤ a1 →
vp_in a1 16 ∧
vp_in a1 16 ∧
P (((10 : Int32) * (σ.1 26 a1.toNatClampNeg)) + (σ.1 27 a1.toNatClampNeg))))

set_option maxHeartbeats 8000000 in
set_option maxRecDepth 100000 in
theorem kX4_numberOf (l : Launch) (D : va_G) {cy : Nat → ClassId} {ad : Nat → Nat} {zb : Nat → Nat} (hw : xOk (wC ad cy zb)) {σ : St} {a1 : Int32} {P : Int32 → Prop} (h : wX4_numberOf σ a1 P) : MI l yX4_numberOf wsX4_numberOf rmX4_numberOf D cy (wC ad cy zb) [.ref (ad 25), .int a1] σ (fun r u => P r ∧ u = σ) := by
  unfold MI
  refine vv_met (cc := cX4_numberOf) (maxL := 2) (ret := (some .int)) hw (by decide +kernel) rfl [.ref (ad 25), .int a1] (Nat.le_of_ble_eq_true rfl) ?_
  intro p e s m args below meth c X hr
  have X : XX p s m args meth c cX4_numberOf 2 D cy (wC ad cy zb) wsX4_numberOf RX4 := X
  refine vv_sub (lv' := [(0, .ref (ad 25)), (1, .int a1)]) [0, 1] rfl ?_
  rw [wX4_numberOf] at h
  refine vv_iload_n (q := 1) X 1 dX4_numberOf_0 rfl rfl rfl ?_
  refine vv_if_lt (q := 4) X 31 dX4_numberOf_1 (by decide) rfl (fun c1 => ?_) (fun c1 => ?_)
  · have h := h.1 c1
    refine vv_bipush (q := 33) X (-9 : Int32) dX4_numberOf_31 (by decide) rfl ?_
    exact vv_iret X hr dX4_numberOf_33 ⟨h, rfl⟩
  · have h := h.2 c1
    refine vv_iload_n (q := 5) X 1 dX4_numberOf_4 rfl rfl rfl ?_
    refine vv_aload_n (q := 6) X 0 dX4_numberOf_5 rfl rfl rfl ?_
    refine vv_getf (q := 9) (ref := "HalfLadders$Pairs") (C := RX4) (T := TX4) (N := 8) X 25 4 0 (Nat.le_of_ble_eq_true rfl) rfl rfl (Nat.le_of_ble_eq_true rfl) (fun _ h => List.mem_cons_of_mem _ (List.mem_append_right _ h)) (List.mem_of_getElem? (i := 1) rfl) rfl rfl dX4_numberOf_6 rfl ?_
    refine vv_icmp_ge (q := 12) X 31 dX4_numberOf_9 (by decide) rfl (fun c2 => ?_) (fun c2 => ?_)
    · have h := h.1 c2
      refine vv_bipush (q := 33) X (-9 : Int32) dX4_numberOf_31 (by decide) rfl ?_
      exact vv_iret X hr dX4_numberOf_33 ⟨h, rfl⟩
    · have h := h.2 c2
      refine vv_bipush (q := 14) X (10 : Int32) dX4_numberOf_12 (by decide) rfl ?_
      refine vv_aload_n (q := 15) X 0 dX4_numberOf_14 rfl rfl rfl ?_
      refine vv_getf (q := 18) (ref := "HalfLadders$Pairs") (C := RX4) (T := TX4) (N := 8) X 25 4 2 (Nat.le_of_ble_eq_true rfl) rfl rfl (Nat.le_of_ble_eq_true rfl) (fun _ h => List.mem_cons_of_mem _ (List.mem_append_right _ h)) (List.mem_of_getElem? (i := 2) rfl) rfl rfl dX4_numberOf_15 rfl ?_
      refine vv_iload_n (q := 19) X 1 dX4_numberOf_18 rfl rfl rfl ?_
      obtain ⟨hin3, h⟩ := h
      refine vv_iald (q := 20) X 26 16 (Nat.le_of_ble_eq_true rfl) (fun _ => rfl) hin3 dX4_numberOf_19 rfl ?_
      refine vv_imul (q := 21) X dX4_numberOf_20 rfl ?_
      refine vv_aload_n (q := 22) X 0 dX4_numberOf_21 rfl rfl rfl ?_
      refine vv_getf (q := 25) (ref := "HalfLadders$Pairs") (C := RX4) (T := TX4) (N := 8) X 25 4 3 (Nat.le_of_ble_eq_true rfl) rfl rfl (Nat.le_of_ble_eq_true rfl) (fun _ h => List.mem_cons_of_mem _ (List.mem_append_right _ h)) (List.mem_of_getElem? (i := 3) rfl) rfl rfl dX4_numberOf_22 rfl ?_
      refine vv_iload_n (q := 26) X 1 dX4_numberOf_25 rfl rfl rfl ?_
      obtain ⟨hin4, h⟩ := h
      refine vv_iald (q := 27) X 27 16 (Nat.le_of_ble_eq_true rfl) (fun _ => rfl) hin4 dX4_numberOf_26 rfl ?_
      refine vv_iadd (q := 28) X dX4_numberOf_27 rfl ?_
      refine vv_goto X 33 dX4_numberOf_28 (by decide) ?_
      exact vv_iret X hr dX4_numberOf_33 ⟨h, rfl⟩

/-! X4_howManyWith: howManyWith(I)I -/
def rmX4_howManyWith : Room := { frames := 0, cells := 0, slots := 0, locals := 0 }
def wLX4_howManyWith_4 (f1 : Int32) (σ : St) (K31 : Int32 → Prop) (P : Int32 → Prop) : Nat → Int32 → Int32 → Prop
  | 0, _, _ => False
  | n + 1, x2, x3 =>
    ((σ.1 25 0) ≤ x3 →
    K31 x2) ∧
    (¬ (σ.1 25 0) ≤ x3 →
    vp_in x3 16 ∧
    ∀ z3 : Int32, z3 = (x2 + (((σ.1 28 x3.toNatClampNeg) >>> (f1 &&& 31)) &&& (1 : Int32))) →
    ∀ z4 : Int32, z4 = x3 + (1 : Int32) →
    wLX4_howManyWith_4 f1 σ K31 P n z3 z4)

set_option maxHeartbeats 4000000 in
set_option maxRecDepth 100000 in
theorem twLX4_howManyWith_4 {p : Program} {l : Launch} {e : Env} {s : State} {m : MethodId} {args : Array Value} {below : List Frame} {meth : Method} {c : Code} {D : va_G} {cy : Nat → ClassId} {ad : Nat → Nat} {zb : Nat → Nat} (X : XX p s m args meth c cX4_howManyWith 4 D cy (wC ad cy zb) wsX4_howManyWith RX4) (hr : meth.sig.returnType = (some .int)) (f1 : Int32)  (σ : St) (K31 : Int32 → Prop) {P : Int32 → Prop} (hK31 : ∀ (x2 : Int32), K31 x2 → VV p l e rmX4_howManyWith s m args below meth c (MQ below (va_Qi (fun r u => P r ∧ u = σ) (xPost D (wC ad cy zb)) (xA (wC ad cy zb))) args s 0 0 (xA (wC ad cy zb))) 4 D (wC ad cy zb) σ 31 [(2, .int x2)] []) : ∀ (n : Nat) (x2 : Int32) (x3 : Int32), wLX4_howManyWith_4 f1 σ K31 P n x2 x3 → VV p l e rmX4_howManyWith s m args below meth c (MQ below (va_Qi (fun r u => P r ∧ u = σ) (xPost D (wC ad cy zb)) (xA (wC ad cy zb))) args s 0 0 (xA (wC ad cy zb))) 4 D (wC ad cy zb) σ 4 [(0, .ref (ad 25)), (1, .int f1), (2, .int x2), (3, .int x3)] [] := by
  intro n
  induction n with
  | zero => intro x2 x3 h; exact h.elim
  | succ n ih =>
    intro x2 x3 h
    rw [wLX4_howManyWith_4] at h
    refine vv_iload_n (q := 5) X 3 dX4_howManyWith_4 rfl rfl rfl ?_
    refine vv_aload_n (q := 6) X 0 dX4_howManyWith_5 rfl rfl rfl ?_
    refine vv_getf (q := 9) (ref := "HalfLadders$Pairs") (C := RX4) (T := TX4) (N := 8) X 25 4 0 (Nat.le_of_ble_eq_true rfl) rfl rfl (Nat.le_of_ble_eq_true rfl) (fun _ h => List.mem_cons_of_mem _ (List.mem_append_right _ h)) (List.mem_of_getElem? (i := 1) rfl) rfl rfl dX4_howManyWith_6 rfl ?_
    refine vv_icmp_ge (q := 12) X 31 dX4_howManyWith_9 (by decide) rfl (fun c1 => ?_) (fun c1 => ?_)
    · have h := h.1 c1
      refine vv_sub (lv' := [(2, .int x2)]) [2] rfl ?_
      exact hK31 x2 h
    · have h := h.2 c1
      refine vv_iload_n (q := 13) X 2 dX4_howManyWith_12 rfl rfl rfl ?_
      refine vv_aload_n (q := 14) X 0 dX4_howManyWith_13 rfl rfl rfl ?_
      refine vv_getf (q := 17) (ref := "HalfLadders$Pairs") (C := RX4) (T := TX4) (N := 8) X 25 4 4 (Nat.le_of_ble_eq_true rfl) rfl rfl (Nat.le_of_ble_eq_true rfl) (fun _ h => List.mem_cons_of_mem _ (List.mem_append_right _ h)) (List.mem_of_getElem? (i := 2) rfl) rfl rfl dX4_howManyWith_14 rfl ?_
      refine vv_iload_n (q := 18) X 3 dX4_howManyWith_17 rfl rfl rfl ?_
      obtain ⟨hin2, h⟩ := h
      refine vv_iald (q := 19) X 28 16 (Nat.le_of_ble_eq_true rfl) (fun _ => rfl) hin2 dX4_howManyWith_18 rfl ?_
      refine vv_iload_n (q := 20) X 1 dX4_howManyWith_19 rfl rfl rfl ?_
      refine vv_ishr (q := 21) X dX4_howManyWith_20 rfl ?_
      refine vv_iconst (q := 22) X (1 : Int32) dX4_howManyWith_21 (by decide) rfl ?_
      refine vv_iand (q := 23) X dX4_howManyWith_22 rfl ?_
      refine vv_iadd (q := 24) X dX4_howManyWith_23 rfl ?_
      refine vv_topi (fun z3 hz3 => ?_)
      have h := h z3 hz3
      refine vv_istore_n (lv2 := [(2, .int z3), (0, .ref (ad 25)), (1, .int f1), (3, .int x3)]) (q := 25) X dX4_howManyWith_24 rfl (Nat.le_of_ble_eq_true rfl) rfl rfl ?_
      obtain ⟨z4, hz4⟩ : ∃ y : Int32, y = x3 + (1 : Int32) := ⟨_, rfl⟩
      have h := h z4 hz4
      refine vv_iinc (v := z4) (lv2 := [(3, .int z4), (2, .int z3), (0, .ref (ad 25)), (1, .int f1)]) (q := 28) X 3 dX4_howManyWith_25 rfl (by rw [hz4]; rfl) (Nat.le_of_ble_eq_true rfl) rfl rfl ?_
      refine vv_goto X 4 dX4_howManyWith_28 (by decide) ?_
      refine vv_sub (lv' := [(0, .ref (ad 25)), (1, .int f1), (2, .int z3), (3, .int z4)]) [2, 3, 1, 0] rfl ?_
      exact ih z3 z4 h

def wX4_howManyWith (σ : St) (a1 : Int32) (P : Int32 → Prop) : Prop :=
∃ n6 : Nat, wLX4_howManyWith_4 a1 σ (fun (y5 : Int32) =>
P y5) P n6 (0 : Int32) (0 : Int32)

set_option maxHeartbeats 8000000 in
set_option maxRecDepth 100000 in
theorem kX4_howManyWith (l : Launch) (D : va_G) {cy : Nat → ClassId} {ad : Nat → Nat} {zb : Nat → Nat} (hw : xOk (wC ad cy zb)) {σ : St} {a1 : Int32} {P : Int32 → Prop} (h : wX4_howManyWith σ a1 P) : MI l yX4_howManyWith wsX4_howManyWith rmX4_howManyWith D cy (wC ad cy zb) [.ref (ad 25), .int a1] σ (fun r u => P r ∧ u = σ) := by
  unfold MI
  refine vv_met (cc := cX4_howManyWith) (maxL := 4) (ret := (some .int)) hw (by decide +kernel) rfl [.ref (ad 25), .int a1] (Nat.le_of_ble_eq_true rfl) ?_
  intro p e s m args below meth c X hr
  have X : XX p s m args meth c cX4_howManyWith 4 D cy (wC ad cy zb) wsX4_howManyWith RX4 := X
  refine vv_sub (lv' := [(0, .ref (ad 25)), (1, .int a1)]) [0, 1] rfl ?_
  rw [wX4_howManyWith] at h
  refine vv_iconst (q := 1) X (0 : Int32) dX4_howManyWith_0 (by decide) rfl ?_
  refine vv_istore_n (lv2 := [(2, .int (0 : Int32)), (0, .ref (ad 25)), (1, .int a1)]) (q := 2) X dX4_howManyWith_1 rfl (Nat.le_of_ble_eq_true rfl) rfl rfl ?_
  refine vv_iconst (q := 3) X (0 : Int32) dX4_howManyWith_2 (by decide) rfl ?_
  refine vv_istore_n (lv2 := [(3, .int (0 : Int32)), (2, .int (0 : Int32)), (0, .ref (ad 25)), (1, .int a1)]) (q := 4) X dX4_howManyWith_3 rfl (Nat.le_of_ble_eq_true rfl) rfl rfl ?_
  obtain ⟨n6, h⟩ := h
  refine vv_sub (lv' := [(0, .ref (ad 25)), (1, .int a1), (2, .int (0 : Int32)), (3, .int (0 : Int32))]) [2, 3, 1, 0] rfl ?_
  refine twLX4_howManyWith_4 X hr a1  σ _ ?_ n6 (0 : Int32) (0 : Int32) h
  intro y5 h
  refine vv_iload_n (q := 32) X 0 dX4_howManyWith_31 rfl rfl rfl ?_
  exact vv_iret X hr dX4_howManyWith_32 ⟨h, rfl⟩

/-! X4_leavesMarks: leavesMarks(III)Z -/
def rmX4_leavesMarks : Room := { frames := 0, cells := 0, slots := 0, locals := 0 }
def wX4_leavesMarks (σ : St) (a1 : Int32) (a2 : Int32) (a3 : Int32) (P : Int32 → Prop) : Prop :=
vp_in a1 16 ∧
(¬ (σ.1 29 a1.toNatClampNeg) = a2 →
P (0 : Int32)) ∧
((σ.1 29 a1.toNatClampNeg) = a2 →
vp_in a1 16 ∧
((σ.1 30 a1.toNatClampNeg) < a3 →
P (0 : Int32)) ∧
(¬ (σ.1 30 a1.toNatClampNeg) < a3 →
P (1 : Int32)))

set_option maxHeartbeats 8000000 in
set_option maxRecDepth 100000 in
theorem kX4_leavesMarks (l : Launch) (D : va_G) {cy : Nat → ClassId} {ad : Nat → Nat} {zb : Nat → Nat} (hw : xOk (wC ad cy zb)) {σ : St} {a1 : Int32} {a2 : Int32} {a3 : Int32} {P : Int32 → Prop} (h : wX4_leavesMarks σ a1 a2 a3 P) : MI l yX4_leavesMarks wsX4_leavesMarks rmX4_leavesMarks D cy (wC ad cy zb) [.ref (ad 25), .int a1, .int a2, .int a3] σ (fun r u => P r ∧ u = σ) := by
  unfold MI
  refine vv_met (cc := cX4_leavesMarks) (maxL := 4) (ret := (some .boolean)) hw (by decide +kernel) rfl [.ref (ad 25), .int a1, .int a2, .int a3] (Nat.le_of_ble_eq_true rfl) ?_
  intro p e s m args below meth c X hr
  have X : XX p s m args meth c cX4_leavesMarks 4 D cy (wC ad cy zb) wsX4_leavesMarks RX4 := X
  refine vv_sub (lv' := [(0, .ref (ad 25)), (1, .int a1), (2, .int a2), (3, .int a3)]) [0, 1, 2, 3] rfl ?_
  rw [wX4_leavesMarks] at h
  refine vv_aload_n (q := 1) X 0 dX4_leavesMarks_0 rfl rfl rfl ?_
  refine vv_getf (q := 4) (ref := "HalfLadders$Pairs") (C := RX4) (T := TX4) (N := 8) X 25 4 5 (Nat.le_of_ble_eq_true rfl) rfl rfl (Nat.le_of_ble_eq_true rfl) (fun _ h => List.mem_cons_of_mem _ (List.mem_append_right _ h)) (List.mem_of_getElem? (i := 1) rfl) rfl rfl dX4_leavesMarks_1 rfl ?_
  refine vv_iload_n (q := 5) X 1 dX4_leavesMarks_4 rfl rfl rfl ?_
  obtain ⟨hin1, h⟩ := h
  refine vv_iald (q := 6) X 29 16 (Nat.le_of_ble_eq_true rfl) (fun _ => rfl) hin1 dX4_leavesMarks_5 rfl ?_
  refine vv_iload_n (q := 7) X 2 dX4_leavesMarks_6 rfl rfl rfl ?_
  refine vv_icmp_ne (q := 10) X 24 dX4_leavesMarks_7 (by decide) rfl (fun c2 => ?_) (fun c2 => ?_)
  · have h := h.1 c2
    refine vv_iconst (q := 25) X (0 : Int32) dX4_leavesMarks_24 (by decide) rfl ?_
    exact vv_zret X hr rfl dX4_leavesMarks_25 ⟨h, rfl⟩
  · have h := h.2 c2
    refine vv_aload_n (q := 11) X 0 dX4_leavesMarks_10 rfl rfl rfl ?_
    refine vv_getf (q := 14) (ref := "HalfLadders$Pairs") (C := RX4) (T := TX4) (N := 8) X 25 4 6 (Nat.le_of_ble_eq_true rfl) rfl rfl (Nat.le_of_ble_eq_true rfl) (fun _ h => List.mem_cons_of_mem _ (List.mem_append_right _ h)) (List.mem_of_getElem? (i := 2) rfl) rfl rfl dX4_leavesMarks_11 rfl ?_
    refine vv_iload_n (q := 15) X 1 dX4_leavesMarks_14 rfl rfl rfl ?_
    obtain ⟨hin3, h⟩ := h
    refine vv_iald (q := 16) X 30 16 (Nat.le_of_ble_eq_true rfl) (fun _ => rfl) hin3 dX4_leavesMarks_15 rfl ?_
    refine vv_iload_n (q := 17) X 3 dX4_leavesMarks_16 rfl rfl rfl ?_
    refine vv_icmp_lt (q := 20) X 24 dX4_leavesMarks_17 (by decide) rfl (fun c4 => ?_) (fun c4 => ?_)
    · have h := h.1 c4
      refine vv_iconst (q := 25) X (0 : Int32) dX4_leavesMarks_24 (by decide) rfl ?_
      exact vv_zret X hr rfl dX4_leavesMarks_25 ⟨h, rfl⟩
    · have h := h.2 c4
      refine vv_iconst (q := 21) X (1 : Int32) dX4_leavesMarks_20 (by decide) rfl ?_
      refine vv_goto X 25 dX4_leavesMarks_21 (by decide) ?_
      exact vv_zret X hr rfl dX4_leavesMarks_25 ⟨h, rfl⟩

/-! X4_howMany: howMany(II)I -/
def rmX4_howMany : Room := { frames := 1, cells := 0, slots := 0, locals := 23 }
def wLX4_howMany_5 (f1 : Int32) (f2 : Int32) (σ : St) (K34 : Int32 → Prop) (P : Int32 → Prop) : Nat → Int32 → Int32 → Prop
  | 0, _, _ => False
  | n + 1, x3, x4 =>
    ((σ.1 25 0) ≤ x4 →
    K34 x3) ∧
    (¬ (σ.1 25 0) ≤ x4 →
    wX4_leavesMarks σ x4 f1 f2 (fun r2 : Int32 =>
    (r2 = 0 →
    ∀ z4 : Int32, z4 = x4 + (1 : Int32) →
    wLX4_howMany_5 f1 f2 σ K34 P n x3 z4) ∧
    (¬ r2 = 0 →
    ∀ z5 : Int32, z5 = x3 + (1 : Int32) →
    ∀ z6 : Int32, z6 = x4 + (1 : Int32) →
    wLX4_howMany_5 f1 f2 σ K34 P n z5 z6)))

set_option maxHeartbeats 4000000 in
set_option maxRecDepth 100000 in
theorem twLX4_howMany_5 {p : Program} {l : Launch} {e : Env} {s : State} {m : MethodId} {args : Array Value} {below : List Frame} {meth : Method} {c : Code} {D : va_G} {cy : Nat → ClassId} {ad : Nat → Nat} {zb : Nat → Nat} (X : XX p s m args meth c cX4_howMany 5 D cy (wC ad cy zb) wsX4_howMany RX4) (hr : meth.sig.returnType = (some .int)) (f1 : Int32) (f2 : Int32)  (σ : St) (K34 : Int32 → Prop) {P : Int32 → Prop} (hK34 : ∀ (x3 : Int32), K34 x3 → VV p l e rmX4_howMany s m args below meth c (MQ below (va_Qi (fun r u => P r ∧ u = σ) (xPost D (wC ad cy zb)) (xA (wC ad cy zb))) args s 0 0 (xA (wC ad cy zb))) 5 D (wC ad cy zb) σ 34 [(3, .int x3)] []) : ∀ (n : Nat) (x3 : Int32) (x4 : Int32), wLX4_howMany_5 f1 f2 σ K34 P n x3 x4 → VV p l e rmX4_howMany s m args below meth c (MQ below (va_Qi (fun r u => P r ∧ u = σ) (xPost D (wC ad cy zb)) (xA (wC ad cy zb))) args s 0 0 (xA (wC ad cy zb))) 5 D (wC ad cy zb) σ 5 [(0, .ref (ad 25)), (1, .int f1), (2, .int f2), (3, .int x3), (4, .int x4)] [] := by
  intro n
  induction n with
  | zero => intro x3 x4 h; exact h.elim
  | succ n ih =>
    intro x3 x4 h
    rw [wLX4_howMany_5] at h
    refine vv_iload (q := 7) X 4 dX4_howMany_5 rfl rfl ?_
    refine vv_aload_n (q := 8) X 0 dX4_howMany_7 rfl rfl rfl ?_
    refine vv_getf (q := 11) (ref := "HalfLadders$Pairs") (C := RX4) (T := TX4) (N := 8) X 25 4 0 (Nat.le_of_ble_eq_true rfl) rfl rfl (Nat.le_of_ble_eq_true rfl) (fun _ h => List.mem_cons_of_mem _ (List.mem_append_right _ h)) (List.mem_of_getElem? (i := 1) rfl) rfl rfl dX4_howMany_8 rfl ?_
    refine vv_icmp_ge (q := 14) X 34 dX4_howMany_11 (by decide) rfl (fun c1 => ?_) (fun c1 => ?_)
    · have h := h.1 c1
      refine vv_sub (lv' := [(3, .int x3)]) [3] rfl ?_
      exact hK34 x3 h
    · have h := h.2 c1
      refine vv_aload_n (q := 15) X 0 dX4_howMany_14 rfl rfl rfl ?_
      refine vv_iload (q := 17) X 4 dX4_howMany_15 rfl rfl ?_
      refine vv_iload_n (q := 18) X 1 dX4_howMany_17 rfl rfl rfl ?_
      refine vv_iload_n (q := 19) X 2 dX4_howMany_18 rfl rfl rfl ?_
      refine vv_cVi (q := 22) (C := RX4) X 25 4 [.int x4, .int f1, .int f2] (kX4_leavesMarks l D X.2.2.1 h) (cwV 3 X.1.2.2.2.2 gX4_howMany_X4_leavesMarks rfl rfl rfl (by decide +kernel) ⟨Nat.le_of_ble_eq_true rfl, Nat.le_of_ble_eq_true rfl⟩) (Nat.le_of_ble_eq_true rfl) rfl rfl rfl rfl (Nat.le_of_ble_eq_true rfl) dX4_howMany_19 rfl (fun r2 u9 h9 => ?_)
      obtain ⟨h9, hu9⟩ := h9
      subst u9
      have h := h9
      refine vv_if_eq (q := 25) X 28 dX4_howMany_22 (by decide) rfl (fun c3 => ?_) (fun c3 => ?_)
      · have h := h.1 c3
        obtain ⟨z4, hz4⟩ : ∃ y : Int32, y = x4 + (1 : Int32) := ⟨_, rfl⟩
        have h := h z4 hz4
        refine vv_iinc (v := z4) (lv2 := [(4, .int z4), (0, .ref (ad 25)), (1, .int f1), (2, .int f2), (3, .int x3)]) (q := 31) X 4 dX4_howMany_28 rfl (by rw [hz4]; rfl) (Nat.le_of_ble_eq_true rfl) rfl rfl ?_
        refine vv_goto X 5 dX4_howMany_31 (by decide) ?_
        refine vv_sub (lv' := [(0, .ref (ad 25)), (1, .int f1), (2, .int f2), (3, .int x3), (4, .int z4)]) [1, 2, 3, 4, 0] rfl ?_
        exact ih x3 z4 h
      · have h := h.2 c3
        obtain ⟨z5, hz5⟩ : ∃ y : Int32, y = x3 + (1 : Int32) := ⟨_, rfl⟩
        have h := h z5 hz5
        refine vv_iinc (v := z5) (lv2 := [(3, .int z5), (0, .ref (ad 25)), (1, .int f1), (2, .int f2), (4, .int x4)]) (q := 28) X 3 dX4_howMany_25 rfl (by rw [hz5]; rfl) (Nat.le_of_ble_eq_true rfl) rfl rfl ?_
        obtain ⟨z6, hz6⟩ : ∃ y : Int32, y = x4 + (1 : Int32) := ⟨_, rfl⟩
        have h := h z6 hz6
        refine vv_iinc (v := z6) (lv2 := [(4, .int z6), (3, .int z5), (0, .ref (ad 25)), (1, .int f1), (2, .int f2)]) (q := 31) X 4 dX4_howMany_28 rfl (by rw [hz6]; rfl) (Nat.le_of_ble_eq_true rfl) rfl rfl ?_
        refine vv_goto X 5 dX4_howMany_31 (by decide) ?_
        refine vv_sub (lv' := [(0, .ref (ad 25)), (1, .int f1), (2, .int f2), (3, .int z5), (4, .int z6)]) [2, 3, 4, 1, 0] rfl ?_
        exact ih z5 z6 h

def wX4_howMany (σ : St) (a1 : Int32) (a2 : Int32) (P : Int32 → Prop) : Prop :=
∃ n8 : Nat, wLX4_howMany_5 a1 a2 σ (fun (y7 : Int32) =>
P y7) P n8 (0 : Int32) (0 : Int32)

set_option maxHeartbeats 8000000 in
set_option maxRecDepth 100000 in
theorem kX4_howMany (l : Launch) (D : va_G) {cy : Nat → ClassId} {ad : Nat → Nat} {zb : Nat → Nat} (hw : xOk (wC ad cy zb)) {σ : St} {a1 : Int32} {a2 : Int32} {P : Int32 → Prop} (h : wX4_howMany σ a1 a2 P) : MI l yX4_howMany wsX4_howMany rmX4_howMany D cy (wC ad cy zb) [.ref (ad 25), .int a1, .int a2] σ (fun r u => P r ∧ u = σ) := by
  unfold MI
  refine vv_met (cc := cX4_howMany) (maxL := 5) (ret := (some .int)) hw (by decide +kernel) rfl [.ref (ad 25), .int a1, .int a2] (Nat.le_of_ble_eq_true rfl) ?_
  intro p e s m args below meth c X hr
  have X : XX p s m args meth c cX4_howMany 5 D cy (wC ad cy zb) wsX4_howMany RX4 := X
  refine vv_sub (lv' := [(0, .ref (ad 25)), (1, .int a1), (2, .int a2)]) [0, 1, 2] rfl ?_
  rw [wX4_howMany] at h
  refine vv_iconst (q := 1) X (0 : Int32) dX4_howMany_0 (by decide) rfl ?_
  refine vv_istore_n (lv2 := [(3, .int (0 : Int32)), (0, .ref (ad 25)), (1, .int a1), (2, .int a2)]) (q := 2) X dX4_howMany_1 rfl (Nat.le_of_ble_eq_true rfl) rfl rfl ?_
  refine vv_iconst (q := 3) X (0 : Int32) dX4_howMany_2 (by decide) rfl ?_
  refine vv_istore (lv2 := [(4, .int (0 : Int32)), (3, .int (0 : Int32)), (0, .ref (ad 25)), (1, .int a1), (2, .int a2)]) (q := 5) X dX4_howMany_3 (Nat.le_of_ble_eq_true rfl) rfl rfl ?_
  obtain ⟨n8, h⟩ := h
  refine vv_sub (lv' := [(0, .ref (ad 25)), (1, .int a1), (2, .int a2), (3, .int (0 : Int32)), (4, .int (0 : Int32))]) [2, 3, 4, 1, 0] rfl ?_
  refine twLX4_howMany_5 X hr a1 a2  σ _ ?_ n8 (0 : Int32) (0 : Int32) h
  intro y7 h
  refine vv_iload_n (q := 35) X 0 dX4_howMany_34 rfl rfl rfl ?_
  exact vv_iret X hr dX4_howMany_35 ⟨h, rfl⟩

/-! X4_firstOf: firstOf(II)I -/
def rmX4_firstOf : Room := { frames := 1, cells := 0, slots := 0, locals := 23 }
def wLX4_firstOf_2 (f1 : Int32) (f2 : Int32) (σ : St) (K32 : Prop) (K20 : Int32 → Prop) (P : Int32 → Prop) : Nat → Int32 → Prop
  | 0, _ => False
  | n + 1, x3 =>
    ((σ.1 25 0) ≤ x3 →
    K32) ∧
    (¬ (σ.1 25 0) ≤ x3 →
    wX4_leavesMarks σ x3 f1 f2 (fun r2 : Int32 =>
    (r2 = 0 →
    ∀ z4 : Int32, z4 = x3 + (1 : Int32) →
    wLX4_firstOf_2 f1 f2 σ K32 K20 P n z4) ∧
    (¬ r2 = 0 →
    K20 x3)))

set_option maxHeartbeats 4000000 in
set_option maxRecDepth 100000 in
theorem twLX4_firstOf_2 {p : Program} {l : Launch} {e : Env} {s : State} {m : MethodId} {args : Array Value} {below : List Frame} {meth : Method} {c : Code} {D : va_G} {cy : Nat → ClassId} {ad : Nat → Nat} {zb : Nat → Nat} (X : XX p s m args meth c cX4_firstOf 4 D cy (wC ad cy zb) wsX4_firstOf RX4) (hr : meth.sig.returnType = (some .int)) (f1 : Int32) (f2 : Int32)  (σ : St) (K32 : Prop) (K20 : Int32 → Prop) {P : Int32 → Prop} (hK32 : K32 → VV p l e rmX4_firstOf s m args below meth c (MQ below (va_Qi (fun r u => P r ∧ u = σ) (xPost D (wC ad cy zb)) (xA (wC ad cy zb))) args s 0 0 (xA (wC ad cy zb))) 4 D (wC ad cy zb) σ 32 [] []) (hK20 : ∀ (x3 : Int32), K20 x3 → VV p l e rmX4_firstOf s m args below meth c (MQ below (va_Qi (fun r u => P r ∧ u = σ) (xPost D (wC ad cy zb)) (xA (wC ad cy zb))) args s 0 0 (xA (wC ad cy zb))) 4 D (wC ad cy zb) σ 20 [(0, .ref (ad 25)), (3, .int x3)] []) : ∀ (n : Nat) (x3 : Int32), wLX4_firstOf_2 f1 f2 σ K32 K20 P n x3 → VV p l e rmX4_firstOf s m args below meth c (MQ below (va_Qi (fun r u => P r ∧ u = σ) (xPost D (wC ad cy zb)) (xA (wC ad cy zb))) args s 0 0 (xA (wC ad cy zb))) 4 D (wC ad cy zb) σ 2 [(0, .ref (ad 25)), (1, .int f1), (2, .int f2), (3, .int x3)] [] := by
  intro n
  induction n with
  | zero => intro x3 h; exact h.elim
  | succ n ih =>
    intro x3 h
    rw [wLX4_firstOf_2] at h
    refine vv_iload_n (q := 3) X 3 dX4_firstOf_2 rfl rfl rfl ?_
    refine vv_aload_n (q := 4) X 0 dX4_firstOf_3 rfl rfl rfl ?_
    refine vv_getf (q := 7) (ref := "HalfLadders$Pairs") (C := RX4) (T := TX4) (N := 8) X 25 4 0 (Nat.le_of_ble_eq_true rfl) rfl rfl (Nat.le_of_ble_eq_true rfl) (fun _ h => List.mem_cons_of_mem _ (List.mem_append_right _ h)) (List.mem_of_getElem? (i := 1) rfl) rfl rfl dX4_firstOf_4 rfl ?_
    refine vv_icmp_ge (q := 10) X 32 dX4_firstOf_7 (by decide) rfl (fun c1 => ?_) (fun c1 => ?_)
    · have h := h.1 c1
      refine vv_sub (lv' := []) [] rfl ?_
      exact hK32  h
    · have h := h.2 c1
      refine vv_aload_n (q := 11) X 0 dX4_firstOf_10 rfl rfl rfl ?_
      refine vv_iload_n (q := 12) X 3 dX4_firstOf_11 rfl rfl rfl ?_
      refine vv_iload_n (q := 13) X 1 dX4_firstOf_12 rfl rfl rfl ?_
      refine vv_iload_n (q := 14) X 2 dX4_firstOf_13 rfl rfl rfl ?_
      refine vv_cVi (q := 17) (C := RX4) X 25 4 [.int x3, .int f1, .int f2] (kX4_leavesMarks l D X.2.2.1 h) (cwV 3 X.1.2.2.2.2 gX4_firstOf_X4_leavesMarks rfl rfl rfl (by decide +kernel) ⟨Nat.le_of_ble_eq_true rfl, Nat.le_of_ble_eq_true rfl⟩) (Nat.le_of_ble_eq_true rfl) rfl rfl rfl rfl (Nat.le_of_ble_eq_true rfl) dX4_firstOf_14 rfl (fun r2 u9 h9 => ?_)
      obtain ⟨h9, hu9⟩ := h9
      subst u9
      have h := h9
      refine vv_if_eq (q := 20) X 26 dX4_firstOf_17 (by decide) rfl (fun c3 => ?_) (fun c3 => ?_)
      · have h := h.1 c3
        obtain ⟨z4, hz4⟩ : ∃ y : Int32, y = x3 + (1 : Int32) := ⟨_, rfl⟩
        have h := h z4 hz4
        refine vv_iinc (v := z4) (lv2 := [(3, .int z4), (0, .ref (ad 25)), (1, .int f1), (2, .int f2)]) (q := 29) X 3 dX4_firstOf_26 rfl (by rw [hz4]; rfl) (Nat.le_of_ble_eq_true rfl) rfl rfl ?_
        refine vv_goto X 2 dX4_firstOf_29 (by decide) ?_
        refine vv_sub (lv' := [(0, .ref (ad 25)), (1, .int f1), (2, .int f2), (3, .int z4)]) [1, 2, 3, 0] rfl ?_
        exact ih z4 h
      · have h := h.2 c3
        refine vv_sub (lv' := [(0, .ref (ad 25)), (3, .int x3)]) [0, 3] rfl ?_
        exact hK20 x3 h

def wX4_firstOf (σ : St) (a1 : Int32) (a2 : Int32) (P : Int32 → Prop) : Prop :=
∃ n7 : Nat, wLX4_firstOf_2 a1 a2 σ (P (-9 : Int32)) (fun (y5 : Int32) =>
wX4_numberOf σ y5 (fun r6 : Int32 =>
P r6)) P n7 (0 : Int32)

set_option maxHeartbeats 8000000 in
set_option maxRecDepth 100000 in
theorem kX4_firstOf (l : Launch) (D : va_G) {cy : Nat → ClassId} {ad : Nat → Nat} {zb : Nat → Nat} (hw : xOk (wC ad cy zb)) {σ : St} {a1 : Int32} {a2 : Int32} {P : Int32 → Prop} (h : wX4_firstOf σ a1 a2 P) : MI l yX4_firstOf wsX4_firstOf rmX4_firstOf D cy (wC ad cy zb) [.ref (ad 25), .int a1, .int a2] σ (fun r u => P r ∧ u = σ) := by
  unfold MI
  refine vv_met (cc := cX4_firstOf) (maxL := 4) (ret := (some .int)) hw (by decide +kernel) rfl [.ref (ad 25), .int a1, .int a2] (Nat.le_of_ble_eq_true rfl) ?_
  intro p e s m args below meth c X hr
  have X : XX p s m args meth c cX4_firstOf 4 D cy (wC ad cy zb) wsX4_firstOf RX4 := X
  refine vv_sub (lv' := [(0, .ref (ad 25)), (1, .int a1), (2, .int a2)]) [0, 1, 2] rfl ?_
  rw [wX4_firstOf] at h
  refine vv_iconst (q := 1) X (0 : Int32) dX4_firstOf_0 (by decide) rfl ?_
  refine vv_istore_n (lv2 := [(3, .int (0 : Int32)), (0, .ref (ad 25)), (1, .int a1), (2, .int a2)]) (q := 2) X dX4_firstOf_1 rfl (Nat.le_of_ble_eq_true rfl) rfl rfl ?_
  obtain ⟨n7, h⟩ := h
  refine vv_sub (lv' := [(0, .ref (ad 25)), (1, .int a1), (2, .int a2), (3, .int (0 : Int32))]) [1, 2, 3, 0] rfl ?_
  refine twLX4_firstOf_2 X hr a1 a2  σ _ _ ?_ ?_ n7 (0 : Int32) h
  · intro h
    refine vv_bipush (q := 34) X (-9 : Int32) dX4_firstOf_32 (by decide) rfl ?_
    exact vv_iret X hr dX4_firstOf_34 ⟨h, rfl⟩
  · intro y5 h
    refine vv_aload_n (q := 21) X 0 dX4_firstOf_20 rfl rfl rfl ?_
    refine vv_iload_n (q := 22) X 1 dX4_firstOf_21 rfl rfl rfl ?_
    refine vv_cVi (q := 25) (C := RX4) X 25 4 [.int y5] (kX4_numberOf l D X.2.2.1 h) (cwV 1 X.1.2.2.2.2 gX4_firstOf_X4_numberOf rfl rfl rfl (by decide +kernel) ⟨Nat.le_of_ble_eq_true rfl, Nat.le_of_ble_eq_true rfl⟩) (Nat.le_of_ble_eq_true rfl) rfl rfl rfl rfl (Nat.le_of_ble_eq_true rfl) dX4_firstOf_22 rfl (fun r6 u9 h9 => ?_)
    obtain ⟨h9, hu9⟩ := h9
    subst u9
    have h := h9
    exact vv_iret X hr dX4_firstOf_25 ⟨h, rfl⟩

