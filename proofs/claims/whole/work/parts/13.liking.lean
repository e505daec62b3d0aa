/-! X1_ratherHas: ratherHas(II)Z -/
def rmX1_ratherHas : Room := { frames := 0, cells := 0, slots := 0, locals := 0 }
def wX1_ratherHas (σ : St) (a1 : Int32) (a2 : Int32) (P : Int32 → Prop) : Prop :=
vp_in a1 8 ∧
∀ z2 : Int32, z2 = (σ.1 48 a1.toNatClampNeg) →
vp_in a1 8 ∧
vp_in a2 8 ∧
jn (fun (v6 : Int32) =>
((σ.1 (39 + a1.toNatClampNeg) a2.toNatClampNeg) ≤ v6 →
P (0 : Int32)) ∧
(¬ (σ.1 (39 + a1.toNatClampNeg) a2.toNatClampNeg) ≤ v6 →
P (1 : Int32))) (fun J5 : Int32 → Prop =>
(¬ z2 = (-1 : Int32) →
vp_in a1 8 ∧
vp_in z2 8 ∧
J5 (σ.1 (39 + a1.toNatClampNeg) z2.toNatClampNeg)) ∧
(z2 = (-1 : Int32) →
J5 (0 : Int32)))

set_option maxHeartbeats 8000000 in
set_option maxRecDepth 100000 in
theorem kX1_ratherHas (l : Launch) (D : va_G) {cy : Nat → ClassId} {ad : Nat → Nat} {zb : Nat → Nat} (hw : xOk (wC ad cy zb)) {σ : St} {a1 : Int32} {a2 : Int32} {P : Int32 → Prop} (h : wX1_ratherHas σ a1 a2 P) : MI l yX1_ratherHas wsX1_ratherHas rmX1_ratherHas D cy (wC ad cy zb) [.ref (ad 37), .int a1, .int a2] σ (fun r u => P r ∧ u = σ) := by
  unfold MI
  refine vv_met (cc := cX1_ratherHas) (maxL := 4) (ret := (some .boolean)) hw (by decide +kernel) rfl [.ref (ad 37), .int a1, .int a2] (Nat.le_of_ble_eq_true rfl) ?_
  intro p e s m args below meth c X hr
  have X : XX p s m args meth c cX1_ratherHas 4 D cy (wC ad cy zb) wsX1_ratherHas RX1 := X
  refine vv_sub (lv' := [(0, .ref (ad 37)), (1, .int a1), (2, .int a2)]) [0, 1, 2] rfl ?_
  rw [wX1_ratherHas] at h
  refine vv_aload_n (q := 1) X 0 dX1_ratherHas_0 rfl rfl rfl ?_
  refine vv_getf (q := 4) (ref := "HalfLadders$Liking") (C := RX1) (T := TX1) (N := 5) X 37 1 2 (Nat.le_of_ble_eq_true rfl) rfl rfl (Nat.le_of_ble_eq_true rfl) (fun _ h => List.mem_cons_of_mem _ (List.mem_append_right _ h)) (List.mem_of_getElem? (i := 1) rfl) rfl rfl dX1_ratherHas_1 rfl ?_
  refine vv_iload_n (q := 5) X 1 dX1_ratherHas_4 rfl rfl rfl ?_
  obtain ⟨hin1, h⟩ := h
  refine vv_iald (q := 6) X 48 8 (Nat.le_of_ble_eq_true rfl) (fun _ => rfl) hin1 dX1_ratherHas_5 rfl ?_
  refine vv_topi (fun z2 hz2 => ?_)
  have h := h z2 hz2
  refine vv_istore_n (lv2 := [(3, .int z2), (0, .ref (ad 37)), (1, .int a1), (2, .int a2)]) (q := 7) X dX1_ratherHas_6 rfl (Nat.le_of_ble_eq_true rfl) rfl rfl ?_
  refine vv_aload_n (q := 8) X 1 dX1_ratherHas_7 rfl rfl rfl ?_
  refine vv_getf (q := 11) (ref := "HalfLadders$Liking") (C := RX1) (T := TX1) (N := 5) X 37 1 0 (Nat.le_of_ble_eq_true rfl) rfl rfl (Nat.le_of_ble_eq_true rfl) (fun _ h => List.mem_cons_of_mem _ (List.mem_append_right _ h)) (List.mem_of_getElem? (i := 2) rfl) rfl rfl dX1_ratherHas_8 rfl ?_
  refine vv_iload_n (q := 12) X 2 dX1_ratherHas_11 rfl rfl rfl ?_
  obtain ⟨hin3, h⟩ := h
  refine vv_aldA (q := 13) X 38 8 (Nat.le_of_ble_eq_true rfl) rfl hin3 dX1_ratherHas_12 rfl ?_
  refine vv_iload_n (q := 14) X 3 dX1_ratherHas_13 rfl rfl rfl ?_
  obtain ⟨hin4, h⟩ := h
  refine vv_iald (q := 15) X (39 + a1.toNatClampNeg) 8 (eRlikes_lt 0 hin3 (Nat.le_of_ble_eq_true rfl)) (fun f => eRlikes (ad := ad) (cy := cy) hin3 f σ.2) hin4 dX1_ratherHas_14 rfl ?_
  refine vv_iload_n (q := 16) X 0 dX1_ratherHas_15 rfl rfl rfl ?_
  refine vv_iconst (q := 17) X (-1 : Int32) dX1_ratherHas_16 (by decide) rfl ?_
  obtain ⟨J5, hJ5, h⟩ := jn_el h
  have tJ5 : ∀ (v6 : Int32), J5 v6 → VV p l e rmX1_ratherHas s m args below meth c (MQ below (va_Qi (fun r u => P r ∧ u = σ) (xPost D (wC ad cy zb)) (xA (wC ad cy zb))) args s 0 0 (xA (wC ad cy zb))) 4 D (wC ad cy zb) σ 32 [] [.int v6, .int (σ.1 (39 + a1.toNatClampNeg) a2.toNatClampNeg)] := by
    intro v6 h
    rw [hJ5] at h
    refine vv_icmp_le (q := 35) X 39 dX1_ratherHas_32 (by decide) rfl (fun c7 => ?_) (fun c7 => ?_)
    · have h := h.1 c7
      refine vv_iconst (q := 40) X (0 : Int32) dX1_ratherHas_39 (by decide) rfl ?_
      exact vv_zret X hr rfl dX1_ratherHas_40 ⟨h, rfl⟩
    · have h := h.2 c7
      refine vv_iconst (q := 36) X (1 : Int32) dX1_ratherHas_35 (by decide) rfl ?_
      refine vv_goto X 40 dX1_ratherHas_36 (by decide) ?_
      exact vv_zret X hr rfl dX1_ratherHas_40 ⟨h, rfl⟩
  refine vv_icmp_ne (q := 20) X 24 dX1_ratherHas_17 (by decide) rfl (fun c8 => ?_) (fun c8 => ?_)
  · have h := h.1 c8
    refine vv_aload_n (q := 25) X 1 dX1_ratherHas_24 rfl rfl rfl ?_
    refine vv_getf (q := 28) (ref := "HalfLadders$Liking") (C := RX1) (T := TX1) (N := 5) X 37 1 0 (Nat.le_of_ble_eq_true rfl) rfl rfl (Nat.le_of_ble_eq_true rfl) (fun _ h => List.mem_cons_of_mem _ (List.mem_append_right _ h)) (List.mem_of_getElem? (i := 2) rfl) rfl rfl dX1_ratherHas_25 rfl ?_
    refine vv_iload_n (q := 29) X 2 dX1_ratherHas_28 rfl rfl rfl ?_
    obtain ⟨hin9, h⟩ := h
    refine vv_aldA (q := 30) X 38 8 (Nat.le_of_ble_eq_true rfl) rfl hin9 dX1_ratherHas_29 rfl ?_
    refine vv_iload_n (q := 31) X 0 dX1_ratherHas_30 rfl rfl rfl ?_
    obtain ⟨hin10, h⟩ := h
    refine vv_iald (q := 32) X (39 + a1.toNatClampNeg) 8 (eRlikes_lt 0 hin9 (Nat.le_of_ble_eq_true rfl)) (fun f => eRlikes (ad := ad) (cy := cy) hin9 f σ.2) hin10 dX1_ratherHas_31 rfl ?_
    refine vv_sub (lv' := []) [] rfl ?_
    exact tJ5 (σ.1 (39 + a1.toNatClampNeg) z2.toNatClampNeg) h
  · have h := h.2 c8
    refine vv_iconst (q := 21) X (0 : Int32) dX1_ratherHas_20 (by decide) rfl ?_
    refine vv_goto X 32 dX1_ratherHas_21 (by decide) ?_
    refine vv_sub (lv' := []) [] rfl ?_
    exact tJ5 (0 : Int32) h

/-! X1_askNext: askNext(I)V -/
def rmX1_askNext : Room := { frames := 1, cells := 0, slots := 0, locals := 23 }
def wLX1_askNext_4 (f1 : Int32) (σ : St) (K66 : Int32 → Prop) (P : St → Prop) : Nat → Int32 → Int32 → Prop
  | 0, _, _ => False
  | n + 1, x2, x3 =>
    ((8 : Int32) ≤ x3 →
    K66 x2) ∧
    (¬ (8 : Int32) ≤ x3 →
    vp_in f1 8 ∧
    (¬ (((σ.1 49 f1.toNatClampNeg) >>> (x3 &&& 31)) &&& (1 : Int32)) = 0 →
    ∀ z4 : Int32, z4 = x3 + (1 : Int32) →
    wLX1_askNext_4 f1 σ K66 P n x2 z4) ∧
    ((((σ.1 49 f1.toNatClampNeg) >>> (x3 &&& 31)) &&& (1 : Int32)) = 0 →
    vp_in f1 8 ∧
    vp_in x3 8 ∧
    ((σ.1 (39 + f1.toNatClampNeg) x3.toNatClampNeg) ≤ 0 →
    ∀ z8 : Int32, z8 = x3 + (1 : Int32) →
    wLX1_askNext_4 f1 σ K66 P n x2 z8) ∧
    (¬ (σ.1 (39 + f1.toNatClampNeg) x3.toNatClampNeg) ≤ 0 →
    (x2 = (-1 : Int32) →
    ∀ z10 : Int32, z10 = x3 + (1 : Int32) →
    wLX1_askNext_4 f1 σ K66 P n x3 z10) ∧
    (¬ x2 = (-1 : Int32) →
    vp_in f1 8 ∧
    vp_in x3 8 ∧
    vp_in f1 8 ∧
    vp_in x2 8 ∧
    ((σ.1 (39 + f1.toNatClampNeg) x3.toNatClampNeg) ≤ (σ.1 (39 + f1.toNatClampNeg) x2.toNatClampNeg) →
    ∀ z16 : Int32, z16 = x3 + (1 : Int32) →
    wLX1_askNext_4 f1 σ K66 P n x2 z16) ∧
    (¬ (σ.1 (39 + f1.toNatClampNeg) x3.toNatClampNeg) ≤ (σ.1 (39 + f1.toNatClampNeg) x2.toNatClampNeg) →
    ∀ z17 : Int32, z17 = x3 + (1 : Int32) →
    wLX1_askNext_4 f1 σ K66 P n x3 z17)))))

set_option maxHeartbeats 4000000 in
set_option maxRecDepth 100000 in
theorem twLX1_askNext_4 {p : Program} {l : Launch} {e : Env} {s : State} {m : MethodId} {args : Array Value} {below : List Frame} {meth : Method} {c : Code} {D : va_G} {cy : Nat → ClassId} {ad : Nat → Nat} {zb : Nat → Nat} (X : XX p s m args meth c cX1_askNext 4 D cy (wC ad cy zb) wsX1_askNext RX1) (hr : meth.sig.returnType = none) (f1 : Int32)  (σ : St) (K66 : Int32 → Prop) {P : St → Prop} (hK66 : ∀ (x2 : Int32), K66 x2 → VV p l e rmX1_askNext s m args below meth c (MQ below (va_Qv P (xPost D (wC ad cy zb)) (xA (wC ad cy zb))) args s 0 0 (xA (wC ad cy zb))) 4 D (wC ad cy zb) σ 66 [(0, .ref (ad 37)), (1, .int f1), (2, .int x2)] []) : ∀ (n : Nat) (x2 : Int32) (x3 : Int32), wLX1_askNext_4 f1 σ K66 P n x2 x3 → VV p l e rmX1_askNext s m args below meth c (MQ below (va_Qv P (xPost D (wC ad cy zb)) (xA (wC ad cy zb))) args s 0 0 (xA (wC ad cy zb))) 4 D (wC ad cy zb) σ 4 [(0, .ref (ad 37)), (1, .int f1), (2, .int x2), (3, .int x3)] [] := by
  intro n
  induction n with
  | zero => intro x2 x3 h; exact h.elim
  | succ n ih =>
    intro x2 x3 h
    rw [wLX1_askNext_4] at h
    refine vv_iload_n (q := 5) X 3 dX1_askNext_4 rfl rfl rfl ?_
    refine vv_bipush (q := 7) X (8 : Int32) dX1_askNext_5 (by decide) rfl ?_
    refine vv_icmp_ge (q := 10) X 66 dX1_askNext_7 (by decide) rfl (fun c1 => ?_) (fun c1 => ?_)
    · have h := h.1 c1
      refine vv_sub (lv' := [(0, .ref (ad 37)), (1, .int f1), (2, .int x2)]) [0, 1, 2] rfl ?_
      exact hK66 x2 h
    · have h := h.2 c1
      refine vv_aload_n (q := 11) X 0 dX1_askNext_10 rfl rfl rfl ?_
      refine vv_getf (q := 14) (ref := "HalfLadders$Liking") (C := RX1) (T := TX1) (N := 5) X 37 1 3 (Nat.le_of_ble_eq_true rfl) rfl rfl (Nat.le_of_ble_eq_true rfl) (fun _ h => List.mem_cons_of_mem _ (List.mem_append_right _ h)) (List.mem_of_getElem? (i := 1) rfl) rfl rfl dX1_askNext_11 rfl ?_
      refine vv_iload_n (q := 15) X 1 dX1_askNext_14 rfl rfl rfl ?_
      obtain ⟨hin2, h⟩ := h
      refine vv_iald (q := 16) X 49 8 (Nat.le_of_ble_eq_true rfl) (fun _ => rfl) hin2 dX1_askNext_15 rfl ?_
      refine vv_iload_n (q := 17) X 3 dX1_askNext_16 rfl rfl rfl ?_
      refine vv_ishr (q := 18) X dX1_askNext_17 rfl ?_
      refine vv_iconst (q := 19) X (1 : Int32) dX1_askNext_18 (by decide) rfl ?_
      refine vv_iand (q := 20) X dX1_askNext_19 rfl ?_
      refine vv_if_ne (q := 23) X 60 dX1_askNext_20 (by decide) rfl (fun c3 => ?_) (fun c3 => ?_)
      · have h := h.1 c3
        obtain ⟨z4, hz4⟩ : ∃ y : Int32, y = x3 + (1 : Int32) := ⟨_, rfl⟩
        have h := h z4 hz4
        refine vv_iinc (v := z4) (lv2 := [(3, .int z4), (0, .ref (ad 37)), (1, .int f1), (2, .int x2)]) (q := 63) X 3 dX1_askNext_60 rfl (by rw [hz4]; rfl) (Nat.le_of_ble_eq_true rfl) rfl rfl ?_
        refine vv_goto X 4 dX1_askNext_63 (by decide) ?_
        refine vv_sub (lv' := [(0, .ref (ad 37)), (1, .int f1), (2, .int x2), (3, .int z4)]) [1, 2, 3, 0] rfl ?_
        exact ih x2 z4 h
      · have h := h.2 c3
        refine vv_aload_n (q := 24) X 0 dX1_askNext_23 rfl rfl rfl ?_
        refine vv_getf (q := 27) (ref := "HalfLadders$Liking") (C := RX1) (T := TX1) (N := 5) X 37 1 0 (Nat.le_of_ble_eq_true rfl) rfl rfl (Nat.le_of_ble_eq_true rfl) (fun _ h => List.mem_cons_of_mem _ (List.mem_append_right _ h)) (List.mem_of_getElem? (i := 2) rfl) rfl rfl dX1_askNext_24 rfl ?_
        refine vv_iload_n (q := 28) X 1 dX1_askNext_27 rfl rfl rfl ?_
        obtain ⟨hin5, h⟩ := h
        refine vv_aldA (q := 29) X 38 8 (Nat.le_of_ble_eq_true rfl) rfl hin5 dX1_askNext_28 rfl ?_
        refine vv_iload_n (q := 30) X 3 dX1_askNext_29 rfl rfl rfl ?_
        obtain ⟨hin6, h⟩ := h
        refine vv_iald (q := 31) X (39 + f1.toNatClampNeg) 8 (eRlikes_lt 0 hin5 (Nat.le_of_ble_eq_true rfl)) (fun f => eRlikes (ad := ad) (cy := cy) hin5 f σ.2) hin6 dX1_askNext_30 rfl ?_
        refine vv_if_le (q := 34) X 60 dX1_askNext_31 (by decide) rfl (fun c7 => ?_) (fun c7 => ?_)
        · have h := h.1 c7
          obtain ⟨z8, hz8⟩ : ∃ y : Int32, y = x3 + (1 : Int32) := ⟨_, rfl⟩
          have h := h z8 hz8
          refine vv_iinc (v := z8) (lv2 := [(3, .int z8), (0, .ref (ad 37)), (1, .int f1), (2, .int x2)]) (q := 63) X 3 dX1_askNext_60 rfl (by rw [hz8]; rfl) (Nat.le_of_ble_eq_true rfl) rfl rfl ?_
          refine vv_goto X 4 dX1_askNext_63 (by decide) ?_
          refine vv_sub (lv' := [(0, .ref (ad 37)), (1, .int f1), (2, .int x2), (3, .int z8)]) [1, 2, 3, 0] rfl ?_
          exact ih x2 z8 h
        · have h := h.2 c7
          refine vv_iload_n (q := 35) X 2 dX1_askNext_34 rfl rfl rfl ?_
          refine vv_iconst (q := 36) X (-1 : Int32) dX1_askNext_35 (by decide) rfl ?_
          refine vv_icmp_eq (q := 39) X 58 dX1_askNext_36 (by decide) rfl (fun c9 => ?_) (fun c9 => ?_)
          · have h := h.1 c9
            refine vv_iload_n (q := 59) X 3 dX1_askNext_58 rfl rfl rfl ?_
            refine vv_istore_n (lv2 := [(2, .int x3), (0, .ref (ad 37)), (1, .int f1), (3, .int x3)]) (q := 60) X dX1_askNext_59 rfl (Nat.le_of_ble_eq_true rfl) rfl rfl ?_
            obtain ⟨z10, hz10⟩ : ∃ y : Int32, y = x3 + (1 : Int32) := ⟨_, rfl⟩
            have h := h z10 hz10
            refine vv_iinc (v := z10) (lv2 := [(3, .int z10), (2, .int x3), (0, .ref (ad 37)), (1, .int f1)]) (q := 63) X 3 dX1_askNext_60 rfl (by rw [hz10]; rfl) (Nat.le_of_ble_eq_true rfl) rfl rfl ?_
            refine vv_goto X 4 dX1_askNext_63 (by decide) ?_
            refine vv_sub (lv' := [(0, .ref (ad 37)), (1, .int f1), (2, .int x3), (3, .int z10)]) [2, 3, 1, 0] rfl ?_
            exact ih x3 z10 h
          · have h := h.2 c9
            refine vv_aload_n (q := 40) X 0 dX1_askNext_39 rfl rfl rfl ?_
            refine vv_getf (q := 43) (ref := "HalfLadders$Liking") (C := RX1) (T := TX1) (N := 5) X 37 1 0 (Nat.le_of_ble_eq_true rfl) rfl rfl (Nat.le_of_ble_eq_true rfl) (fun _ h => List.mem_cons_of_mem _ (List.mem_append_right _ h)) (List.mem_of_getElem? (i := 2) rfl) rfl rfl dX1_askNext_40 rfl ?_
            refine vv_iload_n (q := 44) X 1 dX1_askNext_43 rfl rfl rfl ?_
            obtain ⟨hin11, h⟩ := h
            refine vv_aldA (q := 45) X 38 8 (Nat.le_of_ble_eq_true rfl) rfl hin11 dX1_askNext_44 rfl ?_
            refine vv_iload_n (q := 46) X 3 dX1_askNext_45 rfl rfl rfl ?_
            obtain ⟨hin12, h⟩ := h
            refine vv_iald (q := 47) X (39 + f1.toNatClampNeg) 8 (eRlikes_lt 0 hin11 (Nat.le_of_ble_eq_true rfl)) (fun f => eRlikes (ad := ad) (cy := cy) hin11 f σ.2) hin12 dX1_askNext_46 rfl ?_
            refine vv_aload_n (q := 48) X 0 dX1_askNext_47 rfl rfl rfl ?_
            refine vv_getf (q := 51) (ref := "HalfLadders$Liking") (C := RX1) (T := TX1) (N := 5) X 37 1 0 (Nat.le_of_ble_eq_true rfl) rfl rfl (Nat.le_of_ble_eq_true rfl) (fun _ h => List.mem_cons_of_mem _ (List.mem_append_right _ h)) (List.mem_of_getElem? (i := 2) rfl) rfl rfl dX1_askNext_48 rfl ?_
            refine vv_iload_n (q := 52) X 1 dX1_askNext_51 rfl rfl rfl ?_
            obtain ⟨hin13, h⟩ := h
            refine vv_aldA (q := 53) X 38 8 (Nat.le_of_ble_eq_true rfl) rfl hin13 dX1_askNext_52 rfl ?_
            refine vv_iload_n (q := 54) X 2 dX1_askNext_53 rfl rfl rfl ?_
            obtain ⟨hin14, h⟩ := h
            refine vv_iald (q := 55) X (39 + f1.toNatClampNeg) 8 (eRlikes_lt 0 hin13 (Nat.le_of_ble_eq_true rfl)) (fun f => eRlikes (ad := ad) (cy := cy) hin13 f σ.2) hin14 dX1_askNext_54 rfl ?_
            refine vv_icmp_le (q := 58) X 60 dX1_askNext_55 (by decide) rfl (fun c15 => ?_) (fun c15 => ?_)
            · have h := h.1 c15
              obtain ⟨z16, hz16⟩ : ∃ y : Int32, y = x3 + (1 : Int32) := ⟨_, rfl⟩
              have h := h z16 hz16
              refine vv_iinc (v := z16) (lv2 := [(3, .int z16), (0, .ref (ad 37)), (1, .int f1), (2, .int x2)]) (q := 63) X 3 dX1_askNext_60 rfl (by rw [hz16]; rfl) (Nat.le_of_ble_eq_true rfl) rfl rfl ?_
              refine vv_goto X 4 dX1_askNext_63 (by decide) ?_
              refine vv_sub (lv' := [(0, .ref (ad 37)), (1, .int f1), (2, .int x2), (3, .int z16)]) [1, 2, 3, 0] rfl ?_
              exact ih x2 z16 h
            · have h := h.2 c15
              refine vv_iload_n (q := 59) X 3 dX1_askNext_58 rfl rfl rfl ?_
              refine vv_istore_n (lv2 := [(2, .int x3), (0, .ref (ad 37)), (1, .int f1), (3, .int x3)]) (q := 60) X dX1_askNext_59 rfl (Nat.le_of_ble_eq_true rfl) rfl rfl ?_
              obtain ⟨z17, hz17⟩ : ∃ y : Int32, y = x3 + (1 : Int32) := ⟨_, rfl⟩
              have h := h z17 hz17
              refine vv_iinc (v := z17) (lv2 := [(3, .int z17), (2, .int x3), (0, .ref (ad 37)), (1, .int f1)]) (q := 63) X 3 dX1_askNext_60 rfl (by rw [hz17]; rfl) (Nat.le_of_ble_eq_true rfl) rfl rfl ?_
              refine vv_goto X 4 dX1_askNext_63 (by decide) ?_
              refine vv_sub (lv' := [(0, .ref (ad 37)), (1, .int f1), (2, .int x3), (3, .int z17)]) [2, 3, 1, 0] rfl ?_
              exact ih x3 z17 h

def wX1_askNext (σ : St) (a1 : Int32) (P : St → Prop) : Prop :=
∃ n36 : Nat, wLX1_askNext_4 a1 σ (fun (y18 : Int32) =>
(¬ y18 = (-1 : Int32) →
vp_in a1 8 ∧
vp_in a1 8 ∧
∀ σ22 : St, σ22 = sI σ 49 a1.toNatClampNeg ((σ.1 49 a1.toNatClampNeg) ||| ((1 : Int32) <<< (y18 &&& 31))) →
wX1_ratherHas σ22 y18 a1 (fun r23 : Int32 =>
(r23 = 0 →
P σ22) ∧
(¬ r23 = 0 →
vp_in y18 8 ∧
∀ z26 : Int32, z26 = (σ22.1 48 y18.toNatClampNeg) →
jn (fun (σ28 : St) =>
vp_in y18 8 ∧
∀ σ30 : St, σ30 = sI σ28 48 y18.toNatClampNeg a1 →
vp_in a1 8 ∧
∀ σ32 : St, σ32 = sI σ30 48 a1.toNatClampNeg y18 →
P σ32) (fun J27 : St → Prop =>
(z26 = (-1 : Int32) →
J27 σ22) ∧
(¬ z26 = (-1 : Int32) →
vp_in z26 8 ∧
∀ σ35 : St, σ35 = sI σ22 48 z26.toNatClampNeg (-1 : Int32) →
J27 σ35))))) ∧
(y18 = (-1 : Int32) →
P σ)) P n36 (-1 : Int32) (0 : Int32)

set_option maxHeartbeats 8000000 in
set_option maxRecDepth 100000 in
theorem kX1_askNext (l : Launch) (D : va_G) {cy : Nat → ClassId} {ad : Nat → Nat} {zb : Nat → Nat} (hw : xOk (wC ad cy zb)) {σ : St} {a1 : Int32} {P : St → Prop} (h : wX1_askNext σ a1 P) : MV l yX1_askNext wsX1_askNext rmX1_askNext D cy (wC ad cy zb) [.ref (ad 37), .int a1] σ P := by
  unfold MV
  refine vv_met (cc := cX1_askNext) (maxL := 4) (ret := none) hw (by decide +kernel) rfl [.ref (ad 37), .int a1] (Nat.le_of_ble_eq_true rfl) ?_
  intro p e s m args below meth c X hr
  have X : XX p s m args meth c cX1_askNext 4 D cy (wC ad cy zb) wsX1_askNext RX1 := X
  refine vv_sub (lv' := [(0, .ref (ad 37)), (1, .int a1)]) [0, 1] rfl ?_
  rw [wX1_askNext] at h
  refine vv_iconst (q := 1) X (-1 : Int32) dX1_askNext_0 (by decide) rfl ?_
  refine vv_istore_n (lv2 := [(2, .int (-1 : Int32)), (0, .ref (ad 37)), (1, .int a1)]) (q := 2) X dX1_askNext_1 rfl (Nat.le_of_ble_eq_true rfl) rfl rfl ?_
  refine vv_iconst (q := 3) X (0 : Int32) dX1_askNext_2 (by decide) rfl ?_
  refine vv_istore_n (lv2 := [(3, .int (0 : Int32)), (2, .int (-1 : Int32)), (0, .ref (ad 37)), (1, .int a1)]) (q := 4) X dX1_askNext_3 rfl (Nat.le_of_ble_eq_true rfl) rfl rfl ?_
  obtain ⟨n36, h⟩ := h
  refine vv_sub (lv' := [(0, .ref (ad 37)), (1, .int a1), (2, .int (-1 : Int32)), (3, .int (0 : Int32))]) [2, 3, 1, 0] rfl ?_
  refine twLX1_askNext_4 X hr a1  σ _ ?_ n36 (-1 : Int32) (0 : Int32) h
  intro y18 h
  refine vv_iload_n (q := 67) X 2 dX1_askNext_66 rfl rfl rfl ?_
  refine vv_iconst (q := 68) X (-1 : Int32) dX1_askNext_67 (by decide) rfl ?_
  refine vv_icmp_ne (q := 71) X 72 dX1_askNext_68 (by decide) rfl (fun c19 => ?_) (fun c19 => ?_)
  · have h := h.1 c19
    refine vv_aload_n (q := 73) X 0 dX1_askNext_72 rfl rfl rfl ?_
    refine vv_getf (q := 76) (ref := "HalfLadders$Liking") (C := RX1) (T := TX1) (N := 5) X 37 1 3 (Nat.le_of_ble_eq_true rfl) rfl rfl (Nat.le_of_ble_eq_true rfl) (fun _ h => List.mem_cons_of_mem _ (List.mem_append_right _ h)) (List.mem_of_getElem? (i := 1) rfl) rfl rfl dX1_askNext_73 rfl ?_
    refine vv_iload_n (q := 77) X 1 dX1_askNext_76 rfl rfl rfl ?_
    refine vv_dup2 (q := 78) X dX1_askNext_77 rfl rfl rfl ?_
    obtain ⟨hin20, h⟩ := h
    refine vv_iald (q := 79) X 49 8 (Nat.le_of_ble_eq_true rfl) (fun _ => rfl) hin20 dX1_askNext_78 rfl ?_
    refine vv_iconst (q := 80) X (1 : Int32) dX1_askNext_79 (by decide) rfl ?_
    refine vv_iload_n (q := 81) X 2 dX1_askNext_80 rfl rfl rfl ?_
    refine vv_ishl (q := 82) X dX1_askNext_81 rfl ?_
    refine vv_ior (q := 83) X dX1_askNext_82 rfl ?_
    obtain ⟨hin21, h⟩ := h
    refine vv_iast (q := 84) X 49 8 (Nat.le_of_ble_eq_true rfl) (fun _ => rfl) hin21 dX1_askNext_83 rfl ?_
    refine vv_nm (fun σ22 hσ22 => ?_)
    have h := h σ22 hσ22
    refine vv_aload_n (q := 85) X 0 dX1_askNext_84 rfl rfl rfl ?_
    refine vv_iload_n (q := 86) X 2 dX1_askNext_85 rfl rfl rfl ?_
    refine vv_iload_n (q := 87) X 1 dX1_askNext_86 rfl rfl rfl ?_
    refine vv_cVi (q := 90) (C := RX1) X 37 1 [.int y18, .int a1] (kX1_ratherHas l D X.2.2.1 h) (cwV 2 X.1.2.2.2.2 gX1_askNext_X1_ratherHas rfl rfl rfl (by decide +kernel) ⟨Nat.le_of_ble_eq_true rfl, Nat.le_of_ble_eq_true rfl⟩) (Nat.le_of_ble_eq_true rfl) rfl rfl rfl rfl (Nat.le_of_ble_eq_true rfl) dX1_askNext_87 rfl (fun r23 u9 h9 => ?_)
    obtain ⟨h9, hu9⟩ := h9
    subst u9
    have h := h9
    refine vv_if_eq (q := 93) X 126 dX1_askNext_90 (by decide) rfl (fun c24 => ?_) (fun c24 => ?_)
    · have h := h.1 c24
      exact vv_vret X hr dX1_askNext_126 h
    · have h := h.2 c24
      refine vv_aload_n (q := 94) X 0 dX1_askNext_93 rfl rfl rfl ?_
      refine vv_getf (q := 97) (ref := "HalfLadders$Liking") (C := RX1) (T := TX1) (N := 5) X 37 1 2 (Nat.le_of_ble_eq_true rfl) rfl rfl (Nat.le_of_ble_eq_true rfl) (fun _ h => List.mem_cons_of_mem _ (List.mem_append_right _ h)) (List.mem_of_getElem? (i := 3) rfl) rfl rfl dX1_askNext_94 rfl ?_
      refine vv_iload_n (q := 98) X 2 dX1_askNext_97 rfl rfl rfl ?_
      obtain ⟨hin25, h⟩ := h
      refine vv_iald (q := 99) X 48 8 (Nat.le_of_ble_eq_true rfl) (fun _ => rfl) hin25 dX1_askNext_98 rfl ?_
      refine vv_topi (fun z26 hz26 => ?_)
      have h := h z26 hz26
      refine vv_istore_n (lv2 := [(3, .int z26), (0, .ref (ad 37)), (1, .int a1), (2, .int y18)]) (q := 100) X dX1_askNext_99 rfl (Nat.le_of_ble_eq_true rfl) rfl rfl ?_
      refine vv_iload_n (q := 101) X 0 dX1_askNext_100 rfl rfl rfl ?_
      refine vv_iconst (q := 102) X (-1 : Int32) dX1_askNext_101 (by decide) rfl ?_
      obtain ⟨J27, hJ27, h⟩ := jn_el h
      have tJ27 : ∀ (σ28 : St), J27 σ28 → VV p l e rmX1_askNext s m args below meth c (MQ below (va_Qv P (xPost D (wC ad cy zb)) (xA (wC ad cy zb))) args s 0 0 (xA (wC ad cy zb))) 4 D (wC ad cy zb) σ28 112 [(0, .ref (ad 37)), (1, .int a1), (2, .int y18)] [] := by
        intro σ28 h
        rw [hJ27] at h
        refine vv_aload_n (q := 113) X 0 dX1_askNext_112 rfl rfl rfl ?_
        refine vv_getf (q := 116) (ref := "HalfLadders$Liking") (C := RX1) (T := TX1) (N := 5) X 37 1 2 (Nat.le_of_ble_eq_true rfl) rfl rfl (Nat.le_of_ble_eq_true rfl) (fun _ h => List.mem_cons_of_mem _ (List.mem_append_right _ h)) (List.mem_of_getElem? (i := 3) rfl) rfl rfl dX1_askNext_113 rfl ?_
        refine vv_iload_n (q := 117) X 2 dX1_askNext_116 rfl rfl rfl ?_
        refine vv_iload_n (q := 118) X 1 dX1_askNext_117 rfl rfl rfl ?_
        obtain ⟨hin29, h⟩ := h
        refine vv_iast (q := 119) X 48 8 (Nat.le_of_ble_eq_true rfl) (fun _ => rfl) hin29 dX1_askNext_118 rfl ?_
        refine vv_nm (fun σ30 hσ30 => ?_)
        have h := h σ30 hσ30
        refine vv_aload_n (q := 120) X 0 dX1_askNext_119 rfl rfl rfl ?_
        refine vv_getf (q := 123) (ref := "HalfLadders$Liking") (C := RX1) (T := TX1) (N := 5) X 37 1 2 (Nat.le_of_ble_eq_true rfl) rfl rfl (Nat.le_of_ble_eq_true rfl) (fun _ h => List.mem_cons_of_mem _ (List.mem_append_right _ h)) (List.mem_of_getElem? (i := 3) rfl) rfl rfl dX1_askNext_120 rfl ?_
        refine vv_iload_n (q := 124) X 1 dX1_askNext_123 rfl rfl rfl ?_
        refine vv_iload_n (q := 125) X 2 dX1_askNext_124 rfl rfl rfl ?_
        obtain ⟨hin31, h⟩ := h
        refine vv_iast (q := 126) X 48 8 (Nat.le_of_ble_eq_true rfl) (fun _ => rfl) hin31 dX1_askNext_125 rfl ?_
        refine vv_nm (fun σ32 hσ32 => ?_)
        have h := h σ32 hσ32
        exact vv_vret X hr dX1_askNext_126 h
      refine vv_icmp_eq (q := 105) X 112 dX1_askNext_102 (by decide) rfl (fun c33 => ?_) (fun c33 => ?_)
      · have h := h.1 c33
        refine vv_sub (lv' := [(0, .ref (ad 37)), (1, .int a1), (2, .int y18)]) [1, 2, 3] rfl ?_
        exact tJ27 σ22 h
      · have h := h.2 c33
        refine vv_aload_n (q := 106) X 1 dX1_askNext_105 rfl rfl rfl ?_
        refine vv_getf (q := 109) (ref := "HalfLadders$Liking") (C := RX1) (T := TX1) (N := 5) X 37 1 2 (Nat.le_of_ble_eq_true rfl) rfl rfl (Nat.le_of_ble_eq_true rfl) (fun _ h => List.mem_cons_of_mem _ (List.mem_append_right _ h)) (List.mem_of_getElem? (i := 3) rfl) rfl rfl dX1_askNext_106 rfl ?_
        refine vv_iload_n (q := 110) X 0 dX1_askNext_109 rfl rfl rfl ?_
        refine vv_iconst (q := 111) X (-1 : Int32) dX1_askNext_110 (by decide) rfl ?_
        obtain ⟨hin34, h⟩ := h
        refine vv_iast (q := 112) X 48 8 (Nat.le_of_ble_eq_true rfl) (fun _ => rfl) hin34 dX1_askNext_111 rfl ?_
        refine vv_nm (fun σ35 hσ35 => ?_)
        have h := h σ35 hσ35
        refine vv_sub (lv' := [(0, .ref (ad 37)), (1, .int a1), (2, .int y18)]) [1, 2, 3] rfl ?_
        exact tJ27 σ35 h
  · have h := h.2 c19
    exact vv_vret X hr dX1_askNext_71 h

/-! X1_askAll: askAll(LHalfLadders$Pairs;)V -/
def rmX1_askAll : Room := { frames := 2, cells := 0, slots := 0, locals := 46 }
def wLX1_askAll_20 (f2 : Int32)  (K58 : St → Prop) (P : St → Prop) : Nat → St → Int32 → Prop
  | 0, _, _ => False
  | n + 1, σ, x3 =>
    ((8 : Int32) ≤ x3 →
    K58 σ) ∧
    (¬ (8 : Int32) ≤ x3 →
    ((((σ.1 25 1) >>> (x3 &&& 31)) &&& (1 : Int32)) = 0 →
    ∀ z5 : Int32, z5 = x3 + (1 : Int32) →
    wLX1_askAll_20 f2 K58 P n σ z5) ∧
    (¬ (((σ.1 25 1) >>> (x3 &&& 31)) &&& (1 : Int32)) = 0 →
    vp_in x3 8 ∧
    (¬ (σ.1 48 x3.toNatClampNeg) = (-1 : Int32) →
    ∀ z8 : Int32, z8 = x3 + (1 : Int32) →
    wLX1_askAll_20 f2 K58 P n σ z8) ∧
    ((σ.1 48 x3.toNatClampNeg) = (-1 : Int32) →
    wX1_askNext σ x3 (fun σ9 : St =>
    ∀ z10 : Int32, z10 = x3 + (1 : Int32) →
    wLX1_askAll_20 f2 K58 P n σ9 z10))))

set_option maxHeartbeats 4000000 in
set_option maxRecDepth 100000 in
theorem twLX1_askAll_20 {p : Program} {l : Launch} {e : Env} {s : State} {m : MethodId} {args : Array Value} {below : List Frame} {meth : Method} {c : Code} {D : va_G} {cy : Nat → ClassId} {ad : Nat → Nat} {zb : Nat → Nat} (X : XX p s m args meth c cX1_askAll 4 D cy (wC ad cy zb) wsX1_askAll RX1) (hr : meth.sig.returnType = none) (f2 : Int32)   (K58 : St → Prop) {P : St → Prop} (hK58 : ∀ (σ : St), K58 σ → VV p l e rmX1_askAll s m args below meth c (MQ below (va_Qv P (xPost D (wC ad cy zb)) (xA (wC ad cy zb))) args s 0 0 (xA (wC ad cy zb))) 4 D (wC ad cy zb) σ 58 [(0, .ref (ad 37)), (1, .ref (ad 25)), (2, .int f2)] []) : ∀ (n : Nat) (σ : St) (x3 : Int32), wLX1_askAll_20 f2 K58 P n σ x3 → VV p l e rmX1_askAll s m args below meth c (MQ below (va_Qv P (xPost D (wC ad cy zb)) (xA (wC ad cy zb))) args s 0 0 (xA (wC ad cy zb))) 4 D (wC ad cy zb) σ 20 [(0, .ref (ad 37)), (1, .ref (ad 25)), (2, .int f2), (3, .int x3)] [] := by
  intro n
  induction n with
  | zero => intro σ x3 h; exact h.elim
  | succ n ih =>
    intro σ x3 h
    rw [wLX1_askAll_20] at h
    refine vv_iload_n (q := 21) X 3 dX1_askAll_20 rfl rfl rfl ?_
    refine vv_bipush (q := 23) X (8 : Int32) dX1_askAll_21 (by decide) rfl ?_
    refine vv_icmp_ge (q := 26) X 58 dX1_askAll_23 (by decide) rfl (fun c3 => ?_) (fun c3 => ?_)
    · have h := h.1 c3
      refine vv_sub (lv' := [(0, .ref (ad 37)), (1, .ref (ad 25)), (2, .int f2)]) [0, 1, 2] rfl ?_
      exact hK58 σ h
    · have h := h.2 c3
      refine vv_aload_n (q := 27) X 1 dX1_askAll_26 rfl rfl rfl ?_
      refine vv_getf (q := 30) (ref := "HalfLadders$Pairs") (C := RX4) (T := TX4) (N := 8) X 25 4 1 (Nat.le_of_ble_eq_true rfl) rfl rfl (Nat.le_of_ble_eq_true rfl) (fun _ h => List.mem_cons_of_mem _ (List.mem_append_right _ h)) (List.mem_of_getElem? (i := 3) rfl) rfl rfl dX1_askAll_27 rfl ?_
      refine vv_iload_n (q := 31) X 3 dX1_askAll_30 rfl rfl rfl ?_
      refine vv_ishr (q := 32) X dX1_askAll_31 rfl ?_
      refine vv_iconst (q := 33) X (1 : Int32) dX1_askAll_32 (by decide) rfl ?_
      refine vv_iand (q := 34) X dX1_askAll_33 rfl ?_
      refine vv_if_eq (q := 37) X 52 dX1_askAll_34 (by decide) rfl (fun c4 => ?_) (fun c4 => ?_)
      · have h := h.1 c4
        obtain ⟨z5, hz5⟩ : ∃ y : Int32, y = x3 + (1 : Int32) := ⟨_, rfl⟩
        have h := h z5 hz5
        refine vv_iinc (v := z5) (lv2 := [(3, .int z5), (0, .ref (ad 37)), (1, .ref (ad 25)), (2, .int f2)]) (q := 55) X 3 dX1_askAll_52 rfl (by rw [hz5]; rfl) (Nat.le_of_ble_eq_true rfl) rfl rfl ?_
        refine vv_goto X 20 dX1_askAll_55 (by decide) ?_
        refine vv_sub (lv' := [(0, .ref (ad 37)), (1, .ref (ad 25)), (2, .int f2), (3, .int z5)]) [1, 2, 3, 0] rfl ?_
        exact ih σ z5 h
      · have h := h.2 c4
        refine vv_aload_n (q := 38) X 0 dX1_askAll_37 rfl rfl rfl ?_
        refine vv_getf (q := 41) (ref := "HalfLadders$Liking") (C := RX1) (T := TX1) (N := 5) X 37 1 2 (Nat.le_of_ble_eq_true rfl) rfl rfl (Nat.le_of_ble_eq_true rfl) (fun _ h => List.mem_cons_of_mem _ (List.mem_append_left _ (List.mem_append_right _ h))) (List.mem_of_getElem? (i := 4) rfl) rfl rfl dX1_askAll_38 rfl ?_
        refine vv_iload_n (q := 42) X 3 dX1_askAll_41 rfl rfl rfl ?_
        obtain ⟨hin6, h⟩ := h
        refine vv_iald (q := 43) X 48 8 (Nat.le_of_ble_eq_true rfl) (fun _ => rfl) hin6 dX1_askAll_42 rfl ?_
        refine vv_iconst (q := 44) X (-1 : Int32) dX1_askAll_43 (by decide) rfl ?_
        refine vv_icmp_ne (q := 47) X 52 dX1_askAll_44 (by decide) rfl (fun c7 => ?_) (fun c7 => ?_)
        · have h := h.1 c7
          obtain ⟨z8, hz8⟩ : ∃ y : Int32, y = x3 + (1 : Int32) := ⟨_, rfl⟩
          have h := h z8 hz8
          refine vv_iinc (v := z8) (lv2 := [(3, .int z8), (0, .ref (ad 37)), (1, .ref (ad 25)), (2, .int f2)]) (q := 55) X 3 dX1_askAll_52 rfl (by rw [hz8]; rfl) (Nat.le_of_ble_eq_true rfl) rfl rfl ?_
          refine vv_goto X 20 dX1_askAll_55 (by decide) ?_
          refine vv_sub (lv' := [(0, .ref (ad 37)), (1, .ref (ad 25)), (2, .int f2), (3, .int z8)]) [1, 2, 3, 0] rfl ?_
          exact ih σ z8 h
        · have h := h.2 c7
          refine vv_aload_n (q := 48) X 0 dX1_askAll_47 rfl rfl rfl ?_
          refine vv_iload_n (q := 49) X 3 dX1_askAll_48 rfl rfl rfl ?_
          refine vv_cVv (q := 52) (C := RX1) X 37 1 [.int x3] (kX1_askNext l D X.2.2.1 h) (cwV 1 X.1.2.2.2.2 gX1_askAll_X1_askNext rfl rfl rfl (by decide +kernel) ⟨Nat.le_of_ble_eq_true rfl, Nat.le_of_ble_eq_true rfl⟩) (Nat.le_of_ble_eq_true rfl) rfl rfl rfl rfl (Nat.le_of_ble_eq_true rfl) dX1_askAll_49 rfl (fun σ9 h => ?_)
          obtain ⟨z10, hz10⟩ : ∃ y : Int32, y = x3 + (1 : Int32) := ⟨_, rfl⟩
          have h := h z10 hz10
          refine vv_iinc (v := z10) (lv2 := [(3, .int z10), (0, .ref (ad 37)), (1, .ref (ad 25)), (2, .int f2)]) (q := 55) X 3 dX1_askAll_52 rfl (by rw [hz10]; rfl) (Nat.le_of_ble_eq_true rfl) rfl rfl ?_
          refine vv_goto X 20 dX1_askAll_55 (by decide) ?_
          refine vv_sub (lv' := [(0, .ref (ad 37)), (1, .ref (ad 25)), (2, .int f2), (3, .int z10)]) [1, 2, 3, 0] rfl ?_
          exact ih σ9 z10 h

def wLX1_askAll_10   (K64 : St → Prop) (P : St → Prop) : Nat → St → Int32 → Prop
  | 0, _, _ => False
  | n + 1, σ, x2 =>
    ((σ.1 25 0) < x2 →
    K64 σ) ∧
    (¬ (σ.1 25 0) < x2 →
    ∃ n13 : Nat, wLX1_askAll_20 x2 (fun (σ11 : St) =>
    ∀ z12 : Int32, z12 = x2 + (1 : Int32) →
    wLX1_askAll_10 K64 P n σ11 z12) P n13 σ (0 : Int32))

set_option maxHeartbeats 4000000 in
set_option maxRecDepth 100000 in
theorem twLX1_askAll_10 {p : Program} {l : Launch} {e : Env} {s : State} {m : MethodId} {args : Array Value} {below : List Frame} {meth : Method} {c : Code} {D : va_G} {cy : Nat → ClassId} {ad : Nat → Nat} {zb : Nat → Nat} (X : XX p s m args meth c cX1_askAll 4 D cy (wC ad cy zb) wsX1_askAll RX1) (hr : meth.sig.returnType = none)    (K64 : St → Prop) {P : St → Prop} (hK64 : ∀ (σ : St), K64 σ → VV p l e rmX1_askAll s m args below meth c (MQ below (va_Qv P (xPost D (wC ad cy zb)) (xA (wC ad cy zb))) args s 0 0 (xA (wC ad cy zb))) 4 D (wC ad cy zb) σ 64 [] []) : ∀ (n : Nat) (σ : St) (x2 : Int32), wLX1_askAll_10 K64 P n σ x2 → VV p l e rmX1_askAll s m args below meth c (MQ below (va_Qv P (xPost D (wC ad cy zb)) (xA (wC ad cy zb))) args s 0 0 (xA (wC ad cy zb))) 4 D (wC ad cy zb) σ 10 [(0, .ref (ad 37)), (1, .ref (ad 25)), (2, .int x2)] [] := by
  intro n
  induction n with
  | zero => intro σ x2 h; exact h.elim
  | succ n ih =>
    intro σ x2 h
    rw [wLX1_askAll_10] at h
    refine vv_iload_n (q := 11) X 2 dX1_askAll_10 rfl rfl rfl ?_
    refine vv_aload_n (q := 12) X 1 dX1_askAll_11 rfl rfl rfl ?_
    refine vv_getf (q := 15) (ref := "HalfLadders$Pairs") (C := RX4) (T := TX4) (N := 8) X 25 4 0 (Nat.le_of_ble_eq_true rfl) rfl rfl (Nat.le_of_ble_eq_true rfl) (fun _ h => List.mem_cons_of_mem _ (List.mem_append_right _ h)) (List.mem_of_getElem? (i := 2) rfl) rfl rfl dX1_askAll_12 rfl ?_
    refine vv_icmp_gt (q := 18) X 64 dX1_askAll_15 (by decide) rfl (fun c2 => ?_) (fun c2 => ?_)
    · have h := h.1 c2
      refine vv_sub (lv' := []) [] rfl ?_
      exact hK64 σ h
    · have h := h.2 c2
      refine vv_iconst (q := 19) X (0 : Int32) dX1_askAll_18 (by decide) rfl ?_
      refine vv_istore_n (lv2 := [(3, .int (0 : Int32)), (0, .ref (ad 37)), (1, .ref (ad 25)), (2, .int x2)]) (q := 20) X dX1_askAll_19 rfl (Nat.le_of_ble_eq_true rfl) rfl rfl ?_
      obtain ⟨n13, h⟩ := h
      refine vv_sub (lv' := [(0, .ref (ad 37)), (1, .ref (ad 25)), (2, .int x2), (3, .int (0 : Int32))]) [1, 2, 3, 0] rfl ?_
      refine twLX1_askAll_20 X hr x2  _ ?_ n13 σ (0 : Int32) h
      intro σ11 h
      obtain ⟨z12, hz12⟩ : ∃ y : Int32, y = x2 + (1 : Int32) := ⟨_, rfl⟩
      have h := h z12 hz12
      refine vv_iinc (v := z12) (lv2 := [(2, .int z12), (0, .ref (ad 37)), (1, .ref (ad 25))]) (q := 61) X 2 dX1_askAll_58 rfl (by rw [hz12]; rfl) (Nat.le_of_ble_eq_true rfl) rfl rfl ?_
      refine vv_goto X 10 dX1_askAll_61 (by decide) ?_
      refine vv_sub (lv' := [(0, .ref (ad 37)), (1, .ref (ad 25)), (2, .int z12)]) [1, 2, 0] rfl ?_
      exact ih σ11 z12 h

def wX1_askAll (σ : St)  (P : St → Prop) : Prop :=
∀ σ1 : St, σ1 = sF σ 49 8 (0 : Int32) →
∃ n15 : Nat, wLX1_askAll_10 (fun (σ14 : St) =>
P σ14) P n15 σ1 (0 : Int32)

set_option maxHeartbeats 8000000 in
set_option maxRecDepth 100000 in
theorem kX1_askAll (l : Launch) (D : va_G) {cy : Nat → ClassId} {ad : Nat → Nat} {zb : Nat → Nat} (hw : xOk (wC ad cy zb)) {σ : St}  {P : St → Prop} (h : wX1_askAll σ  P) : MV l yX1_askAll wsX1_askAll rmX1_askAll D cy (wC ad cy zb) [.ref (ad 37), .ref (ad 25)] σ P := by
  unfold MV
  refine vv_met (cc := cX1_askAll) (maxL := 4) (ret := none) hw (by decide +kernel) rfl [.ref (ad 37), .ref (ad 25)] (Nat.le_of_ble_eq_true rfl) ?_
  intro p e s m args below meth c X hr
  have X : XX p s m args meth c cX1_askAll 4 D cy (wC ad cy zb) wsX1_askAll RX1 := X
  refine vv_sub (lv' := [(0, .ref (ad 37)), (1, .ref (ad 25))]) [0, 1] rfl ?_
  rw [wX1_askAll] at h
  refine vv_aload_n (q := 1) X 0 dX1_askAll_0 rfl rfl rfl ?_
  refine vv_getf (q := 4) (ref := "HalfLadders$Liking") (C := RX1) (T := TX1) (N := 5) X 37 1 3 (Nat.le_of_ble_eq_true rfl) rfl rfl (Nat.le_of_ble_eq_true rfl) (fun _ h => List.mem_cons_of_mem _ (List.mem_append_left _ (List.mem_append_right _ h))) (List.mem_of_getElem? (i := 1) rfl) rfl rfl dX1_askAll_1 rfl ?_
  refine vv_iconst (q := 5) X (0 : Int32) dX1_askAll_4 (by decide) rfl ?_
  refine vv_cSv (q := 8) (P := fun u => u = sF σ 49 8 (0 : Int32)) X [.ref (ad 49), .int (0 : Int32)] (kJ7_fill l D X.2.2.1 (k := 49) (n := 8) (Nat.le_of_ble_eq_true rfl) (fun _ => rfl) (Nat.le_of_ble_eq_true rfl) rfl) (va_cwS 2 X.1.2.2.2.2 gX1_askAll_J7_fill_53178 rfl rfl rfl (by decide +kernel) ⟨Nat.le_of_ble_eq_true rfl, Nat.le_of_ble_eq_true rfl⟩) rfl rfl (Nat.le_of_ble_eq_true rfl) dX1_askAll_5 rfl (fun σ1 hσ1 => ?_)
  have h := h σ1 hσ1
  refine vv_iconst (q := 9) X (0 : Int32) dX1_askAll_8 (by decide) rfl ?_
  refine vv_istore_n (lv2 := [(2, .int (0 : Int32)), (0, .ref (ad 37)), (1, .ref (ad 25))]) (q := 10) X dX1_askAll_9 rfl (Nat.le_of_ble_eq_true rfl) rfl rfl ?_
  obtain ⟨n15, h⟩ := h
  refine vv_sub (lv' := [(0, .ref (ad 37)), (1, .ref (ad 25)), (2, .int (0 : Int32))]) [1, 2, 0] rfl ?_
  refine twLX1_askAll_10 X hr  _ ?_ n15 σ1 (0 : Int32) h
  intro σ14 h
  exact vv_vret X hr dX1_askAll_64 h

/-! X1_isRest: isRest(LHalfLadders$Pairs;)Z -/
def rmX1_isRest : Room := { frames := 1, cells := 0, slots := 0, locals := 23 }
def wLX1_isRest_2  (σ : St) (K53 : Prop) (P : Int32 → Prop) : Nat → Int32 → Prop
  | 0, _ => False
  | n + 1, x2 =>
    ((σ.1 25 0) ≤ x2 →
    K53) ∧
    (¬ (σ.1 25 0) ≤ x2 →
    vp_in x2 16 ∧
    ∀ z3 : Int32, z3 = (σ.1 26 x2.toNatClampNeg) →
    vp_in x2 16 ∧
    ∀ z5 : Int32, z5 = (σ.1 27 x2.toNatClampNeg) →
    wX1_ratherHas σ z3 z5 (fun r6 : Int32 =>
    (r6 = 0 →
    ∀ z8 : Int32, z8 = x2 + (1 : Int32) →
    wLX1_isRest_2 σ K53 P n z8) ∧
    (¬ r6 = 0 →
    wX1_ratherHas σ z5 z3 (fun r9 : Int32 =>
    (r9 = 0 →
    ∀ z11 : Int32, z11 = x2 + (1 : Int32) →
    wLX1_isRest_2 σ K53 P n z11) ∧
    (¬ r9 = 0 →
    P (0 : Int32))))))

set_option maxHeartbeats 4000000 in
set_option maxRecDepth 100000 in
theorem twLX1_isRest_2 {p : Program} {l : Launch} {e : Env} {s : State} {m : MethodId} {args : Array Value} {below : List Frame} {meth : Method} {c : Code} {D : va_G} {cy : Nat → ClassId} {ad : Nat → Nat} {zb : Nat → Nat} (X : XX p s m args meth c cX1_isRest 5 D cy (wC ad cy zb) wsX1_isRest RX1) (hr : meth.sig.returnType = (some .boolean))   (σ : St) (K53 : Prop) {P : Int32 → Prop} (hK53 : K53 → VV p l e rmX1_isRest s m args below meth c (MQ below (va_Qi (fun r u => P r ∧ u = σ) (xPost D (wC ad cy zb)) (xA (wC ad cy zb))) args s 0 0 (xA (wC ad cy zb))) 5 D (wC ad cy zb) σ 53 [] []) : ∀ (n : Nat) (x2 : Int32), wLX1_isRest_2 σ K53 P n x2 → VV p l e rmX1_isRest s m args below meth c (MQ below (va_Qi (fun r u => P r ∧ u = σ) (xPost D (wC ad cy zb)) (xA (wC ad cy zb))) args s 0 0 (xA (wC ad cy zb))) 5 D (wC ad cy zb) σ 2 [(0, .ref (ad 37)), (1, .ref (ad 25)), (2, .int x2)] [] := by
  intro n
  induction n with
  | zero => intro x2 h; exact h.elim
  | succ n ih =>
    intro x2 h
    rw [wLX1_isRest_2] at h
    refine vv_iload_n (q := 3) X 2 dX1_isRest_2 rfl rfl rfl ?_
    refine vv_aload_n (q := 4) X 1 dX1_isRest_3 rfl rfl rfl ?_
    refine vv_getf (q := 7) (ref := "HalfLadders$Pairs") (C := RX4) (T := TX4) (N := 8) X 25 4 0 (Nat.le_of_ble_eq_true rfl) rfl rfl (Nat.le_of_ble_eq_true rfl) (fun _ h => List.mem_cons_of_mem _ (List.mem_append_left _ (List.mem_append_right _ h))) (List.mem_of_getElem? (i := 1) rfl) rfl rfl dX1_isRest_4 rfl ?_
    refine vv_icmp_ge (q := 10) X 53 dX1_isRest_7 (by decide) rfl (fun c1 => ?_) (fun c1 => ?_)
    · have h := h.1 c1
      refine vv_sub (lv' := []) [] rfl ?_
      exact hK53  h
    · have h := h.2 c1
      refine vv_aload_n (q := 11) X 1 dX1_isRest_10 rfl rfl rfl ?_
      refine vv_getf (q := 14) (ref := "HalfLadders$Pairs") (C := RX4) (T := TX4) (N := 8) X 25 4 2 (Nat.le_of_ble_eq_true rfl) rfl rfl (Nat.le_of_ble_eq_true rfl) (fun _ h => List.mem_cons_of_mem _ (List.mem_append_left _ (List.mem_append_right _ h))) (List.mem_of_getElem? (i := 2) rfl) rfl rfl dX1_isRest_11 rfl ?_
      refine vv_iload_n (q := 15) X 2 dX1_isRest_14 rfl rfl rfl ?_
      obtain ⟨hin2, h⟩ := h
      refine vv_iald (q := 16) X 26 16 (Nat.le_of_ble_eq_true rfl) (fun _ => rfl) hin2 dX1_isRest_15 rfl ?_
      refine vv_topi (fun z3 hz3 => ?_)
      have h := h z3 hz3
      refine vv_istore_n (lv2 := [(3, .int z3), (0, .ref (ad 37)), (1, .ref (ad 25)), (2, .int x2)]) (q := 17) X dX1_isRest_16 rfl (Nat.le_of_ble_eq_true rfl) rfl rfl ?_
      refine vv_aload_n (q := 18) X 2 dX1_isRest_17 rfl rfl rfl ?_
      refine vv_getf (q := 21) (ref := "HalfLadders$Pairs") (C := RX4) (T := TX4) (N := 8) X 25 4 3 (Nat.le_of_ble_eq_true rfl) rfl rfl (Nat.le_of_ble_eq_true rfl) (fun _ h => List.mem_cons_of_mem _ (List.mem_append_left _ (List.mem_append_right _ h))) (List.mem_of_getElem? (i := 3) rfl) rfl rfl dX1_isRest_18 rfl ?_
      refine vv_iload_n (q := 22) X 3 dX1_isRest_21 rfl rfl rfl ?_
      obtain ⟨hin4, h⟩ := h
      refine vv_iald (q := 23) X 27 16 (Nat.le_of_ble_eq_true rfl) (fun _ => rfl) hin4 dX1_isRest_22 rfl ?_
      refine vv_topi (fun z5 hz5 => ?_)
      have h := h z5 hz5
      refine vv_istore (lv2 := [(4, .int z5), (3, .int z3), (0, .ref (ad 37)), (1, .ref (ad 25)), (2, .int x2)]) (q := 25) X dX1_isRest_23 (Nat.le_of_ble_eq_true rfl) rfl rfl ?_
      refine vv_aload_n (q := 26) X 2 dX1_isRest_25 rfl rfl rfl ?_
      refine vv_iload_n (q := 27) X 1 dX1_isRest_26 rfl rfl rfl ?_
      refine vv_iload (q := 29) X 0 dX1_isRest_27 rfl rfl ?_
      refine vv_cVi (q := 32) (C := RX1) X 37 1 [.int z3, .int z5] (kX1_ratherHas l D X.2.2.1 h) (cwV 2 X.1.2.2.2.2 gX1_isRest_X1_ratherHas rfl rfl rfl (by decide +kernel) ⟨Nat.le_of_ble_eq_true rfl, Nat.le_of_ble_eq_true rfl⟩) (Nat.le_of_ble_eq_true rfl) rfl rfl rfl rfl (Nat.le_of_ble_eq_true rfl) dX1_isRest_29 rfl (fun r6 u9 h9 => ?_)
      obtain ⟨h9, hu9⟩ := h9
      subst u9
      have h := h9
      refine vv_if_eq (q := 35) X 47 dX1_isRest_32 (by decide) rfl (fun c7 => ?_) (fun c7 => ?_)
      · have h := h.1 c7
        obtain ⟨z8, hz8⟩ : ∃ y : Int32, y = x2 + (1 : Int32) := ⟨_, rfl⟩
        have h := h z8 hz8
        refine vv_iinc (v := z8) (lv2 := [(2, .int z8), (4, .int z5), (3, .int z3), (0, .ref (ad 37)), (1, .ref (ad 25))]) (q := 50) X 4 dX1_isRest_47 rfl (by rw [hz8]; rfl) (Nat.le_of_ble_eq_true rfl) rfl rfl ?_
        refine vv_goto X 2 dX1_isRest_50 (by decide) ?_
        refine vv_sub (lv' := [(0, .ref (ad 37)), (1, .ref (ad 25)), (2, .int z8)]) [3, 4, 0] rfl ?_
        exact ih z8 h
      · have h := h.2 c7
        refine vv_aload_n (q := 36) X 2 dX1_isRest_35 rfl rfl rfl ?_
        refine vv_iload (q := 38) X 0 dX1_isRest_36 rfl rfl ?_
        refine vv_iload_n (q := 39) X 1 dX1_isRest_38 rfl rfl rfl ?_
        refine vv_cVi (q := 42) (C := RX1) X 37 1 [.int z5, .int z3] (kX1_ratherHas l D X.2.2.1 h) (cwV 2 X.1.2.2.2.2 gX1_isRest_X1_ratherHas rfl rfl rfl (by decide +kernel) ⟨Nat.le_of_ble_eq_true rfl, Nat.le_of_ble_eq_true rfl⟩) (Nat.le_of_ble_eq_true rfl) rfl rfl rfl rfl (Nat.le_of_ble_eq_true rfl) dX1_isRest_39 rfl (fun r9 u9 h9 => ?_)
        obtain ⟨h9, hu9⟩ := h9
        subst u9
        have h := h9
        refine vv_if_eq (q := 45) X 47 dX1_isRest_42 (by decide) rfl (fun c10 => ?_) (fun c10 => ?_)
        · have h := h.1 c10
          obtain ⟨z11, hz11⟩ : ∃ y : Int32, y = x2 + (1 : Int32) := ⟨_, rfl⟩
          have h := h z11 hz11
          refine vv_iinc (v := z11) (lv2 := [(2, .int z11), (4, .int z5), (3, .int z3), (0, .ref (ad 37)), (1, .ref (ad 25))]) (q := 50) X 4 dX1_isRest_47 rfl (by rw [hz11]; rfl) (Nat.le_of_ble_eq_true rfl) rfl rfl ?_
          refine vv_goto X 2 dX1_isRest_50 (by decide) ?_
          refine vv_sub (lv' := [(0, .ref (ad 37)), (1, .ref (ad 25)), (2, .int z11)]) [3, 4, 0] rfl ?_
          exact ih z11 h
        · have h := h.2 c10
          refine vv_iconst (q := 46) X (0 : Int32) dX1_isRest_45 (by decide) rfl ?_
          exact vv_zret X hr rfl dX1_isRest_46 ⟨h, rfl⟩

def wX1_isRest (σ : St)  (P : Int32 → Prop) : Prop :=
∃ n12 : Nat, wLX1_isRest_2 σ (P (1 : Int32)) P n12 (0 : Int32)

set_option maxHeartbeats 8000000 in
set_option maxRecDepth 100000 in
theorem kX1_isRest (l : Launch) (D : va_G) {cy : Nat → ClassId} {ad : Nat → Nat} {zb : Nat → Nat} (hw : xOk (wC ad cy zb)) {σ : St}  {P : Int32 → Prop} (h : wX1_isRest σ  P) : MI l yX1_isRest wsX1_isRest rmX1_isRest D cy (wC ad cy zb) [.ref (ad 37), .ref (ad 25)] σ (fun r u => P r ∧ u = σ) := by
  unfold MI
  refine vv_met (cc := cX1_isRest) (maxL := 5) (ret := (some .boolean)) hw (by decide +kernel) rfl [.ref (ad 37), .ref (ad 25)] (Nat.le_of_ble_eq_true rfl) ?_
  intro p e s m args below meth c X hr
  have X : XX p s m args meth c cX1_isRest 5 D cy (wC ad cy zb) wsX1_isRest RX1 := X
  refine vv_sub (lv' := [(0, .ref (ad 37)), (1, .ref (ad 25))]) [0, 1] rfl ?_
  rw [wX1_isRest] at h
  refine vv_iconst (q := 1) X (0 : Int32) dX1_isRest_0 (by decide) rfl ?_
  refine vv_istore_n (lv2 := [(2, .int (0 : Int32)), (0, .ref (ad 37)), (1, .ref (ad 25))]) (q := 2) X dX1_isRest_1 rfl (Nat.le_of_ble_eq_true rfl) rfl rfl ?_
  obtain ⟨n12, h⟩ := h
  refine vv_sub (lv' := [(0, .ref (ad 37)), (1, .ref (ad 25)), (2, .int (0 : Int32))]) [1, 2, 0] rfl ?_
  refine twLX1_isRest_2 X hr  σ _ ?_ n12 (0 : Int32) h
  intro h
  refine vv_iconst (q := 54) X (1 : Int32) dX1_isRest_53 (by decide) rfl ?_
  exact vv_zret X hr rfl dX1_isRest_54 ⟨h, rfl⟩

/-! X9_restsFrom: restsFrom(LHalfLadders$Liking;LHalfLadders$Pairs;I)I -/
def rmX9_restsFrom (d : Nat) : Room := { frames := d + 2, cells := 0, slots := 0, locals := d * 25 + 47 }
def wX9_restsFrom : Nat → St → Int32 → (Int32 → St → Prop) → Prop
  | 0, _, _, _ => False
  | d + 1, σ, a2, P =>
    (a2 < (σ.1 25 0) →
    wX9_restsFrom d σ (a2 + (1 : Int32)) (fun (r2 : Int32) (σ3 : St) =>
    vp_in a2 16 ∧
    ∀ z5 : Int32, z5 = (σ3.1 26 a2.toNatClampNeg) →
    vp_in a2 16 ∧
    ∀ z7 : Int32, z7 = (σ3.1 27 a2.toNatClampNeg) →
    vp_in z5 8 ∧
    (¬ (σ3.1 48 z5.toNatClampNeg) = (-1 : Int32) →
    P r2 σ3) ∧
    ((σ3.1 48 z5.toNatClampNeg) = (-1 : Int32) →
    vp_in z7 8 ∧
    (¬ (σ3.1 48 z7.toNatClampNeg) = (-1 : Int32) →
    P r2 σ3) ∧
    ((σ3.1 48 z7.toNatClampNeg) = (-1 : Int32) →
    vp_in z5 8 ∧
    ∀ σ13 : St, σ13 = sI σ3 48 z5.toNatClampNeg z7 →
    vp_in z7 8 ∧
    ∀ σ15 : St, σ15 = sI σ13 48 z7.toNatClampNeg z5 →
    wX9_restsFrom d σ15 (a2 + (1 : Int32)) (fun (r16 : Int32) (σ17 : St) =>
    ∀ z18 : Int32, z18 = (r2 + r16) →
    vp_in z5 8 ∧
    ∀ σ20 : St, σ20 = sI σ17 48 z5.toNatClampNeg (-1 : Int32) →
    vp_in z7 8 ∧
    ∀ σ22 : St, σ22 = sI σ20 48 z7.toNatClampNeg (-1 : Int32) →
    P z18 σ22))))) ∧
    (¬ a2 < (σ.1 25 0) →
    wX1_isRest σ  (fun r23 : Int32 =>
    (r23 = 0 →
    P (0 : Int32) σ) ∧
    (¬ r23 = 0 →
    P (1 : Int32) σ)))

set_option maxHeartbeats 8000000 in
set_option maxRecDepth 100000 in
theorem kX9_restsFrom (l : Launch) (D : va_G) {cy : Nat → ClassId} {ad : Nat → Nat} {zb : Nat → Nat} (hw : xOk (wC ad cy zb)) : ∀ (d : Nat) (σ : St) (a2 : Int32) (P : Int32 → St → Prop), wX9_restsFrom d σ a2 P → MI l yX9_restsFrom wsX9_restsFrom (rmX9_restsFrom d) D cy (wC ad cy zb) [.ref (ad 37), .ref (ad 25), .int a2] σ P := by
  intro d
  induction d with
  | zero => intro σ a2 P h; exact h.elim
  | succ d ihd =>
  intro σ a2 P h
  unfold MI
  refine vv_met (cc := cX9_restsFrom) (maxL := 6) (ret := (some .int)) hw (by decide +kernel) rfl [.ref (ad 37), .ref (ad 25), .int a2] (Nat.le_of_ble_eq_true rfl) ?_
  intro p e s m args below meth c X hr
  have X : XX p s m args meth c cX9_restsFrom 6 D cy (wC ad cy zb) wsX9_restsFrom RX9 := X
  refine vv_sub (lv' := [(0, .ref (ad 37)), (1, .ref (ad 25)), (2, .int a2)]) [0, 1, 2] rfl ?_
  rw [wX9_restsFrom] at h
  refine vv_iload_n (q := 1) X 2 dX9_restsFrom_0 rfl rfl rfl ?_
  refine vv_aload_n (q := 2) X 1 dX9_restsFrom_1 rfl rfl rfl ?_
  refine vv_getf (q := 5) (ref := "HalfLadders$Pairs") (C := RX4) (T := TX4) (N := 8) X 25 4 0 (Nat.le_of_ble_eq_true rfl) rfl rfl (Nat.le_of_ble_eq_true rfl) (fun _ h => List.mem_cons_of_mem _ (List.mem_append_left _ (List.mem_append_right _ h))) (List.mem_of_getElem? (i := 1) rfl) rfl rfl dX9_restsFrom_2 rfl ?_
  refine vv_icmp_lt (q := 8) X 22 dX9_restsFrom_5 (by decide) rfl (fun c1 => ?_) (fun c1 => ?_)
  · have h := h.1 c1
    refine vv_aload_n (q := 23) X 0 dX9_restsFrom_22 rfl rfl rfl ?_
    refine vv_aload_n (q := 24) X 1 dX9_restsFrom_23 rfl rfl rfl ?_
    refine vv_iload_n (q := 25) X 2 dX9_restsFrom_24 rfl rfl rfl ?_
    refine vv_iconst (q := 26) X (1 : Int32) dX9_restsFrom_25 (by decide) rfl ?_
    refine vv_iadd (q := 27) X dX9_restsFrom_26 rfl ?_
    refine vv_cSi (q := 30) X [.ref (ad 37), .ref (ad 25), .int (a2 + (1 : Int32))] (ihd σ (a2 + (1 : Int32)) _ h) (va_cwS 3 X.1.2.2.2.2 gX9_restsFrom_X9_restsFrom rfl rfl rfl (by decide +kernel) ⟨by show _ ≤ _; simp only [rmX9_restsFrom]; omega, by show _ ≤ _; simp only [rmX9_restsFrom]; omega⟩) rfl rfl (Nat.le_of_ble_eq_true rfl) dX9_restsFrom_27 rfl (fun r2 σ3 h => ?_)
    refine vv_istore_n (lv2 := [(3, .int r2), (0, .ref (ad 37)), (1, .ref (ad 25)), (2, .int a2)]) (q := 31) X dX9_restsFrom_30 rfl (Nat.le_of_ble_eq_true rfl) rfl rfl ?_
    refine vv_aload_n (q := 32) X 2 dX9_restsFrom_31 rfl rfl rfl ?_
    refine vv_getf (q := 35) (ref := "HalfLadders$Pairs") (C := RX4) (T := TX4) (N := 8) X 25 4 2 (Nat.le_of_ble_eq_true rfl) rfl rfl (Nat.le_of_ble_eq_true rfl) (fun _ h => List.mem_cons_of_mem _ (List.mem_append_left _ (List.mem_append_right _ h))) (List.mem_of_getElem? (i := 2) rfl) rfl rfl dX9_restsFrom_32 rfl ?_
    refine vv_iload_n (q := 36) X 3 dX9_restsFrom_35 rfl rfl rfl ?_
    obtain ⟨hin4, h⟩ := h
    refine vv_iald (q := 37) X 26 16 (Nat.le_of_ble_eq_true rfl) (fun _ => rfl) hin4 dX9_restsFrom_36 rfl ?_
    refine vv_topi (fun z5 hz5 => ?_)
    have h := h z5 hz5
    refine vv_istore (lv2 := [(4, .int z5), (3, .int r2), (0, .ref (ad 37)), (1, .ref (ad 25)), (2, .int a2)]) (q := 39) X dX9_restsFrom_37 (Nat.le_of_ble_eq_true rfl) rfl rfl ?_
    refine vv_aload_n (q := 40) X 3 dX9_restsFrom_39 rfl rfl rfl ?_
    refine vv_getf (q := 43) (ref := "HalfLadders$Pairs") (C := RX4) (T := TX4) (N := 8) X 25 4 3 (Nat.le_of_ble_eq_true rfl) rfl rfl (Nat.le_of_ble_eq_true rfl) (fun _ h => List.mem_cons_of_mem _ (List.mem_append_left _ (List.mem_append_right _ h))) (List.mem_of_getElem? (i := 3) rfl) rfl rfl dX9_restsFrom_40 rfl ?_
    refine vv_iload_n (q := 44) X 4 dX9_restsFrom_43 rfl rfl rfl ?_
    obtain ⟨hin6, h⟩ := h
    refine vv_iald (q := 45) X 27 16 (Nat.le_of_ble_eq_true rfl) (fun _ => rfl) hin6 dX9_restsFrom_44 rfl ?_
    refine vv_topi (fun z7 hz7 => ?_)
    have h := h z7 hz7
    refine vv_istore (lv2 := [(5, .int z7), (4, .int z5), (3, .int r2), (0, .ref (ad 37)), (1, .ref (ad 25)), (2, .int a2)]) (q := 47) X dX9_restsFrom_45 (Nat.le_of_ble_eq_true rfl) rfl rfl ?_
    refine vv_aload_n (q := 48) X 3 dX9_restsFrom_47 rfl rfl rfl ?_
    refine vv_getf (q := 51) (ref := "HalfLadders$Liking") (C := RX1) (T := TX1) (N := 5) X 37 1 2 (Nat.le_of_ble_eq_true rfl) rfl rfl (Nat.le_of_ble_eq_true rfl) (fun _ h => List.mem_cons_of_mem _ (List.mem_append_right _ h)) (List.mem_of_getElem? (i := 4) rfl) rfl rfl dX9_restsFrom_48 rfl ?_
    refine vv_iload (q := 53) X 1 dX9_restsFrom_51 rfl rfl ?_
    obtain ⟨hin8, h⟩ := h
    refine vv_iald (q := 54) X 48 8 (Nat.le_of_ble_eq_true rfl) (fun _ => rfl) hin8 dX9_restsFrom_53 rfl ?_
    refine vv_iconst (q := 55) X (-1 : Int32) dX9_restsFrom_54 (by decide) rfl ?_
    refine vv_icmp_ne (q := 58) X 114 dX9_restsFrom_55 (by decide) rfl (fun c9 => ?_) (fun c9 => ?_)
    · have h := h.1 c9
      refine vv_iload_n (q := 115) X 2 dX9_restsFrom_114 rfl rfl rfl ?_
      exact vv_iret X hr dX9_restsFrom_115 h
    · have h := h.2 c9
      refine vv_aload_n (q := 59) X 3 dX9_restsFrom_58 rfl rfl rfl ?_
      refine vv_getf (q := 62) (ref := "HalfLadders$Liking") (C := RX1) (T := TX1) (N := 5) X 37 1 2 (Nat.le_of_ble_eq_true rfl) rfl rfl (Nat.le_of_ble_eq_true rfl) (fun _ h => List.mem_cons_of_mem _ (List.mem_append_right _ h)) (List.mem_of_getElem? (i := 4) rfl) rfl rfl dX9_restsFrom_59 rfl ?_
      refine vv_iload (q := 64) X 0 dX9_restsFrom_62 rfl rfl ?_
      obtain ⟨hin10, h⟩ := h
      refine vv_iald (q := 65) X 48 8 (Nat.le_of_ble_eq_true rfl) (fun _ => rfl) hin10 dX9_restsFrom_64 rfl ?_
      refine vv_iconst (q := 66) X (-1 : Int32) dX9_restsFrom_65 (by decide) rfl ?_
      refine vv_icmp_ne (q := 69) X 114 dX9_restsFrom_66 (by decide) rfl (fun c11 => ?_) (fun c11 => ?_)
      · have h := h.1 c11
        refine vv_iload_n (q := 115) X 2 dX9_restsFrom_114 rfl rfl rfl ?_
        exact vv_iret X hr dX9_restsFrom_115 h
      · have h := h.2 c11
        refine vv_aload_n (q := 70) X 3 dX9_restsFrom_69 rfl rfl rfl ?_
        refine vv_getf (q := 73) (ref := "HalfLadders$Liking") (C := RX1) (T := TX1) (N := 5) X 37 1 2 (Nat.le_of_ble_eq_true rfl) rfl rfl (Nat.le_of_ble_eq_true rfl) (fun _ h => List.mem_cons_of_mem _ (List.mem_append_right _ h)) (List.mem_of_getElem? (i := 4) rfl) rfl rfl dX9_restsFrom_70 rfl ?_
        refine vv_iload (q := 75) X 1 dX9_restsFrom_73 rfl rfl ?_
        refine vv_iload (q := 77) X 0 dX9_restsFrom_75 rfl rfl ?_
        obtain ⟨hin12, h⟩ := h
        refine vv_iast (q := 78) X 48 8 (Nat.le_of_ble_eq_true rfl) (fun _ => rfl) hin12 dX9_restsFrom_77 rfl ?_
        refine vv_nm (fun σ13 hσ13 => ?_)
        have h := h σ13 hσ13
        refine vv_aload_n (q := 79) X 3 dX9_restsFrom_78 rfl rfl rfl ?_
        refine vv_getf (q := 82) (ref := "HalfLadders$Liking") (C := RX1) (T := TX1) (N := 5) X 37 1 2 (Nat.le_of_ble_eq_true rfl) rfl rfl (Nat.le_of_ble_eq_true rfl) (fun _ h => List.mem_cons_of_mem _ (List.mem_append_right _ h)) (List.mem_of_getElem? (i := 4) rfl) rfl rfl dX9_restsFrom_79 rfl ?_
        refine vv_iload (q := 84) X 0 dX9_restsFrom_82 rfl rfl ?_
        refine vv_iload (q := 86) X 1 dX9_restsFrom_84 rfl rfl ?_
        obtain ⟨hin14, h⟩ := h
        refine vv_iast (q := 87) X 48 8 (Nat.le_of_ble_eq_true rfl) (fun _ => rfl) hin14 dX9_restsFrom_86 rfl ?_
        refine vv_nm (fun σ15 hσ15 => ?_)
        have h := h σ15 hσ15
        refine vv_iload_n (q := 88) X 2 dX9_restsFrom_87 rfl rfl rfl ?_
        refine vv_aload_n (q := 89) X 3 dX9_restsFrom_88 rfl rfl rfl ?_
        refine vv_aload_n (q := 90) X 4 dX9_restsFrom_89 rfl rfl rfl ?_
        refine vv_iload_n (q := 91) X 5 dX9_restsFrom_90 rfl rfl rfl ?_
        refine vv_iconst (q := 92) X (1 : Int32) dX9_restsFrom_91 (by decide) rfl ?_
        refine vv_iadd (q := 93) X dX9_restsFrom_92 rfl ?_
        refine vv_cSi (q := 96) X [.ref (ad 37), .ref (ad 25), .int (a2 + (1 : Int32))] (ihd σ15 (a2 + (1 : Int32)) _ h) (va_cwS 3 X.1.2.2.2.2 gX9_restsFrom_X9_restsFrom rfl rfl rfl (by decide +kernel) ⟨by show _ ≤ _; simp only [rmX9_restsFrom]; omega, by show _ ≤ _; simp only [rmX9_restsFrom]; omega⟩) rfl rfl (Nat.le_of_ble_eq_true rfl) dX9_restsFrom_93 rfl (fun r16 σ17 h => ?_)
        refine vv_iadd (q := 97) X dX9_restsFrom_96 rfl ?_
        refine vv_topi (fun z18 hz18 => ?_)
        have h := h z18 hz18
        refine vv_istore_n (lv2 := [(3, .int z18), (5, .int z7), (4, .int z5), (0, .ref (ad 37)), (1, .ref (ad 25)), (2, .int a2)]) (q := 98) X dX9_restsFrom_97 rfl (Nat.le_of_ble_eq_true rfl) rfl rfl ?_
        refine vv_aload_n (q := 99) X 3 dX9_restsFrom_98 rfl rfl rfl ?_
        refine vv_getf (q := 102) (ref := "HalfLadders$Liking") (C := RX1) (T := TX1) (N := 5) X 37 1 2 (Nat.le_of_ble_eq_true rfl) rfl rfl (Nat.le_of_ble_eq_true rfl) (fun _ h => List.mem_cons_of_mem _ (List.mem_append_right _ h)) (List.mem_of_getElem? (i := 4) rfl) rfl rfl dX9_restsFrom_99 rfl ?_
        refine vv_iload (q := 104) X 2 dX9_restsFrom_102 rfl rfl ?_
        refine vv_iconst (q := 105) X (-1 : Int32) dX9_restsFrom_104 (by decide) rfl ?_
        obtain ⟨hin19, h⟩ := h
        refine vv_iast (q := 106) X 48 8 (Nat.le_of_ble_eq_true rfl) (fun _ => rfl) hin19 dX9_restsFrom_105 rfl ?_
        refine vv_nm (fun σ20 hσ20 => ?_)
        have h := h σ20 hσ20
        refine vv_aload_n (q := 107) X 3 dX9_restsFrom_106 rfl rfl rfl ?_
        refine vv_getf (q := 110) (ref := "HalfLadders$Liking") (C := RX1) (T := TX1) (N := 5) X 37 1 2 (Nat.le_of_ble_eq_true rfl) rfl rfl (Nat.le_of_ble_eq_true rfl) (fun _ h => List.mem_cons_of_mem _ (List.mem_append_right _ h)) (List.mem_of_getElem? (i := 4) rfl) rfl rfl dX9_restsFrom_107 rfl ?_
        refine vv_iload (q := 112) X 1 dX9_restsFrom_110 rfl rfl ?_
        refine vv_iconst (q := 113) X (-1 : Int32) dX9_restsFrom_112 (by decide) rfl ?_
        obtain ⟨hin21, h⟩ := h
        refine vv_iast (q := 114) X 48 8 (Nat.le_of_ble_eq_true rfl) (fun _ => rfl) hin21 dX9_restsFrom_113 rfl ?_
        refine vv_nm (fun σ22 hσ22 => ?_)
        have h := h σ22 hσ22
        refine vv_iload_n (q := 115) X 0 dX9_restsFrom_114 rfl rfl rfl ?_
        exact vv_iret X hr dX9_restsFrom_115 h
  · have h := h.2 c1
    refine vv_aload_n (q := 9) X 0 dX9_restsFrom_8 rfl rfl rfl ?_
    refine vv_aload_n (q := 10) X 1 dX9_restsFrom_9 rfl rfl rfl ?_
    refine vv_cVi (q := 13) (C := RX1) X 37 1 [.ref (ad 25)] (kX1_isRest l D X.2.2.1 h) (cwV 1 X.1.2.2.2.2 gX9_restsFrom_X1_isRest rfl rfl rfl (by decide +kernel) ⟨by show _ ≤ _; simp only [rmX1_isRest, rmX9_restsFrom]; omega, by show _ ≤ _; simp only [rmX1_isRest, rmX9_restsFrom]; omega⟩) (Nat.le_of_ble_eq_true rfl) rfl rfl rfl rfl (Nat.le_of_ble_eq_true rfl) dX9_restsFrom_10 rfl (fun r23 u9 h9 => ?_)
    obtain ⟨h9, hu9⟩ := h9
    subst u9
    have h := h9
    refine vv_if_eq (q := 16) X 20 dX9_restsFrom_13 (by decide) rfl (fun c24 => ?_) (fun c24 => ?_)
    · have h := h.1 c24
      refine vv_iconst (q := 21) X (0 : Int32) dX9_restsFrom_20 (by decide) rfl ?_
      exact vv_iret X hr dX9_restsFrom_21 h
    · have h := h.2 c24
      refine vv_iconst (q := 17) X (1 : Int32) dX9_restsFrom_16 (by decide) rfl ?_
      refine vv_goto X 21 dX9_restsFrom_17 (by decide) ?_
      exact vv_iret X hr dX9_restsFrom_21 h

/-! X1_reckon: reckon(LHalfLadders$Orchard;LHalfLadders$Pairs;)V -/
def rmX1_reckon : Room := { frames := 23, cells := 0, slots := 0, locals := 572 }
def wLX1_reckon_2 (f1 : Nat)  (K24 : St → Prop) (P : St → Prop) : Nat → St → Int32 → Prop
  | 0, _, _ => False
  | n + 1, σ, x3 =>
    ((8 : Int32) ≤ x3 →
    K24 σ) ∧
    (¬ (8 : Int32) ≤ x3 →
    vp_in x3 8 ∧
    ∀ σ3 : St, σ3 = sF σ (39 + x3.toNatClampNeg) 8 (0 : Int32) →
    ∀ z4 : Int32, z4 = x3 + (1 : Int32) →
    wLX1_reckon_2 f1 K24 P n σ3 z4)

set_option maxHeartbeats 4000000 in
set_option maxRecDepth 100000 in
theorem twLX1_reckon_2 {p : Program} {l : Launch} {e : Env} {s : State} {m : MethodId} {args : Array Value} {below : List Frame} {meth : Method} {c : Code} {D : va_G} {cy : Nat → ClassId} {ad : Nat → Nat} {zb : Nat → Nat} (X : XX p s m args meth c cX1_reckon 6 D cy (wC ad cy zb) wsX1_reckon RX1) (hr : meth.sig.returnType = none) (f1 : Nat) (hf1 : isO f1)  (K24 : St → Prop) {P : St → Prop} (hK24 : ∀ (σ : St), K24 σ → VV p l e rmX1_reckon s m args below meth c (MQ below (va_Qv P (xPost D (wC ad cy zb)) (xA (wC ad cy zb))) args s 0 0 (xA (wC ad cy zb))) 6 D (wC ad cy zb) σ 24 [(0, .ref (ad 37)), (1, .ref (ad f1)), (2, .ref (ad 25))] []) : ∀ (n : Nat) (σ : St) (x3 : Int32), wLX1_reckon_2 f1 K24 P n σ x3 → VV p l e rmX1_reckon s m args below meth c (MQ below (va_Qv P (xPost D (wC ad cy zb)) (xA (wC ad cy zb))) args s 0 0 (xA (wC ad cy zb))) 6 D (wC ad cy zb) σ 2 [(0, .ref (ad 37)), (1, .ref (ad f1)), (2, .ref (ad 25)), (3, .int x3)] [] := by
  intro n
  induction n with
  | zero => intro σ x3 h; exact h.elim
  | succ n ih =>
    intro σ x3 h
    rw [wLX1_reckon_2] at h
    refine vv_iload_n (q := 3) X 3 dX1_reckon_2 rfl rfl rfl ?_
    refine vv_bipush (q := 5) X (8 : Int32) dX1_reckon_3 (by decide) rfl ?_
    refine vv_icmp_ge (q := 8) X 24 dX1_reckon_5 (by decide) rfl (fun c1 => ?_) (fun c1 => ?_)
    · have h := h.1 c1
      refine vv_sub (lv' := [(0, .ref (ad 37)), (1, .ref (ad f1)), (2, .ref (ad 25))]) [0, 1, 2] rfl ?_
      exact hK24 σ h
    · have h := h.2 c1
      refine vv_aload_n (q := 9) X 0 dX1_reckon_8 rfl rfl rfl ?_
      refine vv_getf (q := 12) (ref := "HalfLadders$Liking") (C := RX1) (T := TX1) (N := 5) X 37 1 0 (Nat.le_of_ble_eq_true rfl) rfl rfl (Nat.le_of_ble_eq_true rfl) (fun _ h => List.mem_cons_of_mem _ (List.mem_append_left _ (List.mem_append_left _ (List.mem_append_right _ h)))) (List.mem_of_getElem? (i := 1) rfl) rfl rfl dX1_reckon_9 rfl ?_
      refine vv_iload_n (q := 13) X 3 dX1_reckon_12 rfl rfl rfl ?_
      obtain ⟨hin2, h⟩ := h
      refine vv_aldA (q := 14) X 38 8 (Nat.le_of_ble_eq_true rfl) rfl hin2 dX1_reckon_13 rfl ?_
      refine vv_iconst (q := 15) X (0 : Int32) dX1_reckon_14 (by decide) rfl ?_
      refine vv_cSv (q := 18) (P := fun u => u = sF σ (39 + x3.toNatClampNeg) 8 (0 : Int32)) X [.ref (ad (39 + x3.toNatClampNeg)), .int (0 : Int32)] (kJ7_fill l D X.2.2.1 (k := (39 + x3.toNatClampNeg)) (n := 8) (eRlikes_lt 0 hin2 (Nat.le_of_ble_eq_true rfl)) (fun f => eRlikes (ad := ad) (cy := cy) hin2 f σ.2) (Nat.le_of_ble_eq_true rfl) rfl) (va_cwS 2 X.1.2.2.2.2 gX1_reckon_J7_fill_53178 rfl rfl rfl (by decide +kernel) ⟨Nat.le_of_ble_eq_true rfl, Nat.le_of_ble_eq_true rfl⟩) rfl rfl (Nat.le_of_ble_eq_true rfl) dX1_reckon_15 rfl (fun σ3 hσ3 => ?_)
      have h := h σ3 hσ3
      obtain ⟨z4, hz4⟩ : ∃ y : Int32, y = x3 + (1 : Int32) := ⟨_, rfl⟩
      have h := h z4 hz4
      refine vv_iinc (v := z4) (lv2 := [(3, .int z4), (0, .ref (ad 37)), (1, .ref (ad f1)), (2, .ref (ad 25))]) (q := 21) X 3 dX1_reckon_18 rfl (by rw [hz4]; rfl) (Nat.le_of_ble_eq_true rfl) rfl rfl ?_
      refine vv_goto X 2 dX1_reckon_21 (by decide) ?_
      refine vv_sub (lv' := [(0, .ref (ad 37)), (1, .ref (ad f1)), (2, .ref (ad 25)), (3, .int z4)]) [1, 2, 3, 0] rfl ?_
      exact ih σ3 z4 h

def wLX1_reckon_26 (f1 : Nat)  (K128 : St → Prop) (P : St → Prop) : Nat → St → Int32 → Prop
  | 0, _, _ => False
  | n + 1, σ, x3 =>
    ((σ.1 25 0) ≤ x3 →
    K128 σ) ∧
    (¬ (σ.1 25 0) ≤ x3 →
    vp_in x3 16 ∧
    ∀ z8 : Int32, z8 = (σ.1 26 x3.toNatClampNeg) →
    vp_in x3 16 ∧
    ∀ z10 : Int32, z10 = (σ.1 27 x3.toNatClampNeg) →
    vp_in z8 8 ∧
    vp_in x3 16 ∧
    vp_in z10 8 ∧
    vp_in z10 8 ∧
    ∀ σ15 : St, σ15 = sI σ (39 + z8.toNatClampNeg) z10.toNatClampNeg (((((100 : Int32) * (σ.1 30 x3.toNatClampNeg)) + ((10 : Int32) * (σ.1 (f1 + 4) z10.toNatClampNeg))) + (8 : Int32)) - z10) →
    vp_in z10 8 ∧
    vp_in x3 16 ∧
    vp_in z8 8 ∧
    vp_in z8 8 ∧
    ∀ σ20 : St, σ20 = sI σ15 (39 + z10.toNatClampNeg) z8.toNatClampNeg (((((100 : Int32) * (σ15.1 30 x3.toNatClampNeg)) + ((10 : Int32) * (σ15.1 (f1 + 4) z8.toNatClampNeg))) + (8 : Int32)) - z8) →
    ∀ z21 : Int32, z21 = x3 + (1 : Int32) →
    wLX1_reckon_26 f1 K128 P n σ20 z21)

set_option maxHeartbeats 4000000 in
set_option maxRecDepth 100000 in
theorem twLX1_reckon_26 {p : Program} {l : Launch} {e : Env} {s : State} {m : MethodId} {args : Array Value} {below : List Frame} {meth : Method} {c : Code} {D : va_G} {cy : Nat → ClassId} {ad : Nat → Nat} {zb : Nat → Nat} (X : XX p s m args meth c cX1_reckon 6 D cy (wC ad cy zb) wsX1_reckon RX1) (hr : meth.sig.returnType = none) (f1 : Nat) (hf1 : isO f1)  (K128 : St → Prop) {P : St → Prop} (hK128 : ∀ (σ : St), K128 σ → VV p l e rmX1_reckon s m args below meth c (MQ below (va_Qv P (xPost D (wC ad cy zb)) (xA (wC ad cy zb))) args s 0 0 (xA (wC ad cy zb))) 6 D (wC ad cy zb) σ 128 [(0, .ref (ad 37)), (2, .ref (ad 25))] []) : ∀ (n : Nat) (σ : St) (x3 : Int32), wLX1_reckon_26 f1 K128 P n σ x3 → VV p l e rmX1_reckon s m args below meth c (MQ below (va_Qv P (xPost D (wC ad cy zb)) (xA (wC ad cy zb))) args s 0 0 (xA (wC ad cy zb))) 6 D (wC ad cy zb) σ 26 [(0, .ref (ad 37)), (1, .ref (ad f1)), (2, .ref (ad 25)), (3, .int x3)] [] := by
  intro n
  induction n with
  | zero => intro σ x3 h; exact h.elim
  | succ n ih =>
    intro σ x3 h
    rw [wLX1_reckon_26] at h
    refine vv_iload_n (q := 27) X 3 dX1_reckon_26 rfl rfl rfl ?_
    refine vv_aload_n (q := 28) X 2 dX1_reckon_27 rfl rfl rfl ?_
    refine vv_getf (q := 31) (ref := "HalfLadders$Pairs") (C := RX4) (T := TX4) (N := 8) X 25 4 0 (Nat.le_of_ble_eq_true rfl) rfl rfl (Nat.le_of_ble_eq_true rfl) (fun _ h => List.mem_cons_of_mem _ (List.mem_append_left _ (List.mem_append_right _ h))) (List.mem_of_getElem? (i := 2) rfl) rfl rfl dX1_reckon_28 rfl ?_
    refine vv_icmp_ge (q := 34) X 128 dX1_reckon_31 (by decide) rfl (fun c6 => ?_) (fun c6 => ?_)
    · have h := h.1 c6
      refine vv_sub (lv' := [(0, .ref (ad 37)), (2, .ref (ad 25))]) [0, 2] rfl ?_
      exact hK128 σ h
    · have h := h.2 c6
      refine vv_aload_n (q := 35) X 2 dX1_reckon_34 rfl rfl rfl ?_
      refine vv_getf (q := 38) (ref := "HalfLadders$Pairs") (C := RX4) (T := TX4) (N := 8) X 25 4 2 (Nat.le_of_ble_eq_true rfl) rfl rfl (Nat.le_of_ble_eq_true rfl) (fun _ h => List.mem_cons_of_mem _ (List.mem_append_left _ (List.mem_append_right _ h))) (List.mem_of_getElem? (i := 3) rfl) rfl rfl dX1_reckon_35 rfl ?_
      refine vv_iload_n (q := 39) X 3 dX1_reckon_38 rfl rfl rfl ?_
      obtain ⟨hin7, h⟩ := h
      refine vv_iald (q := 40) X 26 16 (Nat.le_of_ble_eq_true rfl) (fun _ => rfl) hin7 dX1_reckon_39 rfl ?_
      refine vv_topi (fun z8 hz8 => ?_)
      have h := h z8 hz8
      refine vv_istore (lv2 := [(4, .int z8), (0, .ref (ad 37)), (1, .ref (ad f1)), (2, .ref (ad 25)), (3, .int x3)]) (q := 42) X dX1_reckon_40 (Nat.le_of_ble_eq_true rfl) rfl rfl ?_
      refine vv_aload_n (q := 43) X 3 dX1_reckon_42 rfl rfl rfl ?_
      refine vv_getf (q := 46) (ref := "HalfLadders$Pairs") (C := RX4) (T := TX4) (N := 8) X 25 4 3 (Nat.le_of_ble_eq_true rfl) rfl rfl (Nat.le_of_ble_eq_true rfl) (fun _ h => List.mem_cons_of_mem _ (List.mem_append_left _ (List.mem_append_right _ h))) (List.mem_of_getElem? (i := 4) rfl) rfl rfl dX1_reckon_43 rfl ?_
      refine vv_iload_n (q := 47) X 4 dX1_reckon_46 rfl rfl rfl ?_
      obtain ⟨hin9, h⟩ := h
      refine vv_iald (q := 48) X 27 16 (Nat.le_of_ble_eq_true rfl) (fun _ => rfl) hin9 dX1_reckon_47 rfl ?_
      refine vv_topi (fun z10 hz10 => ?_)
      have h := h z10 hz10
      refine vv_istore (lv2 := [(5, .int z10), (4, .int z8), (0, .ref (ad 37)), (1, .ref (ad f1)), (2, .ref (ad 25)), (3, .int x3)]) (q := 50) X dX1_reckon_48 (Nat.le_of_ble_eq_true rfl) rfl rfl ?_
      refine vv_aload_n (q := 51) X 2 dX1_reckon_50 rfl rfl rfl ?_
      refine vv_getf (q := 54) (ref := "HalfLadders$Liking") (C := RX1) (T := TX1) (N := 5) X 37 1 0 (Nat.le_of_ble_eq_true rfl) rfl rfl (Nat.le_of_ble_eq_true rfl) (fun _ h => List.mem_cons_of_mem _ (List.mem_append_left _ (List.mem_append_left _ (List.mem_append_right _ h)))) (List.mem_of_getElem? (i := 1) rfl) rfl rfl dX1_reckon_51 rfl ?_
      refine vv_iload (q := 56) X 1 dX1_reckon_54 rfl rfl ?_
      obtain ⟨hin11, h⟩ := h
      refine vv_aldA (q := 57) X 38 8 (Nat.le_of_ble_eq_true rfl) rfl hin11 dX1_reckon_56 rfl ?_
      refine vv_iload (q := 59) X 0 dX1_reckon_57 rfl rfl ?_
      refine vv_bipush (q := 61) X (100 : Int32) dX1_reckon_59 (by decide) rfl ?_
      refine vv_aload_n (q := 62) X 4 dX1_reckon_61 rfl rfl rfl ?_
      refine vv_getf (q := 65) (ref := "HalfLadders$Pairs") (C := RX4) (T := TX4) (N := 8) X 25 4 6 (Nat.le_of_ble_eq_true rfl) rfl rfl (Nat.le_of_ble_eq_true rfl) (fun _ h => List.mem_cons_of_mem _ (List.mem_append_left _ (List.mem_append_right _ h))) (List.mem_of_getElem? (i := 5) rfl) rfl rfl dX1_reckon_62 rfl ?_
      refine vv_iload_n (q := 66) X 5 dX1_reckon_65 rfl rfl rfl ?_
      obtain ⟨hin12, h⟩ := h
      refine vv_iald (q := 67) X 30 16 (Nat.le_of_ble_eq_true rfl) (fun _ => rfl) hin12 dX1_reckon_66 rfl ?_
      refine vv_imul (q := 68) X dX1_reckon_67 rfl ?_
      refine vv_bipush (q := 70) X (10 : Int32) dX1_reckon_68 (by decide) rfl ?_
      refine vv_aload_n (q := 71) X 3 dX1_reckon_70 rfl rfl rfl ?_
      refine vv_getf (q := 74) (ref := "HalfLadders$Orchard") (C := RX3) (T := TX3) (N := 10) X f1 3 5 (isO_lt 0 hf1 (Nat.le_of_ble_eq_true rfl)) (e_isO (ad := ad) (cy := cy) hf1 _ _) rfl (Nat.le_of_ble_eq_true rfl) (fun _ h => List.mem_cons_of_mem _ (List.mem_append_right _ h)) (List.mem_of_getElem? (i := 6) rfl) rfl rfl dX1_reckon_71 rfl ?_
      refine vv_iload (q := 76) X 0 dX1_reckon_74 rfl rfl ?_
      obtain ⟨hin13, h⟩ := h
      refine vv_iald (q := 77) X (f1 + 4) 8 (isO_lt 4 hf1 (Nat.le_of_ble_eq_true rfl)) (fun f => e_isO_4 (ad := ad) (cy := cy) hf1 f σ.2) hin13 dX1_reckon_76 rfl ?_
      refine vv_imul (q := 78) X dX1_reckon_77 rfl ?_
      refine vv_iadd (q := 79) X dX1_reckon_78 rfl ?_
      refine vv_bipush (q := 81) X (8 : Int32) dX1_reckon_79 (by decide) rfl ?_
      refine vv_iadd (q := 82) X dX1_reckon_81 rfl ?_
      refine vv_iload (q := 84) X 0 dX1_reckon_82 rfl rfl ?_
      refine vv_isub (q := 85) X dX1_reckon_84 rfl ?_
      obtain ⟨hin14, h⟩ := h
      refine vv_iast (q := 86) X (39 + z8.toNatClampNeg) 8 (eRlikes_lt 0 hin11 (Nat.le_of_ble_eq_true rfl)) (fun f => eRlikes (ad := ad) (cy := cy) hin11 f σ.2) hin14 dX1_reckon_85 rfl ?_
      refine vv_nm (fun σ15 hσ15 => ?_)
      have h := h σ15 hσ15
      refine vv_aload_n (q := 87) X 2 dX1_reckon_86 rfl rfl rfl ?_
      refine vv_getf (q := 90) (ref := "HalfLadders$Liking") (C := RX1) (T := TX1) (N := 5) X 37 1 0 (Nat.le_of_ble_eq_true rfl) rfl rfl (Nat.le_of_ble_eq_true rfl) (fun _ h => List.mem_cons_of_mem _ (List.mem_append_left _ (List.mem_append_left _ (List.mem_append_right _ h)))) (List.mem_of_getElem? (i := 1) rfl) rfl rfl dX1_reckon_87 rfl ?_
      refine vv_iload (q := 92) X 0 dX1_reckon_90 rfl rfl ?_
      obtain ⟨hin16, h⟩ := h
      refine vv_aldA (q := 93) X 38 8 (Nat.le_of_ble_eq_true rfl) rfl hin16 dX1_reckon_92 rfl ?_
      refine vv_iload (q := 95) X 1 dX1_reckon_93 rfl rfl ?_
      refine vv_bipush (q := 97) X (100 : Int32) dX1_reckon_95 (by decide) rfl ?_
      refine vv_aload_n (q := 98) X 4 dX1_reckon_97 rfl rfl rfl ?_
      refine vv_getf (q := 101) (ref := "HalfLadders$Pairs") (C := RX4) (T := TX4) (N := 8) X 25 4 6 (Nat.le_of_ble_eq_true rfl) rfl rfl (Nat.le_of_ble_eq_true rfl) (fun _ h => List.mem_cons_of_mem _ (List.mem_append_left _ (List.mem_append_right _ h))) (List.mem_of_getElem? (i := 5) rfl) rfl rfl dX1_reckon_98 rfl ?_
      refine vv_iload_n (q := 102) X 5 dX1_reckon_101 rfl rfl rfl ?_
      obtain ⟨hin17, h⟩ := h
      refine vv_iald (q := 103) X 30 16 (Nat.le_of_ble_eq_true rfl) (fun _ => rfl) hin17 dX1_reckon_102 rfl ?_
      refine vv_imul (q := 104) X dX1_reckon_103 rfl ?_
      refine vv_bipush (q := 106) X (10 : Int32) dX1_reckon_104 (by decide) rfl ?_
      refine vv_aload_n (q := 107) X 3 dX1_reckon_106 rfl rfl rfl ?_
      refine vv_getf (q := 110) (ref := "HalfLadders$Orchard") (C := RX3) (T := TX3) (N := 10) X f1 3 5 (isO_lt 0 hf1 (Nat.le_of_ble_eq_true rfl)) (e_isO (ad := ad) (cy := cy) hf1 _ _) rfl (Nat.le_of_ble_eq_true rfl) (fun _ h => List.mem_cons_of_mem _ (List.mem_append_right _ h)) (List.mem_of_getElem? (i := 6) rfl) rfl rfl dX1_reckon_107 rfl ?_
      refine vv_iload (q := 112) X 1 dX1_reckon_110 rfl rfl ?_
      obtain ⟨hin18, h⟩ := h
      refine vv_iald (q := 113) X (f1 + 4) 8 (isO_lt 4 hf1 (Nat.le_of_ble_eq_true rfl)) (fun f => e_isO_4 (ad := ad) (cy := cy) hf1 f σ15.2) hin18 dX1_reckon_112 rfl ?_
      refine vv_imul (q := 114) X dX1_reckon_113 rfl ?_
      refine vv_iadd (q := 115) X dX1_reckon_114 rfl ?_
      refine vv_bipush (q := 117) X (8 : Int32) dX1_reckon_115 (by decide) rfl ?_
      refine vv_iadd (q := 118) X dX1_reckon_117 rfl ?_
      refine vv_iload (q := 120) X 1 dX1_reckon_118 rfl rfl ?_
      refine vv_isub (q := 121) X dX1_reckon_120 rfl ?_
      obtain ⟨hin19, h⟩ := h
      refine vv_iast (q := 122) X (39 + z10.toNatClampNeg) 8 (eRlikes_lt 0 hin16 (Nat.le_of_ble_eq_true rfl)) (fun f => eRlikes (ad := ad) (cy := cy) hin16 f σ15.2) hin19 dX1_reckon_121 rfl ?_
      refine vv_nm (fun σ20 hσ20 => ?_)
      have h := h σ20 hσ20
      obtain ⟨z21, hz21⟩ : ∃ y : Int32, y = x3 + (1 : Int32) := ⟨_, rfl⟩
      have h := h z21 hz21
      refine vv_iinc (v := z21) (lv2 := [(3, .int z21), (5, .int z10), (4, .int z8), (0, .ref (ad 37)), (1, .ref (ad f1)), (2, .ref (ad 25))]) (q := 125) X 5 dX1_reckon_122 rfl (by rw [hz21]; rfl) (Nat.le_of_ble_eq_true rfl) rfl rfl ?_
      refine vv_goto X 26 dX1_reckon_125 (by decide) ?_
      refine vv_sub (lv' := [(0, .ref (ad 37)), (1, .ref (ad f1)), (2, .ref (ad 25)), (3, .int z21)]) [3, 4, 5, 0] rfl ?_
      exact ih σ20 z21 h

def wLX1_reckon_143   (K182 : St → Prop) (P : St → Prop) : Nat → St → Int32 → Prop
  | 0, _, _ => False
  | n + 1, σ, x3 =>
    ((8 : Int32) ≤ x3 →
    K182 σ) ∧
    (¬ (8 : Int32) ≤ x3 →
    vp_in x3 8 ∧
    jn (fun (v28 : Int32) =>
    vp_in x3 8 ∧
    ∀ σ30 : St, σ30 = sI σ 47 x3.toNatClampNeg v28 →
    ∀ z31 : Int32, z31 = x3 + (1 : Int32) →
    wLX1_reckon_143 K182 P n σ30 z31) (fun J27 : Int32 → Prop =>
    (¬ (σ.1 48 x3.toNatClampNeg) = (-1 : Int32) →
    vp_in x3 8 ∧
    J27 (σ.1 48 x3.toNatClampNeg)) ∧
    ((σ.1 48 x3.toNatClampNeg) = (-1 : Int32) →
    J27 (-9 : Int32))))

set_option maxHeartbeats 4000000 in
set_option maxRecDepth 100000 in
theorem twLX1_reckon_143 {p : Program} {l : Launch} {e : Env} {s : State} {m : MethodId} {args : Array Value} {below : List Frame} {meth : Method} {c : Code} {D : va_G} {cy : Nat → ClassId} {ad : Nat → Nat} {zb : Nat → Nat} (X : XX p s m args meth c cX1_reckon 6 D cy (wC ad cy zb) wsX1_reckon RX1) (hr : meth.sig.returnType = none)    (K182 : St → Prop) {P : St → Prop} (hK182 : ∀ (σ : St), K182 σ → VV p l e rmX1_reckon s m args below meth c (MQ below (va_Qv P (xPost D (wC ad cy zb)) (xA (wC ad cy zb))) args s 0 0 (xA (wC ad cy zb))) 6 D (wC ad cy zb) σ 182 [(0, .ref (ad 37)), (2, .ref (ad 25))] []) : ∀ (n : Nat) (σ : St) (x3 : Int32), wLX1_reckon_143 K182 P n σ x3 → VV p l e rmX1_reckon s m args below meth c (MQ below (va_Qv P (xPost D (wC ad cy zb)) (xA (wC ad cy zb))) args s 0 0 (xA (wC ad cy zb))) 6 D (wC ad cy zb) σ 143 [(0, .ref (ad 37)), (2, .ref (ad 25)), (3, .int x3)] [] := by
  intro n
  induction n with
  | zero => intro σ x3 h; exact h.elim
  | succ n ih =>
    intro σ x3 h
    rw [wLX1_reckon_143] at h
    refine vv_iload_n (q := 144) X 2 dX1_reckon_143 rfl rfl rfl ?_
    refine vv_bipush (q := 146) X (8 : Int32) dX1_reckon_144 (by decide) rfl ?_
    refine vv_icmp_ge (q := 149) X 182 dX1_reckon_146 (by decide) rfl (fun c25 => ?_) (fun c25 => ?_)
    · have h := h.1 c25
      refine vv_sub (lv' := [(0, .ref (ad 37)), (2, .ref (ad 25))]) [0, 1] rfl ?_
      exact hK182 σ h
    · have h := h.2 c25
      refine vv_aload_n (q := 150) X 0 dX1_reckon_149 rfl rfl rfl ?_
      refine vv_getf (q := 153) (ref := "HalfLadders$Liking") (C := RX1) (T := TX1) (N := 5) X 37 1 1 (Nat.le_of_ble_eq_true rfl) rfl rfl (Nat.le_of_ble_eq_true rfl) (fun _ h => List.mem_cons_of_mem _ (List.mem_append_left _ (List.mem_append_left _ (List.mem_append_right _ h)))) (List.mem_of_getElem? (i := 8) rfl) rfl rfl dX1_reckon_150 rfl ?_
      refine vv_iload_n (q := 154) X 2 dX1_reckon_153 rfl rfl rfl ?_
      refine vv_aload_n (q := 155) X 0 dX1_reckon_154 rfl rfl rfl ?_
      refine vv_getf (q := 158) (ref := "HalfLadders$Liking") (C := RX1) (T := TX1) (N := 5) X 37 1 2 (Nat.le_of_ble_eq_true rfl) rfl rfl (Nat.le_of_ble_eq_true rfl) (fun _ h => List.mem_cons_of_mem _ (List.mem_append_left _ (List.mem_append_left _ (List.mem_append_right _ h)))) (List.mem_of_getElem? (i := 7) rfl) rfl rfl dX1_reckon_155 rfl ?_
      refine vv_iload_n (q := 159) X 2 dX1_reckon_158 rfl rfl rfl ?_
      obtain ⟨hin26, h⟩ := h
      refine vv_iald (q := 160) X 48 8 (Nat.le_of_ble_eq_true rfl) (fun _ => rfl) hin26 dX1_reckon_159 rfl ?_
      refine vv_iconst (q := 161) X (-1 : Int32) dX1_reckon_160 (by decide) rfl ?_
      obtain ⟨J27, hJ27, h⟩ := jn_el h
      have tJ27 : ∀ (v28 : Int32), J27 v28 → VV p l e rmX1_reckon s m args below meth c (MQ below (va_Qv P (xPost D (wC ad cy zb)) (xA (wC ad cy zb))) args s 0 0 (xA (wC ad cy zb))) 6 D (wC ad cy zb) σ 175 [(0, .ref (ad 37)), (2, .ref (ad 25)), (3, .int x3)] [.int v28, .int x3, .ref (ad 47)] := by
        intro v28 h
        rw [hJ27] at h
        obtain ⟨hin29, h⟩ := h
        refine vv_iast (q := 176) X 47 8 (Nat.le_of_ble_eq_true rfl) (fun _ => rfl) hin29 dX1_reckon_175 rfl ?_
        refine vv_nm (fun σ30 hσ30 => ?_)
        have h := h σ30 hσ30
        obtain ⟨z31, hz31⟩ : ∃ y : Int32, y = x3 + (1 : Int32) := ⟨_, rfl⟩
        have h := h z31 hz31
        refine vv_iinc (v := z31) (lv2 := [(3, .int z31), (0, .ref (ad 37)), (2, .ref (ad 25))]) (q := 179) X 2 dX1_reckon_176 rfl (by rw [hz31]; rfl) (Nat.le_of_ble_eq_true rfl) rfl rfl ?_
        refine vv_goto X 143 dX1_reckon_179 (by decide) ?_
        refine vv_sub (lv' := [(0, .ref (ad 37)), (2, .ref (ad 25)), (3, .int z31)]) [1, 2, 0] rfl ?_
        exact ih σ30 z31 h
      refine vv_icmp_ne (q := 164) X 169 dX1_reckon_161 (by decide) rfl (fun c32 => ?_) (fun c32 => ?_)
      · have h := h.1 c32
        refine vv_aload_n (q := 170) X 0 dX1_reckon_169 rfl rfl rfl ?_
        refine vv_getf (q := 173) (ref := "HalfLadders$Liking") (C := RX1) (T := TX1) (N := 5) X 37 1 2 (Nat.le_of_ble_eq_true rfl) rfl rfl (Nat.le_of_ble_eq_true rfl) (fun _ h => List.mem_cons_of_mem _ (List.mem_append_left _ (List.mem_append_left _ (List.mem_append_right _ h)))) (List.mem_of_getElem? (i := 7) rfl) rfl rfl dX1_reckon_170 rfl ?_
        refine vv_iload_n (q := 174) X 2 dX1_reckon_173 rfl rfl rfl ?_
        obtain ⟨hin33, h⟩ := h
        refine vv_iald (q := 175) X 48 8 (Nat.le_of_ble_eq_true rfl) (fun _ => rfl) hin33 dX1_reckon_174 rfl ?_
        exact tJ27 (σ.1 48 x3.toNatClampNeg) h
      · have h := h.2 c32
        refine vv_bipush (q := 166) X (-9 : Int32) dX1_reckon_164 (by decide) rfl ?_
        refine vv_goto X 175 dX1_reckon_166 (by decide) ?_
        exact tJ27 (-9 : Int32) h

def wX1_reckon (σ : St) (a1 : Nat) (P : St → Prop) : Prop :=
isO a1 ∧
∃ n41 : Nat, wLX1_reckon_2 a1 (fun (σ5 : St) =>
∃ n40 : Nat, wLX1_reckon_26 a1 (fun (σ22 : St) =>
∀ σ23 : St, σ23 = sF σ22 48 8 (-1 : Int32) →
wX1_askAll σ23  (fun σ24 : St =>
∃ n39 : Nat, wLX1_reckon_143 (fun (σ34 : St) =>
∀ σ35 : St, σ35 = sF σ34 48 8 (-1 : Int32) →
∃ dd : Nat, dd ≤ 20 ∧ wX9_restsFrom dd σ35 (0 : Int32) (fun (r36 : Int32) (σ37 : St) =>
∀ σ38 : St, σ38 = sI σ37 37 4 r36 →
P σ38)) P n39 σ24 (0 : Int32))) P n40 σ5 (0 : Int32)) P n41 σ (0 : Int32)

set_option maxHeartbeats 8000000 in
set_option maxRecDepth 100000 in
theorem kX1_reckon (l : Launch) (D : va_G) {cy : Nat → ClassId} {ad : Nat → Nat} {zb : Nat → Nat} (hw : xOk (wC ad cy zb)) {σ : St} {a1 : Nat} {P : St → Prop} (h : wX1_reckon σ a1 P) : MV l yX1_reckon wsX1_reckon rmX1_reckon D cy (wC ad cy zb) [.ref (ad 37), .ref (ad a1), .ref (ad 25)] σ P := by
  unfold MV
  refine vv_met (cc := cX1_reckon) (maxL := 6) (ret := none) hw (by decide +kernel) rfl [.ref (ad 37), .ref (ad a1), .ref (ad 25)] (Nat.le_of_ble_eq_true rfl) ?_
  intro p e s m args below meth c X hr
  have X : XX p s m args meth c cX1_reckon 6 D cy (wC ad cy zb) wsX1_reckon RX1 := X
  refine vv_sub (lv' := [(0, .ref (ad 37)), (1, .ref (ad a1)), (2, .ref (ad 25))]) [0, 1, 2] rfl ?_
  rw [wX1_reckon] at h
  obtain ⟨ha1, h⟩ := h
  refine vv_iconst (q := 1) X (0 : Int32) dX1_reckon_0 (by decide) rfl ?_
  refine vv_istore_n (lv2 := [(3, .int (0 : Int32)), (0, .ref (ad 37)), (1, .ref (ad a1)), (2, .ref (ad 25))]) (q := 2) X dX1_reckon_1 rfl (Nat.le_of_ble_eq_true rfl) rfl rfl ?_
  obtain ⟨n41, h⟩ := h
  refine vv_sub (lv' := [(0, .ref (ad 37)), (1, .ref (ad a1)), (2, .ref (ad 25)), (3, .int (0 : Int32))]) [1, 2, 3, 0] rfl ?_
  refine twLX1_reckon_2 X hr a1 ha1 _ ?_ n41 σ (0 : Int32) h
  intro σ5 h
  refine vv_iconst (q := 25) X (0 : Int32) dX1_reckon_24 (by decide) rfl ?_
  refine vv_istore_n (lv2 := [(3, .int (0 : Int32)), (0, .ref (ad 37)), (1, .ref (ad a1)), (2, .ref (ad 25))]) (q := 26) X dX1_reckon_25 rfl (Nat.le_of_ble_eq_true rfl) rfl rfl ?_
  obtain ⟨n40, h⟩ := h
  refine vv_sub (lv' := [(0, .ref (ad 37)), (1, .ref (ad a1)), (2, .ref (ad 25)), (3, .int (0 : Int32))]) [1, 2, 3, 0] rfl ?_
  refine twLX1_reckon_26 X hr a1 ha1 _ ?_ n40 σ5 (0 : Int32) h
  intro σ22 h
  refine vv_aload_n (q := 129) X 0 dX1_reckon_128 rfl rfl rfl ?_
  refine vv_getf (q := 132) (ref := "HalfLadders$Liking") (C := RX1) (T := TX1) (N := 5) X 37 1 2 (Nat.le_of_ble_eq_true rfl) rfl rfl (Nat.le_of_ble_eq_true rfl) (fun _ h => List.mem_cons_of_mem _ (List.mem_append_left _ (List.mem_append_left _ (List.mem_append_right _ h)))) (List.mem_of_getElem? (i := 7) rfl) rfl rfl dX1_reckon_129 rfl ?_
  refine vv_iconst (q := 133) X (-1 : Int32) dX1_reckon_132 (by decide) rfl ?_
  refine vv_cSv (q := 136) (P := fun u => u = sF σ22 48 8 (-1 : Int32)) X [.ref (ad 48), .int (-1 : Int32)] (kJ7_fill l D X.2.2.1 (k := 48) (n := 8) (Nat.le_of_ble_eq_true rfl) (fun _ => rfl) (Nat.le_of_ble_eq_true rfl) rfl) (va_cwS 2 X.1.2.2.2.2 gX1_reckon_J7_fill_53178 rfl rfl rfl (by decide +kernel) ⟨Nat.le_of_ble_eq_true rfl, Nat.le_of_ble_eq_true rfl⟩) rfl rfl (Nat.le_of_ble_eq_true rfl) dX1_reckon_133 rfl (fun σ23 hσ23 => ?_)
  have h := h σ23 hσ23
  refine vv_aload_n (q := 137) X 0 dX1_reckon_136 rfl rfl rfl ?_
  refine vv_aload_n (q := 138) X 1 dX1_reckon_137 rfl rfl rfl ?_
  refine vv_cVv (q := 141) (C := RX1) X 37 1 [.ref (ad 25)] (kX1_askAll l D X.2.2.1 h) (cwV 1 X.1.2.2.2.2 gX1_reckon_X1_askAll rfl rfl rfl (by decide +kernel) ⟨Nat.le_of_ble_eq_true rfl, Nat.le_of_ble_eq_true rfl⟩) (Nat.le_of_ble_eq_true rfl) rfl rfl rfl rfl (Nat.le_of_ble_eq_true rfl) dX1_reckon_138 rfl (fun σ24 h => ?_)
  refine vv_iconst (q := 142) X (0 : Int32) dX1_reckon_141 (by decide) rfl ?_
  refine vv_istore_n (lv2 := [(3, .int (0 : Int32)), (0, .ref (ad 37)), (2, .ref (ad 25))]) (q := 143) X dX1_reckon_142 rfl (Nat.le_of_ble_eq_true rfl) rfl rfl ?_
  obtain ⟨n39, h⟩ := h
  refine vv_sub (lv' := [(0, .ref (ad 37)), (2, .ref (ad 25)), (3, .int (0 : Int32))]) [1, 2, 0] rfl ?_
  refine twLX1_reckon_143 X hr  _ ?_ n39 σ24 (0 : Int32) h
  intro σ34 h
  refine vv_aload_n (q := 183) X 0 dX1_reckon_182 rfl rfl rfl ?_
  refine vv_getf (q := 186) (ref := "HalfLadders$Liking") (C := RX1) (T := TX1) (N := 5) X 37 1 2 (Nat.le_of_ble_eq_true rfl) rfl rfl (Nat.le_of_ble_eq_true rfl) (fun _ h => List.mem_cons_of_mem _ (List.mem_append_left _ (List.mem_append_left _ (List.mem_append_right _ h)))) (List.mem_of_getElem? (i := 7) rfl) rfl rfl dX1_reckon_183 rfl ?_
  refine vv_iconst (q := 187) X (-1 : Int32) dX1_reckon_186 (by decide) rfl ?_
  refine vv_cSv (q := 190) (P := fun u => u = sF σ34 48 8 (-1 : Int32)) X [.ref (ad 48), .int (-1 : Int32)] (kJ7_fill l D X.2.2.1 (k := 48) (n := 8) (Nat.le_of_ble_eq_true rfl) (fun _ => rfl) (Nat.le_of_ble_eq_true rfl) rfl) (va_cwS 2 X.1.2.2.2.2 gX1_reckon_J7_fill_53178 rfl rfl rfl (by decide +kernel) ⟨Nat.le_of_ble_eq_true rfl, Nat.le_of_ble_eq_true rfl⟩) rfl rfl (Nat.le_of_ble_eq_true rfl) dX1_reckon_187 rfl (fun σ35 hσ35 => ?_)
  have h := h σ35 hσ35
  refine vv_aload_n (q := 191) X 0 dX1_reckon_190 rfl rfl rfl ?_
  refine vv_aload_n (q := 192) X 0 dX1_reckon_191 rfl rfl rfl ?_
  refine vv_aload_n (q := 193) X 1 dX1_reckon_192 rfl rfl rfl ?_
  refine vv_iconst (q := 194) X (0 : Int32) dX1_reckon_193 (by decide) rfl ?_
  obtain ⟨dd, hdd, h⟩ := h
  refine vv_cSNi (q := 197) X [.ref (ad 37), .ref (ad 25), .int (0 : Int32)] (kX9_restsFrom l D X.2.2.1 dd σ35 (0 : Int32) _ h) ⟨va_cnB 3 X.1.2.2.2.2 gX1_reckon_X9_restsFrom_n59 rfl rfl rfl (zC_nest X.2.2.2.1) (X.1.2.2.2.2 _ (List.mem_of_getElem? (i := 30) rfl)) (by decide +kernel) ⟨by show _ ≤ _; simp only [rmX9_restsFrom, rmX1_reckon]; omega, by show _ ≤ _; simp only [rmX9_restsFrom, rmX1_reckon]; omega⟩, X.1.2.2.2.2 _ (List.mem_of_getElem? (i := 29) rfl), trivial⟩ rfl rfl (Nat.le_of_ble_eq_true rfl) dX1_reckon_194 rfl (fun r36 σ37 h => ?_)
  refine vv_putf (q := 200) (ref := "HalfLadders$Liking") (C := RX1) (T := TX1) (N := 5) X 37 1 4 tyX1 tyX1_ok nmX1 (Nat.le_of_ble_eq_true rfl) rfl rfl rfl (Nat.le_of_ble_eq_true rfl) rfl (fun _ h => List.mem_cons_of_mem _ (List.mem_append_left _ (List.mem_append_left _ (List.mem_append_right _ h)))) (List.mem_of_getElem? (i := 9) rfl) rfl rfl rfl dX1_reckon_197 rfl ?_
  refine vv_nm (fun σ38 hσ38 => ?_)
  have h := h σ38 hσ38
  exact vv_vret X hr dX1_reckon_200 h

