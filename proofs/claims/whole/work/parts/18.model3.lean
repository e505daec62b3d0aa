/-! X10_likes: likes(III)Z -/
def rmX10_likes : Room := { frames := 1, cells := 0, slots := 0, locals := 22 }
def wX10_likes (σ : St) (a1 : Int32) (a2 : Int32) (a3 : Int32) (P : Int32 → Prop) : Prop :=
jn ((a2 = (-9 : Int32) →
P (0 : Int32)) ∧
(¬ a2 = (-9 : Int32) →
P (1 : Int32))) (fun J1 : Prop =>
(a2 = (-9 : Int32) →
J1) ∧
(¬ a2 = (-9 : Int32) →
(¬ a3 = (-9 : Int32) →
wX10_ladder σ a1 a2 (fun r5 : Int32 =>
wX10_ladder σ a1 a3 (fun r6 : Int32 =>
(r5 = r6 →
vp_in a2 16 ∧
vp_in a3 16 ∧
((σ.1 6 a2.toNatClampNeg) = (σ.1 6 a3.toNatClampNeg) →
(a3 ≤ a2 →
P (0 : Int32)) ∧
(¬ a3 ≤ a2 →
P (1 : Int32))) ∧
(¬ (σ.1 6 a2.toNatClampNeg) = (σ.1 6 a3.toNatClampNeg) →
vp_in a2 16 ∧
vp_in a3 16 ∧
((σ.1 6 a2.toNatClampNeg) ≤ (σ.1 6 a3.toNatClampNeg) →
P (0 : Int32)) ∧
(¬ (σ.1 6 a2.toNatClampNeg) ≤ (σ.1 6 a3.toNatClampNeg) →
P (1 : Int32)))) ∧
(¬ r5 = r6 →
(r5 ≤ r6 →
P (0 : Int32)) ∧
(¬ r5 ≤ r6 →
P (1 : Int32)))))) ∧
(a3 = (-9 : Int32) →
J1)))

set_option maxHeartbeats 8000000 in
set_option maxRecDepth 100000 in
theorem kX10_likes (l : Launch) (D : va_G) {cy : Nat → ClassId} {ad : Nat → Nat} (hw : xOk (wM ad cy)) {σ : St} {a1 : Int32} {a2 : Int32} {a3 : Int32} {P : Int32 → Prop} (h : wX10_likes σ a1 a2 a3 P) : MI l yX10_likes wsX10_likes rmX10_likes D cy (wM ad cy) [.ref (ad 0), .int a1, .int a2, .int a3] σ (fun r u => P r ∧ u = σ) := by
  unfold MI
  refine vv_met (cc := cX10_likes) (maxL := 6) (ret := (some .boolean)) hw (by decide +kernel) rfl [.ref (ad 0), .int a1, .int a2, .int a3] (Nat.le_of_ble_eq_true rfl) ?_
  intro p e s m args below meth c X hr
  have X : XX p s m args meth c cX10_likes 6 D cy (wM ad cy) wsX10_likes RX10 := X
  refine vv_sub (lv' := [(0, .ref (ad 0)), (1, .int a1), (2, .int a2), (3, .int a3)]) [0, 1, 2, 3] rfl ?_
  rw [wX10_likes] at h
  refine vv_iload_n (q := 1) X 2 dX10_likes_0 rfl rfl rfl ?_
  refine vv_bipush (q := 3) X (-9 : Int32) dX10_likes_1 (by decide) rfl ?_
  obtain ⟨J1, hJ1, h⟩ := jn_el h
  have tJ1 : J1 → VV p l e rmX10_likes s m args below meth c (MQ below (va_Qi (fun r u => P r ∧ u = σ) (xPost D (wM ad cy)) (xA (wM ad cy))) args s 0 0 (xA (wM ad cy))) 6 D (wM ad cy) σ 12 [(2, .int a2)] [] := by
    intro h
    rw [hJ1] at h
    refine vv_iload_n (q := 13) X 0 dX10_likes_12 rfl rfl rfl ?_
    refine vv_bipush (q := 15) X (-9 : Int32) dX10_likes_13 (by decide) rfl ?_
    refine vv_icmp_eq (q := 18) X 22 dX10_likes_15 (by decide) rfl (fun c2 => ?_) (fun c2 => ?_)
    · have h := h.1 c2
      refine vv_iconst (q := 23) X (0 : Int32) dX10_likes_22 (by decide) rfl ?_
      exact vv_zret X hr rfl dX10_likes_23 ⟨h, rfl⟩
    · have h := h.2 c2
      refine vv_iconst (q := 19) X (1 : Int32) dX10_likes_18 (by decide) rfl ?_
      refine vv_goto X 23 dX10_likes_19 (by decide) ?_
      exact vv_zret X hr rfl dX10_likes_23 ⟨h, rfl⟩
  refine vv_icmp_eq (q := 6) X 12 dX10_likes_3 (by decide) rfl (fun c3 => ?_) (fun c3 => ?_)
  · have h := h.1 c3
    refine vv_sub (lv' := [(2, .int a2)]) [2] rfl ?_
    exact tJ1  h
  · have h := h.2 c3
    refine vv_iload_n (q := 7) X 3 dX10_likes_6 rfl rfl rfl ?_
    refine vv_bipush (q := 9) X (-9 : Int32) dX10_likes_7 (by decide) rfl ?_
    refine vv_icmp_ne (q := 12) X 24 dX10_likes_9 (by decide) rfl (fun c4 => ?_) (fun c4 => ?_)
    · have h := h.1 c4
      refine vv_aload_n (q := 25) X 0 dX10_likes_24 rfl rfl rfl ?_
      refine vv_iload_n (q := 26) X 1 dX10_likes_25 rfl rfl rfl ?_
      refine vv_iload_n (q := 27) X 2 dX10_likes_26 rfl rfl rfl ?_
      refine vv_cVi (q := 30) (C := RX10) X 0 10 [.int a1, .int a2] (kX10_ladder l D X.2.2.1 h) (cwV 2 X.1.2.2.2.2 gX10_likes_X10_ladder rfl rfl rfl (by decide +kernel) ⟨Nat.le_of_ble_eq_true rfl, Nat.le_of_ble_eq_true rfl⟩) (Nat.le_of_ble_eq_true rfl) rfl rfl rfl rfl (Nat.le_of_ble_eq_true rfl) dX10_likes_27 rfl (fun r5 u9 h9 => ?_)
      obtain ⟨h9, hu9⟩ := h9
      subst u9
      have h := h9
      refine vv_istore (lv2 := [(4, .int r5), (0, .ref (ad 0)), (1, .int a1), (2, .int a2), (3, .int a3)]) (q := 32) X dX10_likes_30 (Nat.le_of_ble_eq_true rfl) rfl rfl ?_
      refine vv_aload_n (q := 33) X 1 dX10_likes_32 rfl rfl rfl ?_
      refine vv_iload_n (q := 34) X 2 dX10_likes_33 rfl rfl rfl ?_
      refine vv_iload_n (q := 35) X 4 dX10_likes_34 rfl rfl rfl ?_
      refine vv_cVi (q := 38) (C := RX10) X 0 10 [.int a1, .int a3] (kX10_ladder l D X.2.2.1 h) (cwV 2 X.1.2.2.2.2 gX10_likes_X10_ladder rfl rfl rfl (by decide +kernel) ⟨Nat.le_of_ble_eq_true rfl, Nat.le_of_ble_eq_true rfl⟩) (Nat.le_of_ble_eq_true rfl) rfl rfl rfl rfl (Nat.le_of_ble_eq_true rfl) dX10_likes_35 rfl (fun r6 u9 h9 => ?_)
      obtain ⟨h9, hu9⟩ := h9
      subst u9
      have h := h9
      refine vv_istore (lv2 := [(5, .int r6), (4, .int r5), (0, .ref (ad 0)), (1, .int a1), (2, .int a2), (3, .int a3)]) (q := 40) X dX10_likes_38 (Nat.le_of_ble_eq_true rfl) rfl rfl ?_
      refine vv_iload (q := 42) X 1 dX10_likes_40 rfl rfl ?_
      refine vv_iload (q := 44) X 0 dX10_likes_42 rfl rfl ?_
      refine vv_icmp_eq (q := 47) X 62 dX10_likes_44 (by decide) rfl (fun c7 => ?_) (fun c7 => ?_)
      · have h := h.1 c7
        refine vv_aload_n (q := 63) X 2 dX10_likes_62 rfl rfl rfl ?_
        refine vv_getf (q := 66) (ref := "HalfLaddersModel") (C := RX10) (T := TX10) (N := 27) X 0 10 7 (Nat.le_of_ble_eq_true rfl) rfl rfl (Nat.le_of_ble_eq_true rfl) (fun _ h => List.mem_cons_of_mem _ (List.mem_append_right _ h)) (List.mem_of_getElem? (i := 1) rfl) rfl rfl dX10_likes_63 rfl ?_
        refine vv_iload_n (q := 67) X 4 dX10_likes_66 rfl rfl rfl ?_
        obtain ⟨hin8, h⟩ := h
        refine vv_iald (q := 68) X 6 16 (Nat.le_of_ble_eq_true rfl) (fun _ => rfl) hin8 dX10_likes_67 rfl ?_
        refine vv_aload_n (q := 69) X 2 dX10_likes_68 rfl rfl rfl ?_
        refine vv_getf (q := 72) (ref := "HalfLaddersModel") (C := RX10) (T := TX10) (N := 27) X 0 10 7 (Nat.le_of_ble_eq_true rfl) rfl rfl (Nat.le_of_ble_eq_true rfl) (fun _ h => List.mem_cons_of_mem _ (List.mem_append_right _ h)) (List.mem_of_getElem? (i := 1) rfl) rfl rfl dX10_likes_69 rfl ?_
        refine vv_iload_n (q := 73) X 5 dX10_likes_72 rfl rfl rfl ?_
        obtain ⟨hin9, h⟩ := h
        refine vv_iald (q := 74) X 6 16 (Nat.le_of_ble_eq_true rfl) (fun _ => rfl) hin9 dX10_likes_73 rfl ?_
        refine vv_icmp_eq (q := 77) X 100 dX10_likes_74 (by decide) rfl (fun c10 => ?_) (fun c10 => ?_)
        · have h := h.1 c10
          refine vv_iload_n (q := 101) X 4 dX10_likes_100 rfl rfl rfl ?_
          refine vv_iload_n (q := 102) X 5 dX10_likes_101 rfl rfl rfl ?_
          refine vv_icmp_ge (q := 105) X 109 dX10_likes_102 (by decide) rfl (fun c11 => ?_) (fun c11 => ?_)
          · have h := h.1 c11
            refine vv_iconst (q := 110) X (0 : Int32) dX10_likes_109 (by decide) rfl ?_
            exact vv_zret X hr rfl dX10_likes_110 ⟨h, rfl⟩
          · have h := h.2 c11
            refine vv_iconst (q := 106) X (1 : Int32) dX10_likes_105 (by decide) rfl ?_
            refine vv_goto X 110 dX10_likes_106 (by decide) ?_
            exact vv_zret X hr rfl dX10_likes_110 ⟨h, rfl⟩
        · have h := h.2 c10
          refine vv_aload_n (q := 78) X 2 dX10_likes_77 rfl rfl rfl ?_
          refine vv_getf (q := 81) (ref := "HalfLaddersModel") (C := RX10) (T := TX10) (N := 27) X 0 10 7 (Nat.le_of_ble_eq_true rfl) rfl rfl (Nat.le_of_ble_eq_true rfl) (fun _ h => List.mem_cons_of_mem _ (List.mem_append_right _ h)) (List.mem_of_getElem? (i := 1) rfl) rfl rfl dX10_likes_78 rfl ?_
          refine vv_iload_n (q := 82) X 4 dX10_likes_81 rfl rfl rfl ?_
          obtain ⟨hin12, h⟩ := h
          refine vv_iald (q := 83) X 6 16 (Nat.le_of_ble_eq_true rfl) (fun _ => rfl) hin12 dX10_likes_82 rfl ?_
          refine vv_aload_n (q := 84) X 2 dX10_likes_83 rfl rfl rfl ?_
          refine vv_getf (q := 87) (ref := "HalfLaddersModel") (C := RX10) (T := TX10) (N := 27) X 0 10 7 (Nat.le_of_ble_eq_true rfl) rfl rfl (Nat.le_of_ble_eq_true rfl) (fun _ h => List.mem_cons_of_mem _ (List.mem_append_right _ h)) (List.mem_of_getElem? (i := 1) rfl) rfl rfl dX10_likes_84 rfl ?_
          refine vv_iload_n (q := 88) X 5 dX10_likes_87 rfl rfl rfl ?_
          obtain ⟨hin13, h⟩ := h
          refine vv_iald (q := 89) X 6 16 (Nat.le_of_ble_eq_true rfl) (fun _ => rfl) hin13 dX10_likes_88 rfl ?_
          refine vv_icmp_le (q := 92) X 96 dX10_likes_89 (by decide) rfl (fun c14 => ?_) (fun c14 => ?_)
          · have h := h.1 c14
            refine vv_iconst (q := 97) X (0 : Int32) dX10_likes_96 (by decide) rfl ?_
            refine vv_goto X 110 dX10_likes_97 (by decide) ?_
            exact vv_zret X hr rfl dX10_likes_110 ⟨h, rfl⟩
          · have h := h.2 c14
            refine vv_iconst (q := 93) X (1 : Int32) dX10_likes_92 (by decide) rfl ?_
            refine vv_goto X 110 dX10_likes_93 (by decide) ?_
            exact vv_zret X hr rfl dX10_likes_110 ⟨h, rfl⟩
      · have h := h.2 c7
        refine vv_iload (q := 49) X 1 dX10_likes_47 rfl rfl ?_
        refine vv_iload (q := 51) X 0 dX10_likes_49 rfl rfl ?_
        refine vv_icmp_le (q := 54) X 58 dX10_likes_51 (by decide) rfl (fun c15 => ?_) (fun c15 => ?_)
        · have h := h.1 c15
          refine vv_iconst (q := 59) X (0 : Int32) dX10_likes_58 (by decide) rfl ?_
          refine vv_goto X 110 dX10_likes_59 (by decide) ?_
          exact vv_zret X hr rfl dX10_likes_110 ⟨h, rfl⟩
        · have h := h.2 c15
          refine vv_iconst (q := 55) X (1 : Int32) dX10_likes_54 (by decide) rfl ?_
          refine vv_goto X 110 dX10_likes_55 (by decide) ?_
          exact vv_zret X hr rfl dX10_likes_110 ⟨h, rfl⟩
    · have h := h.2 c4
      refine vv_sub (lv' := [(2, .int a2)]) [2] rfl ?_
      exact tJ1  h

/-! X10_asksNext: asksNext(I)I -/
def rmX10_asksNext : Room := { frames := 2, cells := 0, slots := 0, locals := 47 }
def wLX10_asksNext_5 (f1 : Int32) (σ : St) (K76 : Int32 → Prop) (P : Int32 → Prop) : Nat → Int32 → Int32 → Prop
  | 0, _, _ => False
  | n + 1, x2, x3 =>
    vp_in (0 : Int32) 2 ∧
    ((σ.1 2 (0 : Int32).toNatClampNeg) ≤ x3 →
    K76 x2) ∧
    (¬ (σ.1 2 (0 : Int32).toNatClampNeg) ≤ x3 →
    jn (fun (v4 : Int32) =>
    (v4 = 0 →
    ∀ z6 : Int32, z6 = x3 + (1 : Int32) →
    wLX10_asksNext_5 f1 σ K76 P n x2 z6) ∧
    (¬ v4 = 0 →
    wX10_likes σ f1 x3 x2 (fun r7 : Int32 =>
    (r7 = 0 →
    ∀ z9 : Int32, z9 = x3 + (1 : Int32) →
    wLX10_asksNext_5 f1 σ K76 P n x2 z9) ∧
    (¬ r7 = 0 →
    ∀ z10 : Int32, z10 = x3 + (1 : Int32) →
    wLX10_asksNext_5 f1 σ K76 P n x3 z10)))) (fun J3 : Int32 → Prop =>
    (x3 = f1 →
    J3 (0 : Int32)) ∧
    (¬ x3 = f1 →
    wX10_fits σ f1 x3 (fun r12 : Int32 =>
    (r12 = 0 →
    J3 (0 : Int32)) ∧
    (¬ r12 = 0 →
    vp_in f1 8 ∧
    (¬ (((σ.1 18 f1.toNatClampNeg) >>> (x3 &&& 31)) &&& (1 : Int32)) = 0 →
    J3 (0 : Int32)) ∧
    ((((σ.1 18 f1.toNatClampNeg) >>> (x3 &&& 31)) &&& (1 : Int32)) = 0 →
    J3 (1 : Int32)))))))

set_option maxHeartbeats 4000000 in
set_option maxRecDepth 100000 in
theorem twLX10_asksNext_5 {p : Program} {l : Launch} {e : Env} {s : State} {m : MethodId} {args : Array Value} {below : List Frame} {meth : Method} {c : Code} {D : va_G} {cy : Nat → ClassId} {ad : Nat → Nat} (X : XX p s m args meth c cX10_asksNext 5 D cy (wM ad cy) wsX10_asksNext RX10) (hr : meth.sig.returnType = (some .int)) (f1 : Int32)  (σ : St) (K76 : Int32 → Prop) {P : Int32 → Prop} (hK76 : ∀ (x2 : Int32), K76 x2 → VV p l e rmX10_asksNext s m args below meth c (MQ below (va_Qi (fun r u => P r ∧ u = σ) (xPost D (wM ad cy)) (xA (wM ad cy))) args s 0 0 (xA (wM ad cy))) 5 D (wM ad cy) σ 76 [(2, .int x2)] []) : ∀ (n : Nat) (x2 : Int32) (x3 : Int32), wLX10_asksNext_5 f1 σ K76 P n x2 x3 → VV p l e rmX10_asksNext s m args below meth c (MQ below (va_Qi (fun r u => P r ∧ u = σ) (xPost D (wM ad cy)) (xA (wM ad cy))) args s 0 0 (xA (wM ad cy))) 5 D (wM ad cy) σ 5 [(0, .ref (ad 0)), (1, .int f1), (2, .int x2), (3, .int x3)] [] := by
  intro n
  induction n with
  | zero => intro x2 x3 h; exact h.elim
  | succ n ih =>
    intro x2 x3 h
    rw [wLX10_asksNext_5] at h
    refine vv_iload_n (q := 6) X 3 dX10_asksNext_5 rfl rfl rfl ?_
    refine vv_aload_n (q := 7) X 0 dX10_asksNext_6 rfl rfl rfl ?_
    refine vv_getf (q := 10) (ref := "HalfLaddersModel") (C := RX10) (T := TX10) (N := 27) X 0 10 3 (Nat.le_of_ble_eq_true rfl) rfl rfl (Nat.le_of_ble_eq_true rfl) (fun _ h => List.mem_cons_of_mem _ (List.mem_append_right _ h)) (List.mem_of_getElem? (i := 1) rfl) rfl rfl dX10_asksNext_7 rfl ?_
    refine vv_iconst (q := 11) X (0 : Int32) dX10_asksNext_10 (by decide) rfl ?_
    obtain ⟨hin1, h⟩ := h
    refine vv_iald (q := 12) X 2 2 (Nat.le_of_ble_eq_true rfl) (fun _ => rfl) hin1 dX10_asksNext_11 rfl ?_
    refine vv_icmp_ge (q := 15) X 76 dX10_asksNext_12 (by decide) rfl (fun c2 => ?_) (fun c2 => ?_)
    · have h := h.1 c2
      refine vv_sub (lv' := [(2, .int x2)]) [2] rfl ?_
      exact hK76 x2 h
    · have h := h.2 c2
      refine vv_iload_n (q := 16) X 3 dX10_asksNext_15 rfl rfl rfl ?_
      refine vv_iload_n (q := 17) X 1 dX10_asksNext_16 rfl rfl rfl ?_
      obtain ⟨J3, hJ3, h⟩ := jn_el h
      have tJ3 : ∀ (v4 : Int32), J3 v4 → VV p l e rmX10_asksNext s m args below meth c (MQ below (va_Qi (fun r u => P r ∧ u = σ) (xPost D (wM ad cy)) (xA (wM ad cy))) args s 0 0 (xA (wM ad cy))) 5 D (wM ad cy) σ 47 [(0, .ref (ad 0)), (1, .int f1), (2, .int x2), (3, .int x3)] [.int v4] := by
        intro v4 h
        rw [hJ3] at h
        refine vv_istore (lv2 := [(4, .int v4), (0, .ref (ad 0)), (1, .int f1), (2, .int x2), (3, .int x3)]) (q := 49) X dX10_asksNext_47 (Nat.le_of_ble_eq_true rfl) rfl rfl ?_
        refine vv_iload (q := 51) X 0 dX10_asksNext_49 rfl rfl ?_
        refine vv_if_eq (q := 54) X 68 dX10_asksNext_51 (by decide) rfl (fun c5 => ?_) (fun c5 => ?_)
        · have h := h.1 c5
          refine vv_iload_n (q := 69) X 3 dX10_asksNext_68 rfl rfl rfl ?_
          refine vv_istore_n (lv2 := [(2, .int x2), (4, .int v4), (0, .ref (ad 0)), (1, .int f1), (3, .int x3)]) (q := 70) X dX10_asksNext_69 rfl (Nat.le_of_ble_eq_true rfl) rfl rfl ?_
          obtain ⟨z6, hz6⟩ : ∃ y : Int32, y = x3 + (1 : Int32) := ⟨_, rfl⟩
          have h := h z6 hz6
          refine vv_iinc (v := z6) (lv2 := [(3, .int z6), (2, .int x2), (4, .int v4), (0, .ref (ad 0)), (1, .int f1)]) (q := 73) X 4 dX10_asksNext_70 rfl (by rw [hz6]; rfl) (Nat.le_of_ble_eq_true rfl) rfl rfl ?_
          refine vv_goto X 5 dX10_asksNext_73 (by decide) ?_
          refine vv_sub (lv' := [(0, .ref (ad 0)), (1, .int f1), (2, .int x2), (3, .int z6)]) [3, 4, 1, 0] rfl ?_
          exact ih x2 z6 h
        · have h := h.2 c5
          refine vv_aload_n (q := 55) X 1 dX10_asksNext_54 rfl rfl rfl ?_
          refine vv_iload_n (q := 56) X 2 dX10_asksNext_55 rfl rfl rfl ?_
          refine vv_iload_n (q := 57) X 4 dX10_asksNext_56 rfl rfl rfl ?_
          refine vv_iload_n (q := 58) X 3 dX10_asksNext_57 rfl rfl rfl ?_
          refine vv_cVi (q := 61) (C := RX10) X 0 10 [.int f1, .int x3, .int x2] (kX10_likes l D X.2.2.1 h) (cwV 3 X.1.2.2.2.2 gX10_asksNext_X10_likes rfl rfl rfl (by decide +kernel) ⟨Nat.le_of_ble_eq_true rfl, Nat.le_of_ble_eq_true rfl⟩) (Nat.le_of_ble_eq_true rfl) rfl rfl rfl rfl (Nat.le_of_ble_eq_true rfl) dX10_asksNext_58 rfl (fun r7 u9 h9 => ?_)
          obtain ⟨h9, hu9⟩ := h9
          subst u9
          have h := h9
          refine vv_if_eq (q := 64) X 68 dX10_asksNext_61 (by decide) rfl (fun c8 => ?_) (fun c8 => ?_)
          · have h := h.1 c8
            refine vv_iload_n (q := 69) X 3 dX10_asksNext_68 rfl rfl rfl ?_
            refine vv_istore_n (lv2 := [(2, .int x2), (4, .int v4), (0, .ref (ad 0)), (1, .int f1), (3, .int x3)]) (q := 70) X dX10_asksNext_69 rfl (Nat.le_of_ble_eq_true rfl) rfl rfl ?_
            obtain ⟨z9, hz9⟩ : ∃ y : Int32, y = x3 + (1 : Int32) := ⟨_, rfl⟩
            have h := h z9 hz9
            refine vv_iinc (v := z9) (lv2 := [(3, .int z9), (2, .int x2), (4, .int v4), (0, .ref (ad 0)), (1, .int f1)]) (q := 73) X 4 dX10_asksNext_70 rfl (by rw [hz9]; rfl) (Nat.le_of_ble_eq_true rfl) rfl rfl ?_
            refine vv_goto X 5 dX10_asksNext_73 (by decide) ?_
            refine vv_sub (lv' := [(0, .ref (ad 0)), (1, .int f1), (2, .int x2), (3, .int z9)]) [3, 4, 1, 0] rfl ?_
            exact ih x2 z9 h
          · have h := h.2 c8
            refine vv_iload_n (q := 65) X 4 dX10_asksNext_64 rfl rfl rfl ?_
            refine vv_goto X 69 dX10_asksNext_65 (by decide) ?_
            refine vv_istore_n (lv2 := [(2, .int x3), (4, .int v4), (0, .ref (ad 0)), (1, .int f1), (3, .int x3)]) (q := 70) X dX10_asksNext_69 rfl (Nat.le_of_ble_eq_true rfl) rfl rfl ?_
            obtain ⟨z10, hz10⟩ : ∃ y : Int32, y = x3 + (1 : Int32) := ⟨_, rfl⟩
            have h := h z10 hz10
            refine vv_iinc (v := z10) (lv2 := [(3, .int z10), (2, .int x3), (4, .int v4), (0, .ref (ad 0)), (1, .int f1)]) (q := 73) X 4 dX10_asksNext_70 rfl (by rw [hz10]; rfl) (Nat.le_of_ble_eq_true rfl) rfl rfl ?_
            refine vv_goto X 5 dX10_asksNext_73 (by decide) ?_
            refine vv_sub (lv' := [(0, .ref (ad 0)), (1, .int f1), (2, .int x3), (3, .int z10)]) [3, 4, 1, 0] rfl ?_
            exact ih x3 z10 h
      refine vv_icmp_eq (q := 20) X 46 dX10_asksNext_17 (by decide) rfl (fun c11 => ?_) (fun c11 => ?_)
      · have h := h.1 c11
        refine vv_iconst (q := 47) X (0 : Int32) dX10_asksNext_46 (by decide) rfl ?_
        exact tJ3 (0 : Int32) h
      · have h := h.2 c11
        refine vv_aload_n (q := 21) X 0 dX10_asksNext_20 rfl rfl rfl ?_
        refine vv_iload_n (q := 22) X 1 dX10_asksNext_21 rfl rfl rfl ?_
        refine vv_iload_n (q := 23) X 3 dX10_asksNext_22 rfl rfl rfl ?_
        refine vv_cVi (q := 26) (C := RX10) X 0 10 [.int f1, .int x3] (kX10_fits l D X.2.2.1 h) (cwV 2 X.1.2.2.2.2 gX10_asksNext_X10_fits rfl rfl rfl (by decide +kernel) ⟨Nat.le_of_ble_eq_true rfl, Nat.le_of_ble_eq_true rfl⟩) (Nat.le_of_ble_eq_true rfl) rfl rfl rfl rfl (Nat.le_of_ble_eq_true rfl) dX10_asksNext_23 rfl (fun r12 u9 h9 => ?_)
        obtain ⟨h9, hu9⟩ := h9
        subst u9
        have h := h9
        refine vv_if_eq (q := 29) X 46 dX10_asksNext_26 (by decide) rfl (fun c13 => ?_) (fun c13 => ?_)
        · have h := h.1 c13
          refine vv_iconst (q := 47) X (0 : Int32) dX10_asksNext_46 (by decide) rfl ?_
          exact tJ3 (0 : Int32) h
        · have h := h.2 c13
          refine vv_aload_n (q := 30) X 0 dX10_asksNext_29 rfl rfl rfl ?_
          refine vv_getf (q := 33) (ref := "HalfLaddersModel") (C := RX10) (T := TX10) (N := 27) X 0 10 24 (Nat.le_of_ble_eq_true rfl) rfl rfl (Nat.le_of_ble_eq_true rfl) (fun _ h => List.mem_cons_of_mem _ (List.mem_append_right _ h)) (List.mem_of_getElem? (i := 2) rfl) rfl rfl dX10_asksNext_30 rfl ?_
          refine vv_iload_n (q := 34) X 1 dX10_asksNext_33 rfl rfl rfl ?_
          obtain ⟨hin14, h⟩ := h
          refine vv_iald (q := 35) X 18 8 (Nat.le_of_ble_eq_true rfl) (fun _ => rfl) hin14 dX10_asksNext_34 rfl ?_
          refine vv_iload_n (q := 36) X 3 dX10_asksNext_35 rfl rfl rfl ?_
          refine vv_ishr (q := 37) X dX10_asksNext_36 rfl ?_
          refine vv_iconst (q := 38) X (1 : Int32) dX10_asksNext_37 (by decide) rfl ?_
          refine vv_iand (q := 39) X dX10_asksNext_38 rfl ?_
          refine vv_if_ne (q := 42) X 46 dX10_asksNext_39 (by decide) rfl (fun c15 => ?_) (fun c15 => ?_)
          · have h := h.1 c15
            refine vv_iconst (q := 47) X (0 : Int32) dX10_asksNext_46 (by decide) rfl ?_
            exact tJ3 (0 : Int32) h
          · have h := h.2 c15
            refine vv_iconst (q := 43) X (1 : Int32) dX10_asksNext_42 (by decide) rfl ?_
            refine vv_goto X 47 dX10_asksNext_43 (by decide) ?_
            exact tJ3 (1 : Int32) h

def wX10_asksNext (σ : St) (a1 : Int32) (P : Int32 → Prop) : Prop :=
∃ n17 : Nat, wLX10_asksNext_5 a1 σ (fun (y16 : Int32) =>
P y16) P n17 (-9 : Int32) (0 : Int32)

set_option maxHeartbeats 8000000 in
set_option maxRecDepth 100000 in
theorem kX10_asksNext (l : Launch) (D : va_G) {cy : Nat → ClassId} {ad : Nat → Nat} (hw : xOk (wM ad cy)) {σ : St} {a1 : Int32} {P : Int32 → Prop} (h : wX10_asksNext σ a1 P) : MI l yX10_asksNext wsX10_asksNext rmX10_asksNext D cy (wM ad cy) [.ref (ad 0), .int a1] σ (fun r u => P r ∧ u = σ) := by
  unfold MI
  refine vv_met (cc := cX10_asksNext) (maxL := 5) (ret := (some .int)) hw (by decide +kernel) rfl [.ref (ad 0), .int a1] (Nat.le_of_ble_eq_true rfl) ?_
  intro p e s m args below meth c X hr
  have X : XX p s m args meth c cX10_asksNext 5 D cy (wM ad cy) wsX10_asksNext RX10 := X
  refine vv_sub (lv' := [(0, .ref (ad 0)), (1, .int a1)]) [0, 1] rfl ?_
  rw [wX10_asksNext] at h
  refine vv_bipush (q := 2) X (-9 : Int32) dX10_asksNext_0 (by decide) rfl ?_
  refine vv_istore_n (lv2 := [(2, .int (-9 : Int32)), (0, .ref (ad 0)), (1, .int a1)]) (q := 3) X dX10_asksNext_2 rfl (Nat.le_of_ble_eq_true rfl) rfl rfl ?_
  refine vv_iconst (q := 4) X (0 : Int32) dX10_asksNext_3 (by decide) rfl ?_
  refine vv_istore_n (lv2 := [(3, .int (0 : Int32)), (2, .int (-9 : Int32)), (0, .ref (ad 0)), (1, .int a1)]) (q := 5) X dX10_asksNext_4 rfl (Nat.le_of_ble_eq_true rfl) rfl rfl ?_
  obtain ⟨n17, h⟩ := h
  refine vv_sub (lv' := [(0, .ref (ad 0)), (1, .int a1), (2, .int (-9 : Int32)), (3, .int (0 : Int32))]) [2, 3, 1, 0] rfl ?_
  refine twLX10_asksNext_5 X hr a1  σ _ ?_ n17 (-9 : Int32) (0 : Int32) h
  intro y16 h
  refine vv_iload_n (q := 77) X 0 dX10_asksNext_76 rfl rfl rfl ?_
  exact vv_iret X hr dX10_asksNext_77 ⟨h, rfl⟩

/-! X10_ask: ask()V -/
def rmX10_ask : Room := { frames := 3, cells := 0, slots := 0, locals := 71 }
def wLX10_ask_2   (K29 : St → Prop) (P : St → Prop) : Nat → St → Int32 → Prop
  | 0, _, _ => False
  | n + 1, σ, x1 =>
    ((8 : Int32) ≤ x1 →
    K29 σ) ∧
    (¬ (8 : Int32) ≤ x1 →
    vp_in x1 8 ∧
    ∀ σ3 : St, σ3 = sI σ 17 x1.toNatClampNeg (-9 : Int32) →
    vp_in x1 8 ∧
    ∀ σ5 : St, σ5 = sI σ3 18 x1.toNatClampNeg (0 : Int32) →
    ∀ z6 : Int32, z6 = x1 + (1 : Int32) →
    wLX10_ask_2 K29 P n σ5 z6)

set_option maxHeartbeats 4000000 in
set_option maxRecDepth 100000 in
theorem twLX10_ask_2 {p : Program} {l : Launch} {e : Env} {s : State} {m : MethodId} {args : Array Value} {below : List Frame} {meth : Method} {c : Code} {D : va_G} {cy : Nat → ClassId} {ad : Nat → Nat} (X : XX p s m args meth c cX10_ask 6 D cy (wM ad cy) wsX10_ask RX10) (hr : meth.sig.returnType = none)    (K29 : St → Prop) {P : St → Prop} (hK29 : ∀ (σ : St), K29 σ → VV p l e rmX10_ask s m args below meth c (MQ below (va_Qv P (xPost D (wM ad cy)) (xA (wM ad cy))) args s 0 0 (xA (wM ad cy))) 6 D (wM ad cy) σ 29 [(0, .ref (ad 0))] []) : ∀ (n : Nat) (σ : St) (x1 : Int32), wLX10_ask_2 K29 P n σ x1 → VV p l e rmX10_ask s m args below meth c (MQ below (va_Qv P (xPost D (wM ad cy)) (xA (wM ad cy))) args s 0 0 (xA (wM ad cy))) 6 D (wM ad cy) σ 2 [(0, .ref (ad 0)), (1, .int x1)] [] := by
  intro n
  induction n with
  | zero => intro σ x1 h; exact h.elim
  | succ n ih =>
    intro σ x1 h
    rw [wLX10_ask_2] at h
    refine vv_iload_n (q := 3) X 1 dX10_ask_2 rfl rfl rfl ?_
    refine vv_bipush (q := 5) X (8 : Int32) dX10_ask_3 (by decide) rfl ?_
    refine vv_icmp_ge (q := 8) X 29 dX10_ask_5 (by decide) rfl (fun c1 => ?_) (fun c1 => ?_)
    · have h := h.1 c1
      refine vv_sub (lv' := [(0, .ref (ad 0))]) [0] rfl ?_
      exact hK29 σ h
    · have h := h.2 c1
      refine vv_aload_n (q := 9) X 0 dX10_ask_8 rfl rfl rfl ?_
      refine vv_getf (q := 12) (ref := "HalfLaddersModel") (C := RX10) (T := TX10) (N := 27) X 0 10 23 (Nat.le_of_ble_eq_true rfl) rfl rfl (Nat.le_of_ble_eq_true rfl) (fun _ h => List.mem_cons_of_mem _ (List.mem_append_right _ h)) (List.mem_of_getElem? (i := 1) rfl) rfl rfl dX10_ask_9 rfl ?_
      refine vv_iload_n (q := 13) X 1 dX10_ask_12 rfl rfl rfl ?_
      refine vv_bipush (q := 15) X (-9 : Int32) dX10_ask_13 (by decide) rfl ?_
      obtain ⟨hin2, h⟩ := h
      refine vv_iast (q := 16) X 17 8 (Nat.le_of_ble_eq_true rfl) (fun _ => rfl) hin2 dX10_ask_15 rfl ?_
      refine vv_nm (fun σ3 hσ3 => ?_)
      have h := h σ3 hσ3
      refine vv_aload_n (q := 17) X 0 dX10_ask_16 rfl rfl rfl ?_
      refine vv_getf (q := 20) (ref := "HalfLaddersModel") (C := RX10) (T := TX10) (N := 27) X 0 10 24 (Nat.le_of_ble_eq_true rfl) rfl rfl (Nat.le_of_ble_eq_true rfl) (fun _ h => List.mem_cons_of_mem _ (List.mem_append_right _ h)) (List.mem_of_getElem? (i := 2) rfl) rfl rfl dX10_ask_17 rfl ?_
      refine vv_iload_n (q := 21) X 1 dX10_ask_20 rfl rfl rfl ?_
      refine vv_iconst (q := 22) X (0 : Int32) dX10_ask_21 (by decide) rfl ?_
      obtain ⟨hin4, h⟩ := h
      refine vv_iast (q := 23) X 18 8 (Nat.le_of_ble_eq_true rfl) (fun _ => rfl) hin4 dX10_ask_22 rfl ?_
      refine vv_nm (fun σ5 hσ5 => ?_)
      have h := h σ5 hσ5
      obtain ⟨z6, hz6⟩ : ∃ y : Int32, y = x1 + (1 : Int32) := ⟨_, rfl⟩
      have h := h z6 hz6
      refine vv_iinc (v := z6) (lv2 := [(1, .int z6), (0, .ref (ad 0))]) (q := 26) X 1 dX10_ask_23 rfl (by rw [hz6]; rfl) (Nat.le_of_ble_eq_true rfl) rfl rfl ?_
      refine vv_goto X 2 dX10_ask_26 (by decide) ?_
      refine vv_sub (lv' := [(0, .ref (ad 0)), (1, .int z6)]) [1, 0] rfl ?_
      exact ih σ5 z6 h

def wLX10_ask_39   (K170 : St → Int32 → Prop) (P : St → Prop) : Nat → St → Int32 → Int32 → Prop
  | 0, _, _, _ => False
  | n + 1, σ, x1, x2 =>
    vp_in (0 : Int32) 2 ∧
    ((σ.1 2 (0 : Int32).toNatClampNeg) ≤ x2 →
    K170 σ x1) ∧
    (¬ (σ.1 2 (0 : Int32).toNatClampNeg) ≤ x2 →
    vp_in x2 16 ∧
    jn (fun (v13 : Int32) =>
    (v13 = (-9 : Int32) →
    ∀ z15 : Int32, z15 = x2 + (1 : Int32) →
    wLX10_ask_39 K170 P n σ x1 z15) ∧
    (¬ v13 = (-9 : Int32) →
    vp_in v13 8 ∧
    ∀ z17 : Int32, z17 = (σ.1 17 v13.toNatClampNeg) →
    wX10_likes σ v13 x2 z17 (fun r18 : Int32 =>
    jn (fun (v20 : Int32) =>
    jn (fun (σ22 : St) =>
    (v20 = (-9 : Int32) →
    ∀ z24 : Int32, z24 = x2 + (1 : Int32) →
    wLX10_ask_39 K170 P n σ22 (1 : Int32) z24) ∧
    (¬ v20 = (-9 : Int32) →
    vp_in v20 8 ∧
    vp_in v20 8 ∧
    ∀ σ27 : St, σ27 = sI σ22 18 v20.toNatClampNeg ((σ22.1 18 v20.toNatClampNeg) ||| ((1 : Int32) <<< (v13 &&& 31))) →
    vp_in v20 8 ∧
    ∀ σ29 : St, σ29 = sI σ27 17 v20.toNatClampNeg (-9 : Int32) →
    ∀ z30 : Int32, z30 = x2 + (1 : Int32) →
    wLX10_ask_39 K170 P n σ29 (1 : Int32) z30)) (fun J21 : St → Prop =>
    (v20 = x2 →
    J21 σ) ∧
    (¬ v20 = x2 →
    vp_in v13 8 ∧
    ∀ σ33 : St, σ33 = sI σ 17 v13.toNatClampNeg x2 →
    vp_in x2 8 ∧
    ∀ σ35 : St, σ35 = sI σ33 17 x2.toNatClampNeg v13 →
    J21 σ35))) (fun J19 : Int32 → Prop =>
    (r18 = 0 →
    J19 x2) ∧
    (¬ r18 = 0 →
    J19 z17))))) (fun J12 : Int32 → Prop =>
    (¬ (σ.1 3 x2.toNatClampNeg) = 0 →
    J12 (-9 : Int32)) ∧
    ((σ.1 3 x2.toNatClampNeg) = 0 →
    vp_in x2 8 ∧
    (¬ (σ.1 17 x2.toNatClampNeg) = (-9 : Int32) →
    J12 (-9 : Int32)) ∧
    ((σ.1 17 x2.toNatClampNeg) = (-9 : Int32) →
    wX10_asksNext σ x2 (fun r40 : Int32 =>
    J12 r40)))))

set_option maxHeartbeats 4000000 in
set_option maxRecDepth 100000 in
theorem twLX10_ask_39 {p : Program} {l : Launch} {e : Env} {s : State} {m : MethodId} {args : Array Value} {below : List Frame} {meth : Method} {c : Code} {D : va_G} {cy : Nat → ClassId} {ad : Nat → Nat} (X : XX p s m args meth c cX10_ask 6 D cy (wM ad cy) wsX10_ask RX10) (hr : meth.sig.returnType = none)    (K170 : St → Int32 → Prop) {P : St → Prop} (hK170 : ∀ (σ : St) (x1 : Int32), K170 σ x1 → VV p l e rmX10_ask s m args below meth c (MQ below (va_Qv P (xPost D (wM ad cy)) (xA (wM ad cy))) args s 0 0 (xA (wM ad cy))) 6 D (wM ad cy) σ 170 [(0, .ref (ad 0)), (1, .int x1)] []) : ∀ (n : Nat) (σ : St) (x1 : Int32) (x2 : Int32), wLX10_ask_39 K170 P n σ x1 x2 → VV p l e rmX10_ask s m args below meth c (MQ below (va_Qv P (xPost D (wM ad cy)) (xA (wM ad cy))) args s 0 0 (xA (wM ad cy))) 6 D (wM ad cy) σ 39 [(0, .ref (ad 0)), (1, .int x1), (2, .int x2)] [] := by
  intro n
  induction n with
  | zero => intro σ x1 x2 h; exact h.elim
  | succ n ih =>
    intro σ x1 x2 h
    rw [wLX10_ask_39] at h
    refine vv_iload_n (q := 40) X 2 dX10_ask_39 rfl rfl rfl ?_
    refine vv_aload_n (q := 41) X 0 dX10_ask_40 rfl rfl rfl ?_
    refine vv_getf (q := 44) (ref := "HalfLaddersModel") (C := RX10) (T := TX10) (N := 27) X 0 10 3 (Nat.le_of_ble_eq_true rfl) rfl rfl (Nat.le_of_ble_eq_true rfl) (fun _ h => List.mem_cons_of_mem _ (List.mem_append_right _ h)) (List.mem_of_getElem? (i := 3) rfl) rfl rfl dX10_ask_41 rfl ?_
    refine vv_iconst (q := 45) X (0 : Int32) dX10_ask_44 (by decide) rfl ?_
    obtain ⟨hin9, h⟩ := h
    refine vv_iald (q := 46) X 2 2 (Nat.le_of_ble_eq_true rfl) (fun _ => rfl) hin9 dX10_ask_45 rfl ?_
    refine vv_icmp_ge (q := 49) X 170 dX10_ask_46 (by decide) rfl (fun c10 => ?_) (fun c10 => ?_)
    · have h := h.1 c10
      refine vv_sub (lv' := [(0, .ref (ad 0)), (1, .int x1)]) [0, 1] rfl ?_
      exact hK170 σ x1 h
    · have h := h.2 c10
      refine vv_aload_n (q := 50) X 0 dX10_ask_49 rfl rfl rfl ?_
      refine vv_getf (q := 53) (ref := "HalfLaddersModel") (C := RX10) (T := TX10) (N := 27) X 0 10 4 (Nat.le_of_ble_eq_true rfl) rfl rfl (Nat.le_of_ble_eq_true rfl) (fun _ h => List.mem_cons_of_mem _ (List.mem_append_right _ h)) (List.mem_of_getElem? (i := 4) rfl) rfl rfl dX10_ask_50 rfl ?_
      refine vv_iload_n (q := 54) X 2 dX10_ask_53 rfl rfl rfl ?_
      obtain ⟨hin11, h⟩ := h
      refine vv_iald (q := 55) X 3 16 (Nat.le_of_ble_eq_true rfl) (fun _ => rfl) hin11 dX10_ask_54 rfl ?_
      obtain ⟨J12, hJ12, h⟩ := jn_el h
      have tJ12 : ∀ (v13 : Int32), J12 v13 → VV p l e rmX10_ask s m args below meth c (MQ below (va_Qv P (xPost D (wM ad cy)) (xA (wM ad cy))) args s 0 0 (xA (wM ad cy))) 6 D (wM ad cy) σ 79 [(0, .ref (ad 0)), (1, .int x1), (2, .int x2)] [.int v13] := by
        intro v13 h
        rw [hJ12] at h
        refine vv_istore_n (lv2 := [(3, .int v13), (0, .ref (ad 0)), (1, .int x1), (2, .int x2)]) (q := 80) X dX10_ask_79 rfl (Nat.le_of_ble_eq_true rfl) rfl rfl ?_
        refine vv_iload_n (q := 81) X 0 dX10_ask_80 rfl rfl rfl ?_
        refine vv_bipush (q := 83) X (-9 : Int32) dX10_ask_81 (by decide) rfl ?_
        refine vv_icmp_eq (q := 86) X 164 dX10_ask_83 (by decide) rfl (fun c14 => ?_) (fun c14 => ?_)
        · have h := h.1 c14
          obtain ⟨z15, hz15⟩ : ∃ y : Int32, y = x2 + (1 : Int32) := ⟨_, rfl⟩
          have h := h z15 hz15
          refine vv_iinc (v := z15) (lv2 := [(2, .int z15), (3, .int v13), (0, .ref (ad 0)), (1, .int x1)]) (q := 167) X 3 dX10_ask_164 rfl (by rw [hz15]; rfl) (Nat.le_of_ble_eq_true rfl) rfl rfl ?_
          refine vv_goto X 39 dX10_ask_167 (by decide) ?_
          refine vv_sub (lv' := [(0, .ref (ad 0)), (1, .int x1), (2, .int z15)]) [2, 3, 0] rfl ?_
          exact ih σ x1 z15 h
        · have h := h.2 c14
          refine vv_iconst (q := 87) X (1 : Int32) dX10_ask_86 (by decide) rfl ?_
          refine vv_istore_n (lv2 := [(1, .int (1 : Int32)), (3, .int v13), (0, .ref (ad 0)), (2, .int x2)]) (q := 88) X dX10_ask_87 rfl (Nat.le_of_ble_eq_true rfl) rfl rfl ?_
          refine vv_aload_n (q := 89) X 2 dX10_ask_88 rfl rfl rfl ?_
          refine vv_getf (q := 92) (ref := "HalfLaddersModel") (C := RX10) (T := TX10) (N := 27) X 0 10 23 (Nat.le_of_ble_eq_true rfl) rfl rfl (Nat.le_of_ble_eq_true rfl) (fun _ h => List.mem_cons_of_mem _ (List.mem_append_right _ h)) (List.mem_of_getElem? (i := 1) rfl) rfl rfl dX10_ask_89 rfl ?_
          refine vv_iload_n (q := 93) X 1 dX10_ask_92 rfl rfl rfl ?_
          obtain ⟨hin16, h⟩ := h
          refine vv_iald (q := 94) X 17 8 (Nat.le_of_ble_eq_true rfl) (fun _ => rfl) hin16 dX10_ask_93 rfl ?_
          refine vv_topi (fun z17 hz17 => ?_)
          have h := h z17 hz17
          refine vv_istore (lv2 := [(4, .int z17), (1, .int (1 : Int32)), (3, .int v13), (0, .ref (ad 0)), (2, .int x2)]) (q := 96) X dX10_ask_94 (Nat.le_of_ble_eq_true rfl) rfl rfl ?_
          refine vv_aload_n (q := 97) X 3 dX10_ask_96 rfl rfl rfl ?_
          refine vv_iload_n (q := 98) X 2 dX10_ask_97 rfl rfl rfl ?_
          refine vv_iload_n (q := 99) X 4 dX10_ask_98 rfl rfl rfl ?_
          refine vv_iload (q := 101) X 0 dX10_ask_99 rfl rfl ?_
          refine vv_cVi (q := 104) (C := RX10) X 0 10 [.int v13, .int x2, .int z17] (kX10_likes l D X.2.2.1 h) (cwV 3 X.1.2.2.2.2 gX10_ask_X10_likes rfl rfl rfl (by decide +kernel) ⟨Nat.le_of_ble_eq_true rfl, Nat.le_of_ble_eq_true rfl⟩) (Nat.le_of_ble_eq_true rfl) rfl rfl rfl rfl (Nat.le_of_ble_eq_true rfl) dX10_ask_101 rfl (fun r18 u9 h9 => ?_)
          obtain ⟨h9, hu9⟩ := h9
          subst u9
          have h := h9
          obtain ⟨J19, hJ19, h⟩ := jn_el h
          have tJ19 : ∀ (v20 : Int32), J19 v20 → VV p l e rmX10_ask s m args below meth c (MQ below (va_Qv P (xPost D (wM ad cy)) (xA (wM ad cy))) args s 0 0 (xA (wM ad cy))) 6 D (wM ad cy) σ 113 [(0, .ref (ad 0)), (1, .int (1 : Int32)), (2, .int x2), (3, .int v13)] [.int v20] := by
            intro v20 h
            rw [hJ19] at h
            refine vv_istore (lv2 := [(5, .int v20), (0, .ref (ad 0)), (1, .int (1 : Int32)), (2, .int x2), (3, .int v13)]) (q := 115) X dX10_ask_113 (Nat.le_of_ble_eq_true rfl) rfl rfl ?_
            refine vv_iload (q := 117) X 0 dX10_ask_115 rfl rfl ?_
            refine vv_iload_n (q := 118) X 3 dX10_ask_117 rfl rfl rfl ?_
            obtain ⟨J21, hJ21, h⟩ := jn_el h
            have tJ21 : ∀ (σ22 : St), J21 σ22 → VV p l e rmX10_ask s m args below meth c (MQ below (va_Qv P (xPost D (wM ad cy)) (xA (wM ad cy))) args s 0 0 (xA (wM ad cy))) 6 D (wM ad cy) σ22 135 [(0, .ref (ad 0)), (1, .int (1 : Int32)), (2, .int x2), (3, .int v13), (5, .int v20)] [] := by
              intro σ22 h
              rw [hJ21] at h
              refine vv_iload (q := 137) X 4 dX10_ask_135 rfl rfl ?_
              refine vv_bipush (q := 139) X (-9 : Int32) dX10_ask_137 (by decide) rfl ?_
              refine vv_icmp_eq (q := 142) X 164 dX10_ask_139 (by decide) rfl (fun c23 => ?_) (fun c23 => ?_)
              · have h := h.1 c23
                obtain ⟨z24, hz24⟩ : ∃ y : Int32, y = x2 + (1 : Int32) := ⟨_, rfl⟩
                have h := h z24 hz24
                refine vv_iinc (v := z24) (lv2 := [(2, .int z24), (0, .ref (ad 0)), (1, .int (1 : Int32)), (3, .int v13), (5, .int v20)]) (q := 167) X 2 dX10_ask_164 rfl (by rw [hz24]; rfl) (Nat.le_of_ble_eq_true rfl) rfl rfl ?_
                refine vv_goto X 39 dX10_ask_167 (by decide) ?_
                refine vv_sub (lv' := [(0, .ref (ad 0)), (1, .int (1 : Int32)), (2, .int z24)]) [1, 2, 0] rfl ?_
                exact ih σ22 (1 : Int32) z24 h
              · have h := h.2 c23
                refine vv_aload_n (q := 143) X 0 dX10_ask_142 rfl rfl rfl ?_
                refine vv_getf (q := 146) (ref := "HalfLaddersModel") (C := RX10) (T := TX10) (N := 27) X 0 10 24 (Nat.le_of_ble_eq_true rfl) rfl rfl (Nat.le_of_ble_eq_true rfl) (fun _ h => List.mem_cons_of_mem _ (List.mem_append_right _ h)) (List.mem_of_getElem? (i := 2) rfl) rfl rfl dX10_ask_143 rfl ?_
                refine vv_iload (q := 148) X 4 dX10_ask_146 rfl rfl ?_
                refine vv_dup2 (q := 149) X dX10_ask_148 rfl rfl rfl ?_
                obtain ⟨hin25, h⟩ := h
                refine vv_iald (q := 150) X 18 8 (Nat.le_of_ble_eq_true rfl) (fun _ => rfl) hin25 dX10_ask_149 rfl ?_
                refine vv_iconst (q := 151) X (1 : Int32) dX10_ask_150 (by decide) rfl ?_
                refine vv_iload_n (q := 152) X 3 dX10_ask_151 rfl rfl rfl ?_
                refine vv_ishl (q := 153) X dX10_ask_152 rfl ?_
                refine vv_ior (q := 154) X dX10_ask_153 rfl ?_
                obtain ⟨hin26, h⟩ := h
                refine vv_iast (q := 155) X 18 8 (Nat.le_of_ble_eq_true rfl) (fun _ => rfl) hin26 dX10_ask_154 rfl ?_
                refine vv_nm (fun σ27 hσ27 => ?_)
                have h := h σ27 hσ27
                refine vv_aload_n (q := 156) X 0 dX10_ask_155 rfl rfl rfl ?_
                refine vv_getf (q := 159) (ref := "HalfLaddersModel") (C := RX10) (T := TX10) (N := 27) X 0 10 23 (Nat.le_of_ble_eq_true rfl) rfl rfl (Nat.le_of_ble_eq_true rfl) (fun _ h => List.mem_cons_of_mem _ (List.mem_append_right _ h)) (List.mem_of_getElem? (i := 1) rfl) rfl rfl dX10_ask_156 rfl ?_
                refine vv_iload (q := 161) X 4 dX10_ask_159 rfl rfl ?_
                refine vv_bipush (q := 163) X (-9 : Int32) dX10_ask_161 (by decide) rfl ?_
                obtain ⟨hin28, h⟩ := h
                refine vv_iast (q := 164) X 17 8 (Nat.le_of_ble_eq_true rfl) (fun _ => rfl) hin28 dX10_ask_163 rfl ?_
                refine vv_nm (fun σ29 hσ29 => ?_)
                have h := h σ29 hσ29
                obtain ⟨z30, hz30⟩ : ∃ y : Int32, y = x2 + (1 : Int32) := ⟨_, rfl⟩
                have h := h z30 hz30
                refine vv_iinc (v := z30) (lv2 := [(2, .int z30), (0, .ref (ad 0)), (1, .int (1 : Int32)), (3, .int v13), (5, .int v20)]) (q := 167) X 2 dX10_ask_164 rfl (by rw [hz30]; rfl) (Nat.le_of_ble_eq_true rfl) rfl rfl ?_
                refine vv_goto X 39 dX10_ask_167 (by decide) ?_
                refine vv_sub (lv' := [(0, .ref (ad 0)), (1, .int (1 : Int32)), (2, .int z30)]) [1, 2, 0] rfl ?_
                exact ih σ29 (1 : Int32) z30 h
            refine vv_icmp_eq (q := 121) X 135 dX10_ask_118 (by decide) rfl (fun c31 => ?_) (fun c31 => ?_)
            · have h := h.1 c31
              refine vv_sub (lv' := [(0, .ref (ad 0)), (1, .int (1 : Int32)), (2, .int x2), (3, .int v13), (5, .int v20)]) [1, 2, 3, 4, 0] rfl ?_
              exact tJ21 σ h
            · have h := h.2 c31
              refine vv_aload_n (q := 122) X 1 dX10_ask_121 rfl rfl rfl ?_
              refine vv_getf (q := 125) (ref := "HalfLaddersModel") (C := RX10) (T := TX10) (N := 27) X 0 10 23 (Nat.le_of_ble_eq_true rfl) rfl rfl (Nat.le_of_ble_eq_true rfl) (fun _ h => List.mem_cons_of_mem _ (List.mem_append_right _ h)) (List.mem_of_getElem? (i := 1) rfl) rfl rfl dX10_ask_122 rfl ?_
              refine vv_iload_n (q := 126) X 4 dX10_ask_125 rfl rfl rfl ?_
              refine vv_iload_n (q := 127) X 3 dX10_ask_126 rfl rfl rfl ?_
              obtain ⟨hin32, h⟩ := h
              refine vv_iast (q := 128) X 17 8 (Nat.le_of_ble_eq_true rfl) (fun _ => rfl) hin32 dX10_ask_127 rfl ?_
              refine vv_nm (fun σ33 hσ33 => ?_)
              have h := h σ33 hσ33
              refine vv_aload_n (q := 129) X 1 dX10_ask_128 rfl rfl rfl ?_
              refine vv_getf (q := 132) (ref := "HalfLaddersModel") (C := RX10) (T := TX10) (N := 27) X 0 10 23 (Nat.le_of_ble_eq_true rfl) rfl rfl (Nat.le_of_ble_eq_true rfl) (fun _ h => List.mem_cons_of_mem _ (List.mem_append_right _ h)) (List.mem_of_getElem? (i := 1) rfl) rfl rfl dX10_ask_129 rfl ?_
              refine vv_iload_n (q := 133) X 3 dX10_ask_132 rfl rfl rfl ?_
              refine vv_iload_n (q := 134) X 4 dX10_ask_133 rfl rfl rfl ?_
              obtain ⟨hin34, h⟩ := h
              refine vv_iast (q := 135) X 17 8 (Nat.le_of_ble_eq_true rfl) (fun _ => rfl) hin34 dX10_ask_134 rfl ?_
              refine vv_nm (fun σ35 hσ35 => ?_)
              have h := h σ35 hσ35
              refine vv_sub (lv' := [(0, .ref (ad 0)), (1, .int (1 : Int32)), (2, .int x2), (3, .int v13), (5, .int v20)]) [1, 2, 3, 4, 0] rfl ?_
              exact tJ21 σ35 h
          refine vv_if_eq (q := 107) X 112 dX10_ask_104 (by decide) rfl (fun c36 => ?_) (fun c36 => ?_)
          · have h := h.1 c36
            refine vv_iload_n (q := 113) X 4 dX10_ask_112 rfl rfl rfl ?_
            refine vv_sub (lv' := [(0, .ref (ad 0)), (1, .int (1 : Int32)), (2, .int x2), (3, .int v13)]) [3, 1, 4, 2] rfl ?_
            exact tJ19 x2 h
          · have h := h.2 c36
            refine vv_iload (q := 109) X 0 dX10_ask_107 rfl rfl ?_
            refine vv_goto X 113 dX10_ask_109 (by decide) ?_
            refine vv_sub (lv' := [(0, .ref (ad 0)), (1, .int (1 : Int32)), (2, .int x2), (3, .int v13)]) [3, 1, 4, 2] rfl ?_
            exact tJ19 z17 h
      refine vv_if_ne (q := 58) X 77 dX10_ask_55 (by decide) rfl (fun c37 => ?_) (fun c37 => ?_)
      · have h := h.1 c37
        refine vv_bipush (q := 79) X (-9 : Int32) dX10_ask_77 (by decide) rfl ?_
        exact tJ12 (-9 : Int32) h
      · have h := h.2 c37
        refine vv_aload_n (q := 59) X 0 dX10_ask_58 rfl rfl rfl ?_
        refine vv_getf (q := 62) (ref := "HalfLaddersModel") (C := RX10) (T := TX10) (N := 27) X 0 10 23 (Nat.le_of_ble_eq_true rfl) rfl rfl (Nat.le_of_ble_eq_true rfl) (fun _ h => List.mem_cons_of_mem _ (List.mem_append_right _ h)) (List.mem_of_getElem? (i := 1) rfl) rfl rfl dX10_ask_59 rfl ?_
        refine vv_iload_n (q := 63) X 2 dX10_ask_62 rfl rfl rfl ?_
        obtain ⟨hin38, h⟩ := h
        refine vv_iald (q := 64) X 17 8 (Nat.le_of_ble_eq_true rfl) (fun _ => rfl) hin38 dX10_ask_63 rfl ?_
        refine vv_bipush (q := 66) X (-9 : Int32) dX10_ask_64 (by decide) rfl ?_
        refine vv_icmp_ne (q := 69) X 77 dX10_ask_66 (by decide) rfl (fun c39 => ?_) (fun c39 => ?_)
        · have h := h.1 c39
          refine vv_bipush (q := 79) X (-9 : Int32) dX10_ask_77 (by decide) rfl ?_
          exact tJ12 (-9 : Int32) h
        · have h := h.2 c39
          refine vv_aload_n (q := 70) X 0 dX10_ask_69 rfl rfl rfl ?_
          refine vv_iload_n (q := 71) X 2 dX10_ask_70 rfl rfl rfl ?_
          refine vv_cVi (q := 74) (C := RX10) X 0 10 [.int x2] (kX10_asksNext l D X.2.2.1 h) (cwV 1 X.1.2.2.2.2 gX10_ask_X10_asksNext rfl rfl rfl (by decide +kernel) ⟨Nat.le_of_ble_eq_true rfl, Nat.le_of_ble_eq_true rfl⟩) (Nat.le_of_ble_eq_true rfl) rfl rfl rfl rfl (Nat.le_of_ble_eq_true rfl) dX10_ask_71 rfl (fun r40 u9 h9 => ?_)
          obtain ⟨h9, hu9⟩ := h9
          subst u9
          have h := h9
          refine vv_goto X 79 dX10_ask_74 (by decide) ?_
          exact tJ12 r40 h

def wLX10_ask_31   (K173 : St → Prop) (P : St → Prop) : Nat → St → Int32 → Prop
  | 0, _, _ => False
  | n + 1, σ, x1 =>
    (x1 = 0 →
    K173 σ) ∧
    (¬ x1 = 0 →
    ∃ n43 : Nat, wLX10_ask_39 (fun (σ42 : St) (y41 : Int32) =>
    wLX10_ask_31 K173 P n σ42 y41) P n43 σ (0 : Int32) (0 : Int32))

set_option maxHeartbeats 4000000 in
set_option maxRecDepth 100000 in
theorem twLX10_ask_31 {p : Program} {l : Launch} {e : Env} {s : State} {m : MethodId} {args : Array Value} {below : List Frame} {meth : Method} {c : Code} {D : va_G} {cy : Nat → ClassId} {ad : Nat → Nat} (X : XX p s m args meth c cX10_ask 6 D cy (wM ad cy) wsX10_ask RX10) (hr : meth.sig.returnType = none)    (K173 : St → Prop) {P : St → Prop} (hK173 : ∀ (σ : St), K173 σ → VV p l e rmX10_ask s m args below meth c (MQ below (va_Qv P (xPost D (wM ad cy)) (xA (wM ad cy))) args s 0 0 (xA (wM ad cy))) 6 D (wM ad cy) σ 173 [] []) : ∀ (n : Nat) (σ : St) (x1 : Int32), wLX10_ask_31 K173 P n σ x1 → VV p l e rmX10_ask s m args below meth c (MQ below (va_Qv P (xPost D (wM ad cy)) (xA (wM ad cy))) args s 0 0 (xA (wM ad cy))) 6 D (wM ad cy) σ 31 [(0, .ref (ad 0)), (1, .int x1)] [] := by
  intro n
  induction n with
  | zero => intro σ x1 h; exact h.elim
  | succ n ih =>
    intro σ x1 h
    rw [wLX10_ask_31] at h
    refine vv_iload_n (q := 32) X 1 dX10_ask_31 rfl rfl rfl ?_
    refine vv_if_eq (q := 35) X 173 dX10_ask_32 (by decide) rfl (fun c8 => ?_) (fun c8 => ?_)
    · have h := h.1 c8
      refine vv_sub (lv' := []) [] rfl ?_
      exact hK173 σ h
    · have h := h.2 c8
      refine vv_iconst (q := 36) X (0 : Int32) dX10_ask_35 (by decide) rfl ?_
      refine vv_istore_n (lv2 := [(1, .int (0 : Int32)), (0, .ref (ad 0))]) (q := 37) X dX10_ask_36 rfl (Nat.le_of_ble_eq_true rfl) rfl rfl ?_
      refine vv_iconst (q := 38) X (0 : Int32) dX10_ask_37 (by decide) rfl ?_
      refine vv_istore_n (lv2 := [(2, .int (0 : Int32)), (1, .int (0 : Int32)), (0, .ref (ad 0))]) (q := 39) X dX10_ask_38 rfl (Nat.le_of_ble_eq_true rfl) rfl rfl ?_
      obtain ⟨n43, h⟩ := h
      refine vv_sub (lv' := [(0, .ref (ad 0)), (1, .int (0 : Int32)), (2, .int (0 : Int32))]) [2, 1, 0] rfl ?_
      refine twLX10_ask_39 X hr  _ ?_ n43 σ (0 : Int32) (0 : Int32) h
      intro σ42 y41 h
      refine vv_goto X 31 dX10_ask_170 (by decide) ?_
      exact ih σ42 y41 h

def wX10_ask (σ : St)  (P : St → Prop) : Prop :=
∃ n46 : Nat, wLX10_ask_2 (fun (σ7 : St) =>
∃ n45 : Nat, wLX10_ask_31 (fun (σ44 : St) =>
P σ44) P n45 σ7 (1 : Int32)) P n46 σ (0 : Int32)

set_option maxHeartbeats 8000000 in
set_option maxRecDepth 100000 in
theorem kX10_ask (l : Launch) (D : va_G) {cy : Nat → ClassId} {ad : Nat → Nat} (hw : xOk (wM ad cy)) {σ : St}  {P : St → Prop} (h : wX10_ask σ  P) : MV l yX10_ask wsX10_ask rmX10_ask D cy (wM ad cy) [.ref (ad 0)] σ P := by
  unfold MV
  refine vv_met (cc := cX10_ask) (maxL := 6) (ret := none) hw (by decide +kernel) rfl [.ref (ad 0)] (Nat.le_of_ble_eq_true rfl) ?_
  intro p e s m args below meth c X hr
  have X : XX p s m args meth c cX10_ask 6 D cy (wM ad cy) wsX10_ask RX10 := X
  refine vv_sub (lv' := [(0, .ref (ad 0))]) [0] rfl ?_
  rw [wX10_ask] at h
  refine vv_iconst (q := 1) X (0 : Int32) dX10_ask_0 (by decide) rfl ?_
  refine vv_istore_n (lv2 := [(1, .int (0 : Int32)), (0, .ref (ad 0))]) (q := 2) X dX10_ask_1 rfl (Nat.le_of_ble_eq_true rfl) rfl rfl ?_
  obtain ⟨n46, h⟩ := h
  refine vv_sub (lv' := [(0, .ref (ad 0)), (1, .int (0 : Int32))]) [1, 0] rfl ?_
  refine twLX10_ask_2 X hr  _ ?_ n46 σ (0 : Int32) h
  intro σ7 h
  refine vv_iconst (q := 30) X (1 : Int32) dX10_ask_29 (by decide) rfl ?_
  refine vv_istore_n (lv2 := [(1, .int (1 : Int32)), (0, .ref (ad 0))]) (q := 31) X dX10_ask_30 rfl (Nat.le_of_ble_eq_true rfl) rfl rfl ?_
  obtain ⟨n45, h⟩ := h
  refine vv_sub (lv' := [(0, .ref (ad 0)), (1, .int (1 : Int32))]) [1, 0] rfl ?_
  refine twLX10_ask_31 X hr  _ ?_ n45 σ7 (1 : Int32) h
  intro σ44 h
  exact vv_vret X hr dX10_ask_173 h

/-! X10_asked: asked(I)I -/
def rmX10_asked : Room := { frames := 4, cells := 0, slots := 0, locals := 96 }
def wX10_asked (σ : St) (a1 : Int32) (P : Int32 → St → Prop) : Prop :=
wX10_isOne σ a1 (fun r1 : Int32 =>
(¬ r1 = 0 →
wX10_ask σ  (fun σ3 : St =>
vp_in a1 8 ∧
P (σ3.1 17 a1.toNatClampNeg) σ3)) ∧
(r1 = 0 →
P (-1 : Int32) σ))

set_option maxHeartbeats 8000000 in
set_option maxRecDepth 100000 in
theorem kX10_asked (l : Launch) (D : va_G) {cy : Nat → ClassId} {ad : Nat → Nat} (hw : xOk (wM ad cy)) {σ : St} {a1 : Int32} {P : Int32 → St → Prop} (h : wX10_asked σ a1 P) : MI l yX10_asked wsX10_asked rmX10_asked D cy (wM ad cy) [.ref (ad 0), .int a1] σ P := by
  unfold MI
  refine vv_met (cc := cX10_asked) (maxL := 2) (ret := (some .int)) hw (by decide +kernel) rfl [.ref (ad 0), .int a1] (Nat.le_of_ble_eq_true rfl) ?_
  intro p e s m args below meth c X hr
  have X : XX p s m args meth c cX10_asked 2 D cy (wM ad cy) wsX10_asked RX10 := X
  refine vv_sub (lv' := [(0, .ref (ad 0)), (1, .int a1)]) [0, 1] rfl ?_
  rw [wX10_asked] at h
  refine vv_aload_n (q := 1) X 0 dX10_asked_0 rfl rfl rfl ?_
  refine vv_iload_n (q := 2) X 1 dX10_asked_1 rfl rfl rfl ?_
  refine vv_cVi (q := 5) (C := RX10) X 0 10 [.int a1] (kX10_isOne l D X.2.2.1 h) (cwV 1 X.1.2.2.2.2 gX10_asked_X10_isOne rfl rfl rfl (by decide +kernel) ⟨Nat.le_of_ble_eq_true rfl, Nat.le_of_ble_eq_true rfl⟩) (Nat.le_of_ble_eq_true rfl) rfl rfl rfl rfl (Nat.le_of_ble_eq_true rfl) dX10_asked_2 rfl (fun r1 u9 h9 => ?_)
  obtain ⟨h9, hu9⟩ := h9
  subst u9
  have h := h9
  refine vv_if_ne (q := 8) X 10 dX10_asked_5 (by decide) rfl (fun c2 => ?_) (fun c2 => ?_)
  · have h := h.1 c2
    refine vv_aload_n (q := 11) X 0 dX10_asked_10 rfl rfl rfl ?_
    refine vv_cVv (q := 14) (C := RX10) X 0 10 [] (kX10_ask l D X.2.2.1 h) (cwV 0 X.1.2.2.2.2 gX10_asked_X10_ask rfl rfl rfl (by decide +kernel) ⟨Nat.le_of_ble_eq_true rfl, Nat.le_of_ble_eq_true rfl⟩) (Nat.le_of_ble_eq_true rfl) rfl rfl rfl rfl (Nat.le_of_ble_eq_true rfl) dX10_asked_11 rfl (fun σ3 h => ?_)
    refine vv_aload_n (q := 15) X 0 dX10_asked_14 rfl rfl rfl ?_
    refine vv_getf (q := 18) (ref := "HalfLaddersModel") (C := RX10) (T := TX10) (N := 27) X 0 10 23 (Nat.le_of_ble_eq_true rfl) rfl rfl (Nat.le_of_ble_eq_true rfl) (fun _ h => List.mem_cons_of_mem _ (List.mem_append_right _ h)) (List.mem_of_getElem? (i := 1) rfl) rfl rfl dX10_asked_15 rfl ?_
    refine vv_iload_n (q := 19) X 1 dX10_asked_18 rfl rfl rfl ?_
    obtain ⟨hin4, h⟩ := h
    refine vv_iald (q := 20) X 17 8 (Nat.le_of_ble_eq_true rfl) (fun _ => rfl) hin4 dX10_asked_19 rfl ?_
    exact vv_iret X hr dX10_asked_20 h
  · have h := h.2 c2
    refine vv_iconst (q := 9) X (-1 : Int32) dX10_asked_8 (by decide) rfl ?_
    exact vv_iret X hr dX10_asked_9 h

/-! X10_right: right(I)I -/
def rmX10_right : Room := { frames := 0, cells := 0, slots := 0, locals := 0 }
def wLX10_right_4 (f1 : Int32) (σ : St) (K46 : Prop) (P : Int32 → Prop) : Nat → Int32 → Int32 → Prop
  | 0, _, _ => False
  | n + 1, x2, x3 =>
    vp_in (0 : Int32) 2 ∧
    ((σ.1 2 (0 : Int32).toNatClampNeg) ≤ x3 →
    K46) ∧
    (¬ (σ.1 2 (0 : Int32).toNatClampNeg) ≤ x3 →
    vp_in x3 16 ∧
    ∀ z4 : Int32, z4 = (x2 + (σ.1 3 x3.toNatClampNeg)) →
    vp_in x3 16 ∧
    (¬ (σ.1 3 x3.toNatClampNeg) = (1 : Int32) →
    ∀ z7 : Int32, z7 = x3 + (1 : Int32) →
    wLX10_right_4 f1 σ K46 P n z4 z7) ∧
    ((σ.1 3 x3.toNatClampNeg) = (1 : Int32) →
    (¬ z4 = f1 →
    ∀ z9 : Int32, z9 = x3 + (1 : Int32) →
    wLX10_right_4 f1 σ K46 P n z4 z9) ∧
    (z4 = f1 →
    P x3)))

set_option maxHeartbeats 4000000 in
set_option maxRecDepth 100000 in
theorem twLX10_right_4 {p : Program} {l : Launch} {e : Env} {s : State} {m : MethodId} {args : Array Value} {below : List Frame} {meth : Method} {c : Code} {D : va_G} {cy : Nat → ClassId} {ad : Nat → Nat} (X : XX p s m args meth c cX10_right 4 D cy (wM ad cy) wsX10_right RX10) (hr : meth.sig.returnType = (some .int)) (f1 : Int32)  (σ : St) (K46 : Prop) {P : Int32 → Prop} (hK46 : K46 → VV p l e rmX10_right s m args below meth c (MQ below (va_Qi (fun r u => P r ∧ u = σ) (xPost D (wM ad cy)) (xA (wM ad cy))) args s 0 0 (xA (wM ad cy))) 4 D (wM ad cy) σ 46 [] []) : ∀ (n : Nat) (x2 : Int32) (x3 : Int32), wLX10_right_4 f1 σ K46 P n x2 x3 → VV p l e rmX10_right s m args below meth c (MQ below (va_Qi (fun r u => P r ∧ u = σ) (xPost D (wM ad cy)) (xA (wM ad cy))) args s 0 0 (xA (wM ad cy))) 4 D (wM ad cy) σ 4 [(0, .ref (ad 0)), (1, .int f1), (2, .int x2), (3, .int x3)] [] := by
  intro n
  induction n with
  | zero => intro x2 x3 h; exact h.elim
  | succ n ih =>
    intro x2 x3 h
    rw [wLX10_right_4] at h
    refine vv_iload_n (q := 5) X 3 dX10_right_4 rfl rfl rfl ?_
    refine vv_aload_n (q := 6) X 0 dX10_right_5 rfl rfl rfl ?_
    refine vv_getf (q := 9) (ref := "HalfLaddersModel") (C := RX10) (T := TX10) (N := 27) X 0 10 3 (Nat.le_of_ble_eq_true rfl) rfl rfl (Nat.le_of_ble_eq_true rfl) (fun _ h => List.mem_cons_of_mem _ (List.mem_append_right _ h)) (List.mem_of_getElem? (i := 1) rfl) rfl rfl dX10_right_6 rfl ?_
    refine vv_iconst (q := 10) X (0 : Int32) dX10_right_9 (by decide) rfl ?_
    obtain ⟨hin1, h⟩ := h
    refine vv_iald (q := 11) X 2 2 (Nat.le_of_ble_eq_true rfl) (fun _ => rfl) hin1 dX10_right_10 rfl ?_
    refine vv_icmp_ge (q := 14) X 46 dX10_right_11 (by decide) rfl (fun c2 => ?_) (fun c2 => ?_)
    · have h := h.1 c2
      refine vv_sub (lv' := []) [] rfl ?_
      exact hK46  h
    · have h := h.2 c2
      refine vv_iload_n (q := 15) X 2 dX10_right_14 rfl rfl rfl ?_
      refine vv_aload_n (q := 16) X 0 dX10_right_15 rfl rfl rfl ?_
      refine vv_getf (q := 19) (ref := "HalfLaddersModel") (C := RX10) (T := TX10) (N := 27) X 0 10 4 (Nat.le_of_ble_eq_true rfl) rfl rfl (Nat.le_of_ble_eq_true rfl) (fun _ h => List.mem_cons_of_mem _ (List.mem_append_right _ h)) (List.mem_of_getElem? (i := 2) rfl) rfl rfl dX10_right_16 rfl ?_
      refine vv_iload_n (q := 20) X 3 dX10_right_19 rfl rfl rfl ?_
      obtain ⟨hin3, h⟩ := h
      refine vv_iald (q := 21) X 3 16 (Nat.le_of_ble_eq_true rfl) (fun _ => rfl) hin3 dX10_right_20 rfl ?_
      refine vv_iadd (q := 22) X dX10_right_21 rfl ?_
      refine vv_topi (fun z4 hz4 => ?_)
      have h := h z4 hz4
      refine vv_istore_n (lv2 := [(2, .int z4), (0, .ref (ad 0)), (1, .int f1), (3, .int x3)]) (q := 23) X dX10_right_22 rfl (Nat.le_of_ble_eq_true rfl) rfl rfl ?_
      refine vv_aload_n (q := 24) X 1 dX10_right_23 rfl rfl rfl ?_
      refine vv_getf (q := 27) (ref := "HalfLaddersModel") (C := RX10) (T := TX10) (N := 27) X 0 10 4 (Nat.le_of_ble_eq_true rfl) rfl rfl (Nat.le_of_ble_eq_true rfl) (fun _ h => List.mem_cons_of_mem _ (List.mem_append_right _ h)) (List.mem_of_getElem? (i := 2) rfl) rfl rfl dX10_right_24 rfl ?_
      refine vv_iload_n (q := 28) X 3 dX10_right_27 rfl rfl rfl ?_
      obtain ⟨hin5, h⟩ := h
      refine vv_iald (q := 29) X 3 16 (Nat.le_of_ble_eq_true rfl) (fun _ => rfl) hin5 dX10_right_28 rfl ?_
      refine vv_iconst (q := 30) X (1 : Int32) dX10_right_29 (by decide) rfl ?_
      refine vv_icmp_ne (q := 33) X 40 dX10_right_30 (by decide) rfl (fun c6 => ?_) (fun c6 => ?_)
      · have h := h.1 c6
        obtain ⟨z7, hz7⟩ : ∃ y : Int32, y = x3 + (1 : Int32) := ⟨_, rfl⟩
        have h := h z7 hz7
        refine vv_iinc (v := z7) (lv2 := [(3, .int z7), (2, .int z4), (0, .ref (ad 0)), (1, .int f1)]) (q := 43) X 3 dX10_right_40 rfl (by rw [hz7]; rfl) (Nat.le_of_ble_eq_true rfl) rfl rfl ?_
        refine vv_goto X 4 dX10_right_43 (by decide) ?_
        refine vv_sub (lv' := [(0, .ref (ad 0)), (1, .int f1), (2, .int z4), (3, .int z7)]) [2, 3, 1, 0] rfl ?_
        exact ih z4 z7 h
      · have h := h.2 c6
        refine vv_iload_n (q := 34) X 0 dX10_right_33 rfl rfl rfl ?_
        refine vv_iload_n (q := 35) X 2 dX10_right_34 rfl rfl rfl ?_
        refine vv_icmp_ne (q := 38) X 40 dX10_right_35 (by decide) rfl (fun c8 => ?_) (fun c8 => ?_)
        · have h := h.1 c8
          obtain ⟨z9, hz9⟩ : ∃ y : Int32, y = x3 + (1 : Int32) := ⟨_, rfl⟩
          have h := h z9 hz9
          refine vv_iinc (v := z9) (lv2 := [(3, .int z9), (2, .int z4), (0, .ref (ad 0)), (1, .int f1)]) (q := 43) X 3 dX10_right_40 rfl (by rw [hz9]; rfl) (Nat.le_of_ble_eq_true rfl) rfl rfl ?_
          refine vv_goto X 4 dX10_right_43 (by decide) ?_
          refine vv_sub (lv' := [(0, .ref (ad 0)), (1, .int f1), (2, .int z4), (3, .int z9)]) [2, 3, 1, 0] rfl ?_
          exact ih z4 z9 h
        · have h := h.2 c8
          refine vv_iload_n (q := 39) X 3 dX10_right_38 rfl rfl rfl ?_
          exact vv_iret X hr dX10_right_39 ⟨h, rfl⟩

def wX10_right (σ : St) (a1 : Int32) (P : Int32 → Prop) : Prop :=
∃ n10 : Nat, wLX10_right_4 a1 σ (P (-9 : Int32)) P n10 (0 : Int32) (0 : Int32)

set_option maxHeartbeats 8000000 in
set_option maxRecDepth 100000 in
theorem kX10_right (l : Launch) (D : va_G) {cy : Nat → ClassId} {ad : Nat → Nat} (hw : xOk (wM ad cy)) {σ : St} {a1 : Int32} {P : Int32 → Prop} (h : wX10_right σ a1 P) : MI l yX10_right wsX10_right rmX10_right D cy (wM ad cy) [.ref (ad 0), .int a1] σ (fun r u => P r ∧ u = σ) := by
  unfold MI
  refine vv_met (cc := cX10_right) (maxL := 4) (ret := (some .int)) hw (by decide +kernel) rfl [.ref (ad 0), .int a1] (Nat.le_of_ble_eq_true rfl) ?_
  intro p e s m args below meth c X hr
  have X : XX p s m args meth c cX10_right 4 D cy (wM ad cy) wsX10_right RX10 := X
  refine vv_sub (lv' := [(0, .ref (ad 0)), (1, .int a1)]) [0, 1] rfl ?_
  rw [wX10_right] at h
  refine vv_iconst (q := 1) X (0 : Int32) dX10_right_0 (by decide) rfl ?_
  refine vv_istore_n (lv2 := [(2, .int (0 : Int32)), (0, .ref (ad 0)), (1, .int a1)]) (q := 2) X dX10_right_1 rfl (Nat.le_of_ble_eq_true rfl) rfl rfl ?_
  refine vv_iconst (q := 3) X (0 : Int32) dX10_right_2 (by decide) rfl ?_
  refine vv_istore_n (lv2 := [(3, .int (0 : Int32)), (2, .int (0 : Int32)), (0, .ref (ad 0)), (1, .int a1)]) (q := 4) X dX10_right_3 rfl (Nat.le_of_ble_eq_true rfl) rfl rfl ?_
  obtain ⟨n10, h⟩ := h
  refine vv_sub (lv' := [(0, .ref (ad 0)), (1, .int a1), (2, .int (0 : Int32)), (3, .int (0 : Int32))]) [2, 3, 1, 0] rfl ?_
  refine twLX10_right_4 X hr a1  σ _ ?_ n10 (0 : Int32) (0 : Int32) h
  intro h
  refine vv_bipush (q := 48) X (-9 : Int32) dX10_right_46 (by decide) rfl ?_
  exact vv_iret X hr dX10_right_48 ⟨h, rfl⟩

/-! X10_pair: pair(II)Z -/
def rmX10_pair : Room := { frames := 1, cells := 0, slots := 0, locals := 23 }
def wLX10_pair_5 (f2 : Int32) (f3 : Int32)  (K31 : St → Prop) (P : Int32 → St → Prop) : Nat → St → Int32 → Prop
  | 0, _, _ => False
  | n + 1, σ, x4 =>
    vp_in (0 : Int32) 2 ∧
    ((σ.1 2 (0 : Int32).toNatClampNeg) ≤ x4 →
    K31 σ) ∧
    (¬ (σ.1 2 (0 : Int32).toNatClampNeg) ≤ x4 →
    vp_in x4 8 ∧
    ∀ σ4 : St, σ4 = sI σ 17 x4.toNatClampNeg (-9 : Int32) →
    ∀ z5 : Int32, z5 = x4 + (1 : Int32) →
    wLX10_pair_5 f2 f3 K31 P n σ4 z5)

set_option maxHeartbeats 4000000 in
set_option maxRecDepth 100000 in
theorem twLX10_pair_5 {p : Program} {l : Launch} {e : Env} {s : State} {m : MethodId} {args : Array Value} {below : List Frame} {meth : Method} {c : Code} {D : va_G} {cy : Nat → ClassId} {ad : Nat → Nat} (X : XX p s m args meth c cX10_pair 7 D cy (wM ad cy) wsX10_pair RX10) (hr : meth.sig.returnType = (some .boolean)) (f2 : Int32) (f3 : Int32)   (K31 : St → Prop) {P : Int32 → St → Prop} (hK31 : ∀ (σ : St), K31 σ → VV p l e rmX10_pair s m args below meth c (MQ below (va_Qi P (xPost D (wM ad cy)) (xA (wM ad cy))) args s 0 0 (xA (wM ad cy))) 7 D (wM ad cy) σ 31 [(0, .ref (ad 0)), (2, .int f2), (3, .int f3)] []) : ∀ (n : Nat) (σ : St) (x4 : Int32), wLX10_pair_5 f2 f3 K31 P n σ x4 → VV p l e rmX10_pair s m args below meth c (MQ below (va_Qi P (xPost D (wM ad cy)) (xA (wM ad cy))) args s 0 0 (xA (wM ad cy))) 7 D (wM ad cy) σ 5 [(0, .ref (ad 0)), (2, .int f2), (3, .int f3), (4, .int x4)] [] := by
  intro n
  induction n with
  | zero => intro σ x4 h; exact h.elim
  | succ n ih =>
    intro σ x4 h
    rw [wLX10_pair_5] at h
    refine vv_iload (q := 7) X 3 dX10_pair_5 rfl rfl ?_
    refine vv_aload_n (q := 8) X 0 dX10_pair_7 rfl rfl rfl ?_
    refine vv_getf (q := 11) (ref := "HalfLaddersModel") (C := RX10) (T := TX10) (N := 27) X 0 10 3 (Nat.le_of_ble_eq_true rfl) rfl rfl (Nat.le_of_ble_eq_true rfl) (fun _ h => List.mem_cons_of_mem _ (List.mem_append_right _ h)) (List.mem_of_getElem? (i := 1) rfl) rfl rfl dX10_pair_8 rfl ?_
    refine vv_iconst (q := 12) X (0 : Int32) dX10_pair_11 (by decide) rfl ?_
    obtain ⟨hin1, h⟩ := h
    refine vv_iald (q := 13) X 2 2 (Nat.le_of_ble_eq_true rfl) (fun _ => rfl) hin1 dX10_pair_12 rfl ?_
    refine vv_icmp_ge (q := 16) X 31 dX10_pair_13 (by decide) rfl (fun c2 => ?_) (fun c2 => ?_)
    · have h := h.1 c2
      refine vv_sub (lv' := [(0, .ref (ad 0)), (2, .int f2), (3, .int f3)]) [0, 1, 2] rfl ?_
      exact hK31 σ h
    · have h := h.2 c2
      refine vv_aload_n (q := 17) X 0 dX10_pair_16 rfl rfl rfl ?_
      refine vv_getf (q := 20) (ref := "HalfLaddersModel") (C := RX10) (T := TX10) (N := 27) X 0 10 23 (Nat.le_of_ble_eq_true rfl) rfl rfl (Nat.le_of_ble_eq_true rfl) (fun _ h => List.mem_cons_of_mem _ (List.mem_append_right _ h)) (List.mem_of_getElem? (i := 2) rfl) rfl rfl dX10_pair_17 rfl ?_
      refine vv_iload (q := 22) X 3 dX10_pair_20 rfl rfl ?_
      refine vv_bipush (q := 24) X (-9 : Int32) dX10_pair_22 (by decide) rfl ?_
      obtain ⟨hin3, h⟩ := h
      refine vv_iast (q := 25) X 17 8 (Nat.le_of_ble_eq_true rfl) (fun _ => rfl) hin3 dX10_pair_24 rfl ?_
      refine vv_nm (fun σ4 hσ4 => ?_)
      have h := h σ4 hσ4
      obtain ⟨z5, hz5⟩ : ∃ y : Int32, y = x4 + (1 : Int32) := ⟨_, rfl⟩
      have h := h z5 hz5
      refine vv_iinc (v := z5) (lv2 := [(4, .int z5), (0, .ref (ad 0)), (2, .int f2), (3, .int f3)]) (q := 28) X 3 dX10_pair_25 rfl (by rw [hz5]; rfl) (Nat.le_of_ble_eq_true rfl) rfl rfl ?_
      refine vv_goto X 5 dX10_pair_28 (by decide) ?_
      refine vv_sub (lv' := [(0, .ref (ad 0)), (2, .int f2), (3, .int f3), (4, .int z5)]) [1, 2, 3, 0] rfl ?_
      exact ih σ4 z5 h

def wLX10_pair_34 (f2 : Int32)  (K149 : St → Prop) (P : Int32 → St → Prop) : Nat → St → Int32 → Int32 → Prop
  | 0, _, _, _ => False
  | n + 1, σ, x3, x4 =>
    vp_in (0 : Int32) 2 ∧
    ((σ.1 2 (0 : Int32).toNatClampNeg) ≤ x4 →
    K149 σ) ∧
    (¬ (σ.1 2 (0 : Int32).toNatClampNeg) ≤ x4 →
    vp_in x4 16 ∧
    (¬ (σ.1 3 x4.toNatClampNeg) = 0 →
    ∀ z11 : Int32, z11 = x4 + (1 : Int32) →
    wLX10_pair_34 f2 K149 P n σ x3 z11) ∧
    ((σ.1 3 x4.toNatClampNeg) = 0 →
    ¬ (f2 + (1 : Int32)) = 0 ∧
    ∀ z13 : Int32, z13 = (x3 - x3 / (f2 + (1 : Int32)) * (f2 + (1 : Int32))) →
    ¬ (f2 + (1 : Int32)) = 0 ∧
    ∀ z15 : Int32, z15 = (x3 / (f2 + (1 : Int32))) →
    jn (fun (v17 : Int32) =>
    jn (vp_in x4 8 ∧
    ∀ σ20 : St, σ20 = sI σ 17 x4.toNatClampNeg v17 →
    (v17 = (-9 : Int32) →
    ∀ z22 : Int32, z22 = x4 + (1 : Int32) →
    wLX10_pair_34 f2 K149 P n σ20 z15 z22) ∧
    (¬ v17 = (-9 : Int32) →
    vp_in v17 8 ∧
    ∀ σ24 : St, σ24 = sI σ20 17 v17.toNatClampNeg x4 →
    ∀ z25 : Int32, z25 = x4 + (1 : Int32) →
    wLX10_pair_34 f2 K149 P n σ24 z15 z25)) (fun J18 : Prop =>
    (v17 = (-9 : Int32) →
    J18) ∧
    (¬ v17 = (-9 : Int32) →
    wX10_fits σ x4 v17 (fun r27 : Int32 =>
    (r27 = 0 →
    P (0 : Int32) σ) ∧
    (¬ r27 = 0 →
    vp_in v17 8 ∧
    ((σ.1 17 v17.toNatClampNeg) = (-9 : Int32) →
    J18) ∧
    (¬ (σ.1 17 v17.toNatClampNeg) = (-9 : Int32) →
    P (0 : Int32) σ)))))) (fun J16 : Int32 → Prop =>
    (¬ z13 = 0 →
    wX10_right σ z13 (fun r32 : Int32 =>
    J16 r32)) ∧
    (z13 = 0 →
    J16 (-9 : Int32)))))

set_option maxHeartbeats 4000000 in
set_option maxRecDepth 100000 in
theorem twLX10_pair_34 {p : Program} {l : Launch} {e : Env} {s : State} {m : MethodId} {args : Array Value} {below : List Frame} {meth : Method} {c : Code} {D : va_G} {cy : Nat → ClassId} {ad : Nat → Nat} (X : XX p s m args meth c cX10_pair 7 D cy (wM ad cy) wsX10_pair RX10) (hr : meth.sig.returnType = (some .boolean)) (f2 : Int32)   (K149 : St → Prop) {P : Int32 → St → Prop} (hK149 : ∀ (σ : St), K149 σ → VV p l e rmX10_pair s m args below meth c (MQ below (va_Qi P (xPost D (wM ad cy)) (xA (wM ad cy))) args s 0 0 (xA (wM ad cy))) 7 D (wM ad cy) σ 149 [] []) : ∀ (n : Nat) (σ : St) (x3 : Int32) (x4 : Int32), wLX10_pair_34 f2 K149 P n σ x3 x4 → VV p l e rmX10_pair s m args below meth c (MQ below (va_Qi P (xPost D (wM ad cy)) (xA (wM ad cy))) args s 0 0 (xA (wM ad cy))) 7 D (wM ad cy) σ 34 [(0, .ref (ad 0)), (2, .int f2), (3, .int x3), (4, .int x4)] [] := by
  intro n
  induction n with
  | zero => intro σ x3 x4 h; exact h.elim
  | succ n ih =>
    intro σ x3 x4 h
    rw [wLX10_pair_34] at h
    refine vv_iload (q := 36) X 3 dX10_pair_34 rfl rfl ?_
    refine vv_aload_n (q := 37) X 0 dX10_pair_36 rfl rfl rfl ?_
    refine vv_getf (q := 40) (ref := "HalfLaddersModel") (C := RX10) (T := TX10) (N := 27) X 0 10 3 (Nat.le_of_ble_eq_true rfl) rfl rfl (Nat.le_of_ble_eq_true rfl) (fun _ h => List.mem_cons_of_mem _ (List.mem_append_right _ h)) (List.mem_of_getElem? (i := 1) rfl) rfl rfl dX10_pair_37 rfl ?_
    refine vv_iconst (q := 41) X (0 : Int32) dX10_pair_40 (by decide) rfl ?_
    obtain ⟨hin7, h⟩ := h
    refine vv_iald (q := 42) X 2 2 (Nat.le_of_ble_eq_true rfl) (fun _ => rfl) hin7 dX10_pair_41 rfl ?_
    refine vv_icmp_ge (q := 45) X 149 dX10_pair_42 (by decide) rfl (fun c8 => ?_) (fun c8 => ?_)
    · have h := h.1 c8
      refine vv_sub (lv' := []) [] rfl ?_
      exact hK149 σ h
    · have h := h.2 c8
      refine vv_aload_n (q := 46) X 0 dX10_pair_45 rfl rfl rfl ?_
      refine vv_getf (q := 49) (ref := "HalfLaddersModel") (C := RX10) (T := TX10) (N := 27) X 0 10 4 (Nat.le_of_ble_eq_true rfl) rfl rfl (Nat.le_of_ble_eq_true rfl) (fun _ h => List.mem_cons_of_mem _ (List.mem_append_right _ h)) (List.mem_of_getElem? (i := 3) rfl) rfl rfl dX10_pair_46 rfl ?_
      refine vv_iload (q := 51) X 3 dX10_pair_49 rfl rfl ?_
      obtain ⟨hin9, h⟩ := h
      refine vv_iald (q := 52) X 3 16 (Nat.le_of_ble_eq_true rfl) (fun _ => rfl) hin9 dX10_pair_51 rfl ?_
      refine vv_if_ne (q := 55) X 143 dX10_pair_52 (by decide) rfl (fun c10 => ?_) (fun c10 => ?_)
      · have h := h.1 c10
        obtain ⟨z11, hz11⟩ : ∃ y : Int32, y = x4 + (1 : Int32) := ⟨_, rfl⟩
        have h := h z11 hz11
        refine vv_iinc (v := z11) (lv2 := [(4, .int z11), (0, .ref (ad 0)), (2, .int f2), (3, .int x3)]) (q := 146) X 3 dX10_pair_143 rfl (by rw [hz11]; rfl) (Nat.le_of_ble_eq_true rfl) rfl rfl ?_
        refine vv_goto X 34 dX10_pair_146 (by decide) ?_
        refine vv_sub (lv' := [(0, .ref (ad 0)), (2, .int f2), (3, .int x3), (4, .int z11)]) [1, 2, 3, 0] rfl ?_
        exact ih σ x3 z11 h
      · have h := h.2 c10
        refine vv_iload_n (q := 56) X 2 dX10_pair_55 rfl rfl rfl ?_
        refine vv_iload_n (q := 57) X 1 dX10_pair_56 rfl rfl rfl ?_
        refine vv_iconst (q := 58) X (1 : Int32) dX10_pair_57 (by decide) rfl ?_
        refine vv_iadd (q := 59) X dX10_pair_58 rfl ?_
        obtain ⟨hn12, h⟩ := h
        refine vv_irem (q := 60) X dX10_pair_59 hn12 rfl ?_
        refine vv_topi (fun z13 hz13 => ?_)
        have h := h z13 hz13
        refine vv_istore (lv2 := [(5, .int z13), (0, .ref (ad 0)), (2, .int f2), (3, .int x3), (4, .int x4)]) (q := 62) X dX10_pair_60 (Nat.le_of_ble_eq_true rfl) rfl rfl ?_
        refine vv_iload_n (q := 63) X 3 dX10_pair_62 rfl rfl rfl ?_
        refine vv_iload_n (q := 64) X 2 dX10_pair_63 rfl rfl rfl ?_
        refine vv_iconst (q := 65) X (1 : Int32) dX10_pair_64 (by decide) rfl ?_
        refine vv_iadd (q := 66) X dX10_pair_65 rfl ?_
        obtain ⟨hn14, h⟩ := h
        refine vv_idiv (q := 67) X dX10_pair_66 hn14 rfl ?_
        refine vv_topi (fun z15 hz15 => ?_)
        have h := h z15 hz15
        refine vv_istore_n (lv2 := [(3, .int z15), (5, .int z13), (0, .ref (ad 0)), (2, .int f2), (4, .int x4)]) (q := 68) X dX10_pair_67 rfl (Nat.le_of_ble_eq_true rfl) rfl rfl ?_
        refine vv_iload (q := 70) X 1 dX10_pair_68 rfl rfl ?_
        obtain ⟨J16, hJ16, h⟩ := jn_el h
        have tJ16 : ∀ (v17 : Int32), J16 v17 → VV p l e rmX10_pair s m args below meth c (MQ below (va_Qi P (xPost D (wM ad cy)) (xA (wM ad cy))) args s 0 0 (xA (wM ad cy))) 7 D (wM ad cy) σ 84 [(0, .ref (ad 0)), (2, .int f2), (3, .int z15), (4, .int x4)] [.int v17] := by
          intro v17 h
          rw [hJ16] at h
          refine vv_istore (lv2 := [(6, .int v17), (0, .ref (ad 0)), (2, .int f2), (3, .int z15), (4, .int x4)]) (q := 86) X dX10_pair_84 (Nat.le_of_ble_eq_true rfl) rfl rfl ?_
          refine vv_iload (q := 88) X 0 dX10_pair_86 rfl rfl ?_
          refine vv_bipush (q := 90) X (-9 : Int32) dX10_pair_88 (by decide) rfl ?_
          obtain ⟨J18, hJ18, h⟩ := jn_el h
          have tJ18 : J18 → VV p l e rmX10_pair s m args below meth c (MQ below (va_Qi P (xPost D (wM ad cy)) (xA (wM ad cy))) args s 0 0 (xA (wM ad cy))) 7 D (wM ad cy) σ 118 [(0, .ref (ad 0)), (2, .int f2), (3, .int z15), (4, .int x4), (6, .int v17)] [] := by
            intro h
            rw [hJ18] at h
            refine vv_aload_n (q := 119) X 0 dX10_pair_118 rfl rfl rfl ?_
            refine vv_getf (q := 122) (ref := "HalfLaddersModel") (C := RX10) (T := TX10) (N := 27) X 0 10 23 (Nat.le_of_ble_eq_true rfl) rfl rfl (Nat.le_of_ble_eq_true rfl) (fun _ h => List.mem_cons_of_mem _ (List.mem_append_right _ h)) (List.mem_of_getElem? (i := 2) rfl) rfl rfl dX10_pair_119 rfl ?_
            refine vv_iload (q := 124) X 3 dX10_pair_122 rfl rfl ?_
            refine vv_iload (q := 126) X 4 dX10_pair_124 rfl rfl ?_
            obtain ⟨hin19, h⟩ := h
            refine vv_iast (q := 127) X 17 8 (Nat.le_of_ble_eq_true rfl) (fun _ => rfl) hin19 dX10_pair_126 rfl ?_
            refine vv_nm (fun σ20 hσ20 => ?_)
            have h := h σ20 hσ20
            refine vv_iload (q := 129) X 4 dX10_pair_127 rfl rfl ?_
            refine vv_bipush (q := 131) X (-9 : Int32) dX10_pair_129 (by decide) rfl ?_
            refine vv_icmp_eq (q := 134) X 143 dX10_pair_131 (by decide) rfl (fun c21 => ?_) (fun c21 => ?_)
            · have h := h.1 c21
              obtain ⟨z22, hz22⟩ : ∃ y : Int32, y = x4 + (1 : Int32) := ⟨_, rfl⟩
              have h := h z22 hz22
              refine vv_iinc (v := z22) (lv2 := [(4, .int z22), (0, .ref (ad 0)), (2, .int f2), (3, .int z15), (6, .int v17)]) (q := 146) X 3 dX10_pair_143 rfl (by rw [hz22]; rfl) (Nat.le_of_ble_eq_true rfl) rfl rfl ?_
              refine vv_goto X 34 dX10_pair_146 (by decide) ?_
              refine vv_sub (lv' := [(0, .ref (ad 0)), (2, .int f2), (3, .int z15), (4, .int z22)]) [1, 2, 3, 0] rfl ?_
              exact ih σ20 z15 z22 h
            · have h := h.2 c21
              refine vv_aload_n (q := 135) X 0 dX10_pair_134 rfl rfl rfl ?_
              refine vv_getf (q := 138) (ref := "HalfLaddersModel") (C := RX10) (T := TX10) (N := 27) X 0 10 23 (Nat.le_of_ble_eq_true rfl) rfl rfl (Nat.le_of_ble_eq_true rfl) (fun _ h => List.mem_cons_of_mem _ (List.mem_append_right _ h)) (List.mem_of_getElem? (i := 2) rfl) rfl rfl dX10_pair_135 rfl ?_
              refine vv_iload (q := 140) X 4 dX10_pair_138 rfl rfl ?_
              refine vv_iload (q := 142) X 3 dX10_pair_140 rfl rfl ?_
              obtain ⟨hin23, h⟩ := h
              refine vv_iast (q := 143) X 17 8 (Nat.le_of_ble_eq_true rfl) (fun _ => rfl) hin23 dX10_pair_142 rfl ?_
              refine vv_nm (fun σ24 hσ24 => ?_)
              have h := h σ24 hσ24
              obtain ⟨z25, hz25⟩ : ∃ y : Int32, y = x4 + (1 : Int32) := ⟨_, rfl⟩
              have h := h z25 hz25
              refine vv_iinc (v := z25) (lv2 := [(4, .int z25), (0, .ref (ad 0)), (2, .int f2), (3, .int z15), (6, .int v17)]) (q := 146) X 3 dX10_pair_143 rfl (by rw [hz25]; rfl) (Nat.le_of_ble_eq_true rfl) rfl rfl ?_
              refine vv_goto X 34 dX10_pair_146 (by decide) ?_
              refine vv_sub (lv' := [(0, .ref (ad 0)), (2, .int f2), (3, .int z15), (4, .int z25)]) [1, 2, 3, 0] rfl ?_
              exact ih σ24 z15 z25 h
          refine vv_icmp_eq (q := 93) X 118 dX10_pair_90 (by decide) rfl (fun c26 => ?_) (fun c26 => ?_)
          · have h := h.1 c26
            refine vv_sub (lv' := [(0, .ref (ad 0)), (2, .int f2), (3, .int z15), (4, .int x4), (6, .int v17)]) [1, 2, 3, 4, 0] rfl ?_
            exact tJ18  h
          · have h := h.2 c26
            refine vv_aload_n (q := 94) X 1 dX10_pair_93 rfl rfl rfl ?_
            refine vv_iload (q := 96) X 4 dX10_pair_94 rfl rfl ?_
            refine vv_iload (q := 98) X 0 dX10_pair_96 rfl rfl ?_
            refine vv_cVi (q := 101) (C := RX10) X 0 10 [.int x4, .int v17] (kX10_fits l D X.2.2.1 h) (cwV 2 X.1.2.2.2.2 gX10_pair_X10_fits rfl rfl rfl (by decide +kernel) ⟨Nat.le_of_ble_eq_true rfl, Nat.le_of_ble_eq_true rfl⟩) (Nat.le_of_ble_eq_true rfl) rfl rfl rfl rfl (Nat.le_of_ble_eq_true rfl) dX10_pair_98 rfl (fun r27 u9 h9 => ?_)
            obtain ⟨h9, hu9⟩ := h9
            subst u9
            have h := h9
            refine vv_if_eq (q := 104) X 116 dX10_pair_101 (by decide) rfl (fun c28 => ?_) (fun c28 => ?_)
            · have h := h.1 c28
              refine vv_iconst (q := 117) X (0 : Int32) dX10_pair_116 (by decide) rfl ?_
              exact vv_zret X hr rfl dX10_pair_117 h
            · have h := h.2 c28
              refine vv_aload_n (q := 105) X 1 dX10_pair_104 rfl rfl rfl ?_
              refine vv_getf (q := 108) (ref := "HalfLaddersModel") (C := RX10) (T := TX10) (N := 27) X 0 10 23 (Nat.le_of_ble_eq_true rfl) rfl rfl (Nat.le_of_ble_eq_true rfl) (fun _ h => List.mem_cons_of_mem _ (List.mem_append_right _ h)) (List.mem_of_getElem? (i := 2) rfl) rfl rfl dX10_pair_105 rfl ?_
              refine vv_iload (q := 110) X 0 dX10_pair_108 rfl rfl ?_
              obtain ⟨hin29, h⟩ := h
              refine vv_iald (q := 111) X 17 8 (Nat.le_of_ble_eq_true rfl) (fun _ => rfl) hin29 dX10_pair_110 rfl ?_
              refine vv_bipush (q := 113) X (-9 : Int32) dX10_pair_111 (by decide) rfl ?_
              refine vv_icmp_eq (q := 116) X 118 dX10_pair_113 (by decide) rfl (fun c30 => ?_) (fun c30 => ?_)
              · have h := h.1 c30
                refine vv_sub (lv' := [(0, .ref (ad 0)), (2, .int f2), (3, .int z15), (4, .int x4), (6, .int v17)]) [1, 2, 3, 4, 0] rfl ?_
                exact tJ18  h
              · have h := h.2 c30
                refine vv_iconst (q := 117) X (0 : Int32) dX10_pair_116 (by decide) rfl ?_
                exact vv_zret X hr rfl dX10_pair_117 h
        refine vv_if_ne (q := 73) X 78 dX10_pair_70 (by decide) rfl (fun c31 => ?_) (fun c31 => ?_)
        · have h := h.1 c31
          refine vv_aload_n (q := 79) X 2 dX10_pair_78 rfl rfl rfl ?_
          refine vv_iload (q := 81) X 1 dX10_pair_79 rfl rfl ?_
          refine vv_cVi (q := 84) (C := RX10) X 0 10 [.int z13] (kX10_right l D X.2.2.1 h) (cwV 1 X.1.2.2.2.2 gX10_pair_X10_right rfl rfl rfl (by decide +kernel) ⟨Nat.le_of_ble_eq_true rfl, Nat.le_of_ble_eq_true rfl⟩) (Nat.le_of_ble_eq_true rfl) rfl rfl rfl rfl (Nat.le_of_ble_eq_true rfl) dX10_pair_81 rfl (fun r32 u9 h9 => ?_)
          obtain ⟨h9, hu9⟩ := h9
          subst u9
          have h := h9
          refine vv_sub (lv' := [(0, .ref (ad 0)), (2, .int f2), (3, .int z15), (4, .int x4)]) [2, 3, 0, 4] rfl ?_
          exact tJ16 r32 h
        · have h := h.2 c31
          refine vv_bipush (q := 75) X (-9 : Int32) dX10_pair_73 (by decide) rfl ?_
          refine vv_goto X 84 dX10_pair_75 (by decide) ?_
          refine vv_sub (lv' := [(0, .ref (ad 0)), (2, .int f2), (3, .int z15), (4, .int x4)]) [2, 3, 0, 4] rfl ?_
          exact tJ16 (-9 : Int32) h

def wX10_pair (σ : St) (a1 : Int32) (a2 : Int32) (P : Int32 → St → Prop) : Prop :=
∃ n35 : Nat, wLX10_pair_5 a2 a1 (fun (σ6 : St) =>
∃ n34 : Nat, wLX10_pair_34 a2 (fun (σ33 : St) =>
P (1 : Int32) σ33) P n34 σ6 a1 (0 : Int32)) P n35 σ (0 : Int32)

set_option maxHeartbeats 8000000 in
set_option maxRecDepth 100000 in
theorem kX10_pair (l : Launch) (D : va_G) {cy : Nat → ClassId} {ad : Nat → Nat} (hw : xOk (wM ad cy)) {σ : St} {a1 : Int32} {a2 : Int32} {P : Int32 → St → Prop} (h : wX10_pair σ a1 a2 P) : MI l yX10_pair wsX10_pair rmX10_pair D cy (wM ad cy) [.ref (ad 0), .int a1, .int a2] σ P := by
  unfold MI
  refine vv_met (cc := cX10_pair) (maxL := 7) (ret := (some .boolean)) hw (by decide +kernel) rfl [.ref (ad 0), .int a1, .int a2] (Nat.le_of_ble_eq_true rfl) ?_
  intro p e s m args below meth c X hr
  have X : XX p s m args meth c cX10_pair 7 D cy (wM ad cy) wsX10_pair RX10 := X
  refine vv_sub (lv' := [(0, .ref (ad 0)), (1, .int a1), (2, .int a2)]) [0, 1, 2] rfl ?_
  rw [wX10_pair] at h
  refine vv_iload_n (q := 1) X 1 dX10_pair_0 rfl rfl rfl ?_
  refine vv_istore_n (lv2 := [(3, .int a1), (0, .ref (ad 0)), (1, .int a1), (2, .int a2)]) (q := 2) X dX10_pair_1 rfl (Nat.le_of_ble_eq_true rfl) rfl rfl ?_
  refine vv_iconst (q := 3) X (0 : Int32) dX10_pair_2 (by decide) rfl ?_
  refine vv_istore (lv2 := [(4, .int (0 : Int32)), (3, .int a1), (0, .ref (ad 0)), (1, .int a1), (2, .int a2)]) (q := 5) X dX10_pair_3 (Nat.le_of_ble_eq_true rfl) rfl rfl ?_
  obtain ⟨n35, h⟩ := h
  refine vv_sub (lv' := [(0, .ref (ad 0)), (2, .int a2), (3, .int a1), (4, .int (0 : Int32))]) [2, 4, 1, 0] rfl ?_
  refine twLX10_pair_5 X hr a2 a1  _ ?_ n35 σ (0 : Int32) h
  intro σ6 h
  refine vv_iconst (q := 32) X (0 : Int32) dX10_pair_31 (by decide) rfl ?_
  refine vv_istore (lv2 := [(4, .int (0 : Int32)), (0, .ref (ad 0)), (2, .int a2), (3, .int a1)]) (q := 34) X dX10_pair_32 (Nat.le_of_ble_eq_true rfl) rfl rfl ?_
  obtain ⟨n34, h⟩ := h
  refine vv_sub (lv' := [(0, .ref (ad 0)), (2, .int a2), (3, .int a1), (4, .int (0 : Int32))]) [1, 2, 3, 0] rfl ?_
  refine twLX10_pair_34 X hr a2  _ ?_ n34 σ6 a1 (0 : Int32) h
  intro σ33 h
  refine vv_iconst (q := 150) X (1 : Int32) dX10_pair_149 (by decide) rfl ?_
  exact vv_zret X hr rfl dX10_pair_150 h

/-! X10_isRest: isRest()Z -/
def rmX10_isRest : Room := { frames := 2, cells := 0, slots := 0, locals := 47 }
def wLX10_isRest_14 (f1 : Int32) (σ : St) (K76 : Prop) (P : Int32 → Prop) : Nat → Int32 → Prop
  | 0, _ => False
  | n + 1, x2 =>
    vp_in (0 : Int32) 2 ∧
    ((σ.1 2 (0 : Int32).toNatClampNeg) ≤ x2 →
    K76) ∧
    (¬ (σ.1 2 (0 : Int32).toNatClampNeg) ≤ x2 →
    (f1 = x2 →
    ∀ z6 : Int32, z6 = x2 + (1 : Int32) →
    wLX10_isRest_14 f1 σ K76 P n z6) ∧
    (¬ f1 = x2 →
    wX10_fits σ f1 x2 (fun r7 : Int32 =>
    (r7 = 0 →
    ∀ z9 : Int32, z9 = x2 + (1 : Int32) →
    wLX10_isRest_14 f1 σ K76 P n z9) ∧
    (¬ r7 = 0 →
    vp_in f1 8 ∧
    wX10_likes σ f1 x2 (σ.1 17 f1.toNatClampNeg) (fun r11 : Int32 =>
    (r11 = 0 →
    ∀ z13 : Int32, z13 = x2 + (1 : Int32) →
    wLX10_isRest_14 f1 σ K76 P n z13) ∧
    (¬ r11 = 0 →
    vp_in x2 8 ∧
    wX10_likes σ x2 f1 (σ.1 17 x2.toNatClampNeg) (fun r15 : Int32 =>
    (r15 = 0 →
    ∀ z17 : Int32, z17 = x2 + (1 : Int32) →
    wLX10_isRest_14 f1 σ K76 P n z17) ∧
    (¬ r15 = 0 →
    P (0 : Int32)))))))))

set_option maxHeartbeats 4000000 in
set_option maxRecDepth 100000 in
theorem twLX10_isRest_14 {p : Program} {l : Launch} {e : Env} {s : State} {m : MethodId} {args : Array Value} {below : List Frame} {meth : Method} {c : Code} {D : va_G} {cy : Nat → ClassId} {ad : Nat → Nat} (X : XX p s m args meth c cX10_isRest 3 D cy (wM ad cy) wsX10_isRest RX10) (hr : meth.sig.returnType = (some .boolean)) (f1 : Int32)  (σ : St) (K76 : Prop) {P : Int32 → Prop} (hK76 : K76 → VV p l e rmX10_isRest s m args below meth c (MQ below (va_Qi (fun r u => P r ∧ u = σ) (xPost D (wM ad cy)) (xA (wM ad cy))) args s 0 0 (xA (wM ad cy))) 3 D (wM ad cy) σ 76 [(0, .ref (ad 0)), (1, .int f1)] []) : ∀ (n : Nat) (x2 : Int32), wLX10_isRest_14 f1 σ K76 P n x2 → VV p l e rmX10_isRest s m args below meth c (MQ below (va_Qi (fun r u => P r ∧ u = σ) (xPost D (wM ad cy)) (xA (wM ad cy))) args s 0 0 (xA (wM ad cy))) 3 D (wM ad cy) σ 14 [(0, .ref (ad 0)), (1, .int f1), (2, .int x2)] [] := by
  intro n
  induction n with
  | zero => intro x2 h; exact h.elim
  | succ n ih =>
    intro x2 h
    rw [wLX10_isRest_14] at h
    refine vv_iload_n (q := 15) X 2 dX10_isRest_14 rfl rfl rfl ?_
    refine vv_aload_n (q := 16) X 0 dX10_isRest_15 rfl rfl rfl ?_
    refine vv_getf (q := 19) (ref := "HalfLaddersModel") (C := RX10) (T := TX10) (N := 27) X 0 10 3 (Nat.le_of_ble_eq_true rfl) rfl rfl (Nat.le_of_ble_eq_true rfl) (fun _ h => List.mem_cons_of_mem _ (List.mem_append_right _ h)) (List.mem_of_getElem? (i := 1) rfl) rfl rfl dX10_isRest_16 rfl ?_
    refine vv_iconst (q := 20) X (0 : Int32) dX10_isRest_19 (by decide) rfl ?_
    obtain ⟨hin3, h⟩ := h
    refine vv_iald (q := 21) X 2 2 (Nat.le_of_ble_eq_true rfl) (fun _ => rfl) hin3 dX10_isRest_20 rfl ?_
    refine vv_icmp_ge (q := 24) X 76 dX10_isRest_21 (by decide) rfl (fun c4 => ?_) (fun c4 => ?_)
    · have h := h.1 c4
      refine vv_sub (lv' := [(0, .ref (ad 0)), (1, .int f1)]) [0, 1] rfl ?_
      exact hK76  h
    · have h := h.2 c4
      refine vv_iload_n (q := 25) X 1 dX10_isRest_24 rfl rfl rfl ?_
      refine vv_iload_n (q := 26) X 2 dX10_isRest_25 rfl rfl rfl ?_
      refine vv_icmp_eq (q := 29) X 70 dX10_isRest_26 (by decide) rfl (fun c5 => ?_) (fun c5 => ?_)
      · have h := h.1 c5
        obtain ⟨z6, hz6⟩ : ∃ y : Int32, y = x2 + (1 : Int32) := ⟨_, rfl⟩
        have h := h z6 hz6
        refine vv_iinc (v := z6) (lv2 := [(2, .int z6), (0, .ref (ad 0)), (1, .int f1)]) (q := 73) X 2 dX10_isRest_70 rfl (by rw [hz6]; rfl) (Nat.le_of_ble_eq_true rfl) rfl rfl ?_
        refine vv_goto X 14 dX10_isRest_73 (by decide) ?_
        refine vv_sub (lv' := [(0, .ref (ad 0)), (1, .int f1), (2, .int z6)]) [1, 2, 0] rfl ?_
        exact ih z6 h
      · have h := h.2 c5
        refine vv_aload_n (q := 30) X 0 dX10_isRest_29 rfl rfl rfl ?_
        refine vv_iload_n (q := 31) X 1 dX10_isRest_30 rfl rfl rfl ?_
        refine vv_iload_n (q := 32) X 2 dX10_isRest_31 rfl rfl rfl ?_
        refine vv_cVi (q := 35) (C := RX10) X 0 10 [.int f1, .int x2] (kX10_fits l D X.2.2.1 h) (cwV 2 X.1.2.2.2.2 gX10_isRest_X10_fits rfl rfl rfl (by decide +kernel) ⟨Nat.le_of_ble_eq_true rfl, Nat.le_of_ble_eq_true rfl⟩) (Nat.le_of_ble_eq_true rfl) rfl rfl rfl rfl (Nat.le_of_ble_eq_true rfl) dX10_isRest_32 rfl (fun r7 u9 h9 => ?_)
        obtain ⟨h9, hu9⟩ := h9
        subst u9
        have h := h9
        refine vv_if_eq (q := 38) X 70 dX10_isRest_35 (by decide) rfl (fun c8 => ?_) (fun c8 => ?_)
        · have h := h.1 c8
          obtain ⟨z9, hz9⟩ : ∃ y : Int32, y = x2 + (1 : Int32) := ⟨_, rfl⟩
          have h := h z9 hz9
          refine vv_iinc (v := z9) (lv2 := [(2, .int z9), (0, .ref (ad 0)), (1, .int f1)]) (q := 73) X 2 dX10_isRest_70 rfl (by rw [hz9]; rfl) (Nat.le_of_ble_eq_true rfl) rfl rfl ?_
          refine vv_goto X 14 dX10_isRest_73 (by decide) ?_
          refine vv_sub (lv' := [(0, .ref (ad 0)), (1, .int f1), (2, .int z9)]) [1, 2, 0] rfl ?_
          exact ih z9 h
        · have h := h.2 c8
          refine vv_aload_n (q := 39) X 0 dX10_isRest_38 rfl rfl rfl ?_
          refine vv_iload_n (q := 40) X 1 dX10_isRest_39 rfl rfl rfl ?_
          refine vv_iload_n (q := 41) X 2 dX10_isRest_40 rfl rfl rfl ?_
          refine vv_aload_n (q := 42) X 0 dX10_isRest_41 rfl rfl rfl ?_
          refine vv_getf (q := 45) (ref := "HalfLaddersModel") (C := RX10) (T := TX10) (N := 27) X 0 10 23 (Nat.le_of_ble_eq_true rfl) rfl rfl (Nat.le_of_ble_eq_true rfl) (fun _ h => List.mem_cons_of_mem _ (List.mem_append_right _ h)) (List.mem_of_getElem? (i := 2) rfl) rfl rfl dX10_isRest_42 rfl ?_
          refine vv_iload_n (q := 46) X 1 dX10_isRest_45 rfl rfl rfl ?_
          obtain ⟨hin10, h⟩ := h
          refine vv_iald (q := 47) X 17 8 (Nat.le_of_ble_eq_true rfl) (fun _ => rfl) hin10 dX10_isRest_46 rfl ?_
          refine vv_cVi (q := 50) (C := RX10) X 0 10 [.int f1, .int x2, .int (σ.1 17 f1.toNatClampNeg)] (kX10_likes l D X.2.2.1 h) (cwV 3 X.1.2.2.2.2 gX10_isRest_X10_likes rfl rfl rfl (by decide +kernel) ⟨Nat.le_of_ble_eq_true rfl, Nat.le_of_ble_eq_true rfl⟩) (Nat.le_of_ble_eq_true rfl) rfl rfl rfl rfl (Nat.le_of_ble_eq_true rfl) dX10_isRest_47 rfl (fun r11 u9 h9 => ?_)
          obtain ⟨h9, hu9⟩ := h9
          subst u9
          have h := h9
          refine vv_if_eq (q := 53) X 70 dX10_isRest_50 (by decide) rfl (fun c12 => ?_) (fun c12 => ?_)
          · have h := h.1 c12
            obtain ⟨z13, hz13⟩ : ∃ y : Int32, y = x2 + (1 : Int32) := ⟨_, rfl⟩
            have h := h z13 hz13
            refine vv_iinc (v := z13) (lv2 := [(2, .int z13), (0, .ref (ad 0)), (1, .int f1)]) (q := 73) X 2 dX10_isRest_70 rfl (by rw [hz13]; rfl) (Nat.le_of_ble_eq_true rfl) rfl rfl ?_
            refine vv_goto X 14 dX10_isRest_73 (by decide) ?_
            refine vv_sub (lv' := [(0, .ref (ad 0)), (1, .int f1), (2, .int z13)]) [1, 2, 0] rfl ?_
            exact ih z13 h
          · have h := h.2 c12
            refine vv_aload_n (q := 54) X 0 dX10_isRest_53 rfl rfl rfl ?_
            refine vv_iload_n (q := 55) X 2 dX10_isRest_54 rfl rfl rfl ?_
            refine vv_iload_n (q := 56) X 1 dX10_isRest_55 rfl rfl rfl ?_
            refine vv_aload_n (q := 57) X 0 dX10_isRest_56 rfl rfl rfl ?_
            refine vv_getf (q := 60) (ref := "HalfLaddersModel") (C := RX10) (T := TX10) (N := 27) X 0 10 23 (Nat.le_of_ble_eq_true rfl) rfl rfl (Nat.le_of_ble_eq_true rfl) (fun _ h => List.mem_cons_of_mem _ (List.mem_append_right _ h)) (List.mem_of_getElem? (i := 2) rfl) rfl rfl dX10_isRest_57 rfl ?_
            refine vv_iload_n (q := 61) X 2 dX10_isRest_60 rfl rfl rfl ?_
            obtain ⟨hin14, h⟩ := h
            refine vv_iald (q := 62) X 17 8 (Nat.le_of_ble_eq_true rfl) (fun _ => rfl) hin14 dX10_isRest_61 rfl ?_
            refine vv_cVi (q := 65) (C := RX10) X 0 10 [.int x2, .int f1, .int (σ.1 17 x2.toNatClampNeg)] (kX10_likes l D X.2.2.1 h) (cwV 3 X.1.2.2.2.2 gX10_isRest_X10_likes rfl rfl rfl (by decide +kernel) ⟨Nat.le_of_ble_eq_true rfl, Nat.le_of_ble_eq_true rfl⟩) (Nat.le_of_ble_eq_true rfl) rfl rfl rfl rfl (Nat.le_of_ble_eq_true rfl) dX10_isRest_62 rfl (fun r15 u9 h9 => ?_)
            obtain ⟨h9, hu9⟩ := h9
            subst u9
            have h := h9
            refine vv_if_eq (q := 68) X 70 dX10_isRest_65 (by decide) rfl (fun c16 => ?_) (fun c16 => ?_)
            · have h := h.1 c16
              obtain ⟨z17, hz17⟩ : ∃ y : Int32, y = x2 + (1 : Int32) := ⟨_, rfl⟩
              have h := h z17 hz17
              refine vv_iinc (v := z17) (lv2 := [(2, .int z17), (0, .ref (ad 0)), (1, .int f1)]) (q := 73) X 2 dX10_isRest_70 rfl (by rw [hz17]; rfl) (Nat.le_of_ble_eq_true rfl) rfl rfl ?_
              refine vv_goto X 14 dX10_isRest_73 (by decide) ?_
              refine vv_sub (lv' := [(0, .ref (ad 0)), (1, .int f1), (2, .int z17)]) [1, 2, 0] rfl ?_
              exact ih z17 h
            · have h := h.2 c16
              refine vv_iconst (q := 69) X (0 : Int32) dX10_isRest_68 (by decide) rfl ?_
              exact vv_zret X hr rfl dX10_isRest_69 ⟨h, rfl⟩

def wLX10_isRest_2  (σ : St) (K82 : Prop) (P : Int32 → Prop) : Nat → Int32 → Prop
  | 0, _ => False
  | n + 1, x1 =>
    vp_in (0 : Int32) 2 ∧
    ((σ.1 2 (0 : Int32).toNatClampNeg) ≤ x1 →
    K82) ∧
    (¬ (σ.1 2 (0 : Int32).toNatClampNeg) ≤ x1 →
    ∃ n19 : Nat, wLX10_isRest_14 x1 σ (∀ z18 : Int32, z18 = x1 + (1 : Int32) →
    wLX10_isRest_2 σ K82 P n z18) P n19 (0 : Int32))

set_option maxHeartbeats 4000000 in
set_option maxRecDepth 100000 in
theorem twLX10_isRest_2 {p : Program} {l : Launch} {e : Env} {s : State} {m : MethodId} {args : Array Value} {below : List Frame} {meth : Method} {c : Code} {D : va_G} {cy : Nat → ClassId} {ad : Nat → Nat} (X : XX p s m args meth c cX10_isRest 3 D cy (wM ad cy) wsX10_isRest RX10) (hr : meth.sig.returnType = (some .boolean))   (σ : St) (K82 : Prop) {P : Int32 → Prop} (hK82 : K82 → VV p l e rmX10_isRest s m args below meth c (MQ below (va_Qi (fun r u => P r ∧ u = σ) (xPost D (wM ad cy)) (xA (wM ad cy))) args s 0 0 (xA (wM ad cy))) 3 D (wM ad cy) σ 82 [] []) : ∀ (n : Nat) (x1 : Int32), wLX10_isRest_2 σ K82 P n x1 → VV p l e rmX10_isRest s m args below meth c (MQ below (va_Qi (fun r u => P r ∧ u = σ) (xPost D (wM ad cy)) (xA (wM ad cy))) args s 0 0 (xA (wM ad cy))) 3 D (wM ad cy) σ 2 [(0, .ref (ad 0)), (1, .int x1)] [] := by
  intro n
  induction n with
  | zero => intro x1 h; exact h.elim
  | succ n ih =>
    intro x1 h
    rw [wLX10_isRest_2] at h
    refine vv_iload_n (q := 3) X 1 dX10_isRest_2 rfl rfl rfl ?_
    refine vv_aload_n (q := 4) X 0 dX10_isRest_3 rfl rfl rfl ?_
    refine vv_getf (q := 7) (ref := "HalfLaddersModel") (C := RX10) (T := TX10) (N := 27) X 0 10 3 (Nat.le_of_ble_eq_true rfl) rfl rfl (Nat.le_of_ble_eq_true rfl) (fun _ h => List.mem_cons_of_mem _ (List.mem_append_right _ h)) (List.mem_of_getElem? (i := 1) rfl) rfl rfl dX10_isRest_4 rfl ?_
    refine vv_iconst (q := 8) X (0 : Int32) dX10_isRest_7 (by decide) rfl ?_
    obtain ⟨hin1, h⟩ := h
    refine vv_iald (q := 9) X 2 2 (Nat.le_of_ble_eq_true rfl) (fun _ => rfl) hin1 dX10_isRest_8 rfl ?_
    refine vv_icmp_ge (q := 12) X 82 dX10_isRest_9 (by decide) rfl (fun c2 => ?_) (fun c2 => ?_)
    · have h := h.1 c2
      refine vv_sub (lv' := []) [] rfl ?_
      exact hK82  h
    · have h := h.2 c2
      refine vv_iconst (q := 13) X (0 : Int32) dX10_isRest_12 (by decide) rfl ?_
      refine vv_istore_n (lv2 := [(2, .int (0 : Int32)), (0, .ref (ad 0)), (1, .int x1)]) (q := 14) X dX10_isRest_13 rfl (Nat.le_of_ble_eq_true rfl) rfl rfl ?_
      obtain ⟨n19, h⟩ := h
      refine vv_sub (lv' := [(0, .ref (ad 0)), (1, .int x1), (2, .int (0 : Int32))]) [1, 2, 0] rfl ?_
      refine twLX10_isRest_14 X hr x1  σ _ ?_ n19 (0 : Int32) h
      intro h
      obtain ⟨z18, hz18⟩ : ∃ y : Int32, y = x1 + (1 : Int32) := ⟨_, rfl⟩
      have h := h z18 hz18
      refine vv_iinc (v := z18) (lv2 := [(1, .int z18), (0, .ref (ad 0))]) (q := 79) X 1 dX10_isRest_76 rfl (by rw [hz18]; rfl) (Nat.le_of_ble_eq_true rfl) rfl rfl ?_
      refine vv_goto X 2 dX10_isRest_79 (by decide) ?_
      refine vv_sub (lv' := [(0, .ref (ad 0)), (1, .int z18)]) [1, 0] rfl ?_
      exact ih z18 h

def wX10_isRest (σ : St)  (P : Int32 → Prop) : Prop :=
∃ n20 : Nat, wLX10_isRest_2 σ (P (1 : Int32)) P n20 (0 : Int32)

set_option maxHeartbeats 8000000 in
set_option maxRecDepth 100000 in
theorem kX10_isRest (l : Launch) (D : va_G) {cy : Nat → ClassId} {ad : Nat → Nat} (hw : xOk (wM ad cy)) {σ : St}  {P : Int32 → Prop} (h : wX10_isRest σ  P) : MI l yX10_isRest wsX10_isRest rmX10_isRest D cy (wM ad cy) [.ref (ad 0)] σ (fun r u => P r ∧ u = σ) := by
  unfold MI
  refine vv_met (cc := cX10_isRest) (maxL := 3) (ret := (some .boolean)) hw (by decide +kernel) rfl [.ref (ad 0)] (Nat.le_of_ble_eq_true rfl) ?_
  intro p e s m args below meth c X hr
  have X : XX p s m args meth c cX10_isRest 3 D cy (wM ad cy) wsX10_isRest RX10 := X
  refine vv_sub (lv' := [(0, .ref (ad 0))]) [0] rfl ?_
  rw [wX10_isRest] at h
  refine vv_iconst (q := 1) X (0 : Int32) dX10_isRest_0 (by decide) rfl ?_
  refine vv_istore_n (lv2 := [(1, .int (0 : Int32)), (0, .ref (ad 0))]) (q := 2) X dX10_isRest_1 rfl (Nat.le_of_ble_eq_true rfl) rfl rfl ?_
  obtain ⟨n20, h⟩ := h
  refine vv_sub (lv' := [(0, .ref (ad 0)), (1, .int (0 : Int32))]) [1, 0] rfl ?_
  refine twLX10_isRest_2 X hr  σ _ ?_ n20 (0 : Int32) h
  intro h
  refine vv_iconst (q := 83) X (1 : Int32) dX10_isRest_82 (by decide) rfl ?_
  exact vv_zret X hr rfl dX10_isRest_83 ⟨h, rfl⟩

/-! X10_rests: rests()I -/
def rmX10_rests : Room := { frames := 3, cells := 0, slots := 0, locals := 69 }
def wLX10_rests_6 (f2 : Int32) (σ : St) (K31 : Int32 → Prop) (P : Int32 → St → Prop) : Nat → Int32 → Int32 → Prop
  | 0, _, _ => False
  | n + 1, x1, x3 =>
    vp_in (0 : Int32) 2 ∧
    ((σ.1 2 (0 : Int32).toNatClampNeg) ≤ x3 →
    K31 x1) ∧
    (¬ (σ.1 2 (0 : Int32).toNatClampNeg) ≤ x3 →
    vp_in x3 16 ∧
    ∀ z4 : Int32, z4 = (x1 + (σ.1 3 x3.toNatClampNeg)) →
    ∀ z5 : Int32, z5 = x3 + (1 : Int32) →
    wLX10_rests_6 f2 σ K31 P n z4 z5)

set_option maxHeartbeats 4000000 in
set_option maxRecDepth 100000 in
theorem twLX10_rests_6 {p : Program} {l : Launch} {e : Env} {s : State} {m : MethodId} {args : Array Value} {below : List Frame} {meth : Method} {c : Code} {D : va_G} {cy : Nat → ClassId} {ad : Nat → Nat} (X : XX p s m args meth c cX10_rests 5 D cy (wM ad cy) wsX10_rests RX10) (hr : meth.sig.returnType = (some .int)) (f2 : Int32)  (σ : St) (K31 : Int32 → Prop) {P : Int32 → St → Prop} (hK31 : ∀ (x1 : Int32), K31 x1 → VV p l e rmX10_rests s m args below meth c (MQ below (va_Qi P (xPost D (wM ad cy)) (xA (wM ad cy))) args s 0 0 (xA (wM ad cy))) 5 D (wM ad cy) σ 31 [(0, .ref (ad 0)), (1, .int x1), (2, .int f2)] []) : ∀ (n : Nat) (x1 : Int32) (x3 : Int32), wLX10_rests_6 f2 σ K31 P n x1 x3 → VV p l e rmX10_rests s m args below meth c (MQ below (va_Qi P (xPost D (wM ad cy)) (xA (wM ad cy))) args s 0 0 (xA (wM ad cy))) 5 D (wM ad cy) σ 6 [(0, .ref (ad 0)), (1, .int x1), (2, .int f2), (3, .int x3)] [] := by
  intro n
  induction n with
  | zero => intro x1 x3 h; exact h.elim
  | succ n ih =>
    intro x1 x3 h
    rw [wLX10_rests_6] at h
    refine vv_iload_n (q := 7) X 3 dX10_rests_6 rfl rfl rfl ?_
    refine vv_aload_n (q := 8) X 0 dX10_rests_7 rfl rfl rfl ?_
    refine vv_getf (q := 11) (ref := "HalfLaddersModel") (C := RX10) (T := TX10) (N := 27) X 0 10 3 (Nat.le_of_ble_eq_true rfl) rfl rfl (Nat.le_of_ble_eq_true rfl) (fun _ h => List.mem_cons_of_mem _ (List.mem_append_right _ h)) (List.mem_of_getElem? (i := 1) rfl) rfl rfl dX10_rests_8 rfl ?_
    refine vv_iconst (q := 12) X (0 : Int32) dX10_rests_11 (by decide) rfl ?_
    obtain ⟨hin1, h⟩ := h
    refine vv_iald (q := 13) X 2 2 (Nat.le_of_ble_eq_true rfl) (fun _ => rfl) hin1 dX10_rests_12 rfl ?_
    refine vv_icmp_ge (q := 16) X 31 dX10_rests_13 (by decide) rfl (fun c2 => ?_) (fun c2 => ?_)
    · have h := h.1 c2
      refine vv_sub (lv' := [(0, .ref (ad 0)), (1, .int x1), (2, .int f2)]) [0, 1, 2] rfl ?_
      exact hK31 x1 h
    · have h := h.2 c2
      refine vv_iload_n (q := 17) X 1 dX10_rests_16 rfl rfl rfl ?_
      refine vv_aload_n (q := 18) X 0 dX10_rests_17 rfl rfl rfl ?_
      refine vv_getf (q := 21) (ref := "HalfLaddersModel") (C := RX10) (T := TX10) (N := 27) X 0 10 4 (Nat.le_of_ble_eq_true rfl) rfl rfl (Nat.le_of_ble_eq_true rfl) (fun _ h => List.mem_cons_of_mem _ (List.mem_append_right _ h)) (List.mem_of_getElem? (i := 2) rfl) rfl rfl dX10_rests_18 rfl ?_
      refine vv_iload_n (q := 22) X 3 dX10_rests_21 rfl rfl rfl ?_
      obtain ⟨hin3, h⟩ := h
      refine vv_iald (q := 23) X 3 16 (Nat.le_of_ble_eq_true rfl) (fun _ => rfl) hin3 dX10_rests_22 rfl ?_
      refine vv_iadd (q := 24) X dX10_rests_23 rfl ?_
      refine vv_topi (fun z4 hz4 => ?_)
      have h := h z4 hz4
      refine vv_istore_n (lv2 := [(1, .int z4), (0, .ref (ad 0)), (2, .int f2), (3, .int x3)]) (q := 25) X dX10_rests_24 rfl (Nat.le_of_ble_eq_true rfl) rfl rfl ?_
      obtain ⟨z5, hz5⟩ : ∃ y : Int32, y = x3 + (1 : Int32) := ⟨_, rfl⟩
      have h := h z5 hz5
      refine vv_iinc (v := z5) (lv2 := [(3, .int z5), (1, .int z4), (0, .ref (ad 0)), (2, .int f2)]) (q := 28) X 3 dX10_rests_25 rfl (by rw [hz5]; rfl) (Nat.le_of_ble_eq_true rfl) rfl rfl ?_
      refine vv_goto X 6 dX10_rests_28 (by decide) ?_
      refine vv_sub (lv' := [(0, .ref (ad 0)), (1, .int z4), (2, .int f2), (3, .int z5)]) [2, 1, 3, 0] rfl ?_
      exact ih z4 z5 h

def wLX10_rests_33 (f1 : Int32) (σ : St) (K68 : Int32 → Prop) (P : Int32 → St → Prop) : Nat → Int32 → Int32 → Prop
  | 0, _, _ => False
  | n + 1, x2, x3 =>
    vp_in (0 : Int32) 2 ∧
    ((σ.1 2 (0 : Int32).toNatClampNeg) ≤ x3 →
    K68 x2) ∧
    (¬ (σ.1 2 (0 : Int32).toNatClampNeg) ≤ x3 →
    vp_in x3 16 ∧
    (¬ (σ.1 3 x3.toNatClampNeg) = 0 →
    ∀ z11 : Int32, z11 = (x2 * (1 : Int32)) →
    ∀ z12 : Int32, z12 = x3 + (1 : Int32) →
    wLX10_rests_33 f1 σ K68 P n z11 z12) ∧
    ((σ.1 3 x3.toNatClampNeg) = 0 →
    ∀ z13 : Int32, z13 = (x2 * (f1 + (1 : Int32))) →
    ∀ z14 : Int32, z14 = x3 + (1 : Int32) →
    wLX10_rests_33 f1 σ K68 P n z13 z14))

set_option maxHeartbeats 4000000 in
set_option maxRecDepth 100000 in
theorem twLX10_rests_33 {p : Program} {l : Launch} {e : Env} {s : State} {m : MethodId} {args : Array Value} {below : List Frame} {meth : Method} {c : Code} {D : va_G} {cy : Nat → ClassId} {ad : Nat → Nat} (X : XX p s m args meth c cX10_rests 5 D cy (wM ad cy) wsX10_rests RX10) (hr : meth.sig.returnType = (some .int)) (f1 : Int32)  (σ : St) (K68 : Int32 → Prop) {P : Int32 → St → Prop} (hK68 : ∀ (x2 : Int32), K68 x2 → VV p l e rmX10_rests s m args below meth c (MQ below (va_Qi P (xPost D (wM ad cy)) (xA (wM ad cy))) args s 0 0 (xA (wM ad cy))) 5 D (wM ad cy) σ 68 [(0, .ref (ad 0)), (1, .int f1), (2, .int x2)] []) : ∀ (n : Nat) (x2 : Int32) (x3 : Int32), wLX10_rests_33 f1 σ K68 P n x2 x3 → VV p l e rmX10_rests s m args below meth c (MQ below (va_Qi P (xPost D (wM ad cy)) (xA (wM ad cy))) args s 0 0 (xA (wM ad cy))) 5 D (wM ad cy) σ 33 [(0, .ref (ad 0)), (1, .int f1), (2, .int x2), (3, .int x3)] [] := by
  intro n
  induction n with
  | zero => intro x2 x3 h; exact h.elim
  | succ n ih =>
    intro x2 x3 h
    rw [wLX10_rests_33] at h
    refine vv_iload_n (q := 34) X 3 dX10_rests_33 rfl rfl rfl ?_
    refine vv_aload_n (q := 35) X 0 dX10_rests_34 rfl rfl rfl ?_
    refine vv_getf (q := 38) (ref := "HalfLaddersModel") (C := RX10) (T := TX10) (N := 27) X 0 10 3 (Nat.le_of_ble_eq_true rfl) rfl rfl (Nat.le_of_ble_eq_true rfl) (fun _ h => List.mem_cons_of_mem _ (List.mem_append_right _ h)) (List.mem_of_getElem? (i := 1) rfl) rfl rfl dX10_rests_35 rfl ?_
    refine vv_iconst (q := 39) X (0 : Int32) dX10_rests_38 (by decide) rfl ?_
    obtain ⟨hin7, h⟩ := h
    refine vv_iald (q := 40) X 2 2 (Nat.le_of_ble_eq_true rfl) (fun _ => rfl) hin7 dX10_rests_39 rfl ?_
    refine vv_icmp_ge (q := 43) X 68 dX10_rests_40 (by decide) rfl (fun c8 => ?_) (fun c8 => ?_)
    · have h := h.1 c8
      refine vv_sub (lv' := [(0, .ref (ad 0)), (1, .int f1), (2, .int x2)]) [0, 1, 2] rfl ?_
      exact hK68 x2 h
    · have h := h.2 c8
      refine vv_iload_n (q := 44) X 2 dX10_rests_43 rfl rfl rfl ?_
      refine vv_aload_n (q := 45) X 0 dX10_rests_44 rfl rfl rfl ?_
      refine vv_getf (q := 48) (ref := "HalfLaddersModel") (C := RX10) (T := TX10) (N := 27) X 0 10 4 (Nat.le_of_ble_eq_true rfl) rfl rfl (Nat.le_of_ble_eq_true rfl) (fun _ h => List.mem_cons_of_mem _ (List.mem_append_right _ h)) (List.mem_of_getElem? (i := 2) rfl) rfl rfl dX10_rests_45 rfl ?_
      refine vv_iload_n (q := 49) X 3 dX10_rests_48 rfl rfl rfl ?_
      obtain ⟨hin9, h⟩ := h
      refine vv_iald (q := 50) X 3 16 (Nat.le_of_ble_eq_true rfl) (fun _ => rfl) hin9 dX10_rests_49 rfl ?_
      refine vv_if_ne (q := 53) X 59 dX10_rests_50 (by decide) rfl (fun c10 => ?_) (fun c10 => ?_)
      · have h := h.1 c10
        refine vv_iconst (q := 60) X (1 : Int32) dX10_rests_59 (by decide) rfl ?_
        refine vv_imul (q := 61) X dX10_rests_60 rfl ?_
        refine vv_topi (fun z11 hz11 => ?_)
        have h := h z11 hz11
        refine vv_istore_n (lv2 := [(2, .int z11), (0, .ref (ad 0)), (1, .int f1), (3, .int x3)]) (q := 62) X dX10_rests_61 rfl (Nat.le_of_ble_eq_true rfl) rfl rfl ?_
        obtain ⟨z12, hz12⟩ : ∃ y : Int32, y = x3 + (1 : Int32) := ⟨_, rfl⟩
        have h := h z12 hz12
        refine vv_iinc (v := z12) (lv2 := [(3, .int z12), (2, .int z11), (0, .ref (ad 0)), (1, .int f1)]) (q := 65) X 3 dX10_rests_62 rfl (by rw [hz12]; rfl) (Nat.le_of_ble_eq_true rfl) rfl rfl ?_
        refine vv_goto X 33 dX10_rests_65 (by decide) ?_
        refine vv_sub (lv' := [(0, .ref (ad 0)), (1, .int f1), (2, .int z11), (3, .int z12)]) [2, 3, 1, 0] rfl ?_
        exact ih z11 z12 h
      · have h := h.2 c10
        refine vv_iload_n (q := 54) X 1 dX10_rests_53 rfl rfl rfl ?_
        refine vv_iconst (q := 55) X (1 : Int32) dX10_rests_54 (by decide) rfl ?_
        refine vv_iadd (q := 56) X dX10_rests_55 rfl ?_
        refine vv_goto X 60 dX10_rests_56 (by decide) ?_
        refine vv_imul (q := 61) X dX10_rests_60 rfl ?_
        refine vv_topi (fun z13 hz13 => ?_)
        have h := h z13 hz13
        refine vv_istore_n (lv2 := [(2, .int z13), (0, .ref (ad 0)), (1, .int f1), (3, .int x3)]) (q := 62) X dX10_rests_61 rfl (Nat.le_of_ble_eq_true rfl) rfl rfl ?_
        obtain ⟨z14, hz14⟩ : ∃ y : Int32, y = x3 + (1 : Int32) := ⟨_, rfl⟩
        have h := h z14 hz14
        refine vv_iinc (v := z14) (lv2 := [(3, .int z14), (2, .int z13), (0, .ref (ad 0)), (1, .int f1)]) (q := 65) X 3 dX10_rests_62 rfl (by rw [hz14]; rfl) (Nat.le_of_ble_eq_true rfl) rfl rfl ?_
        refine vv_goto X 33 dX10_rests_65 (by decide) ?_
        refine vv_sub (lv' := [(0, .ref (ad 0)), (1, .int f1), (2, .int z13), (3, .int z14)]) [2, 3, 1, 0] rfl ?_
        exact ih z13 z14 h

def wLX10_rests_73 (f1 : Int32) (f2 : Int32)  (K110 : St → Int32 → Prop) (P : Int32 → St → Prop) : Nat → St → Int32 → Int32 → Prop
  | 0, _, _, _ => False
  | n + 1, σ, x3, x4 =>
    (f2 ≤ x4 →
    K110 σ x3) ∧
    (¬ f2 ≤ x4 →
    wX10_pair σ x4 f1 (fun (r17 : Int32) (σ18 : St) =>
    (r17 = 0 →
    ∀ z20 : Int32, z20 = (x3 + (0 : Int32)) →
    ∀ z21 : Int32, z21 = x4 + (1 : Int32) →
    wLX10_rests_73 f1 f2 K110 P n σ18 z20 z21) ∧
    (¬ r17 = 0 →
    wX10_isRest σ18  (fun r22 : Int32 =>
    (r22 = 0 →
    ∀ z24 : Int32, z24 = (x3 + (0 : Int32)) →
    ∀ z25 : Int32, z25 = x4 + (1 : Int32) →
    wLX10_rests_73 f1 f2 K110 P n σ18 z24 z25) ∧
    (¬ r22 = 0 →
    ∀ z26 : Int32, z26 = (x3 + (1 : Int32)) →
    ∀ z27 : Int32, z27 = x4 + (1 : Int32) →
    wLX10_rests_73 f1 f2 K110 P n σ18 z26 z27)))))

set_option maxHeartbeats 4000000 in
set_option maxRecDepth 100000 in
theorem twLX10_rests_73 {p : Program} {l : Launch} {e : Env} {s : State} {m : MethodId} {args : Array Value} {below : List Frame} {meth : Method} {c : Code} {D : va_G} {cy : Nat → ClassId} {ad : Nat → Nat} (X : XX p s m args meth c cX10_rests 5 D cy (wM ad cy) wsX10_rests RX10) (hr : meth.sig.returnType = (some .int)) (f1 : Int32) (f2 : Int32)   (K110 : St → Int32 → Prop) {P : Int32 → St → Prop} (hK110 : ∀ (σ : St) (x3 : Int32), K110 σ x3 → VV p l e rmX10_rests s m args below meth c (MQ below (va_Qi P (xPost D (wM ad cy)) (xA (wM ad cy))) args s 0 0 (xA (wM ad cy))) 5 D (wM ad cy) σ 110 [(3, .int x3)] []) : ∀ (n : Nat) (σ : St) (x3 : Int32) (x4 : Int32), wLX10_rests_73 f1 f2 K110 P n σ x3 x4 → VV p l e rmX10_rests s m args below meth c (MQ below (va_Qi P (xPost D (wM ad cy)) (xA (wM ad cy))) args s 0 0 (xA (wM ad cy))) 5 D (wM ad cy) σ 73 [(0, .ref (ad 0)), (1, .int f1), (2, .int f2), (3, .int x3), (4, .int x4)] [] := by
  intro n
  induction n with
  | zero => intro σ x3 x4 h; exact h.elim
  | succ n ih =>
    intro σ x3 x4 h
    rw [wLX10_rests_73] at h
    refine vv_iload (q := 75) X 4 dX10_rests_73 rfl rfl ?_
    refine vv_iload_n (q := 76) X 2 dX10_rests_75 rfl rfl rfl ?_
    refine vv_icmp_ge (q := 79) X 110 dX10_rests_76 (by decide) rfl (fun c16 => ?_) (fun c16 => ?_)
    · have h := h.1 c16
      refine vv_sub (lv' := [(3, .int x3)]) [3] rfl ?_
      exact hK110 σ x3 h
    · have h := h.2 c16
      refine vv_iload_n (q := 80) X 3 dX10_rests_79 rfl rfl rfl ?_
      refine vv_aload_n (q := 81) X 0 dX10_rests_80 rfl rfl rfl ?_
      refine vv_iload (q := 83) X 4 dX10_rests_81 rfl rfl ?_
      refine vv_iload_n (q := 84) X 1 dX10_rests_83 rfl rfl rfl ?_
      refine vv_cVi (q := 87) (C := RX10) X 0 10 [.int x4, .int f1] (kX10_pair l D X.2.2.1 h) (cwV 2 X.1.2.2.2.2 gX10_rests_X10_pair rfl rfl rfl (by decide +kernel) ⟨Nat.le_of_ble_eq_true rfl, Nat.le_of_ble_eq_true rfl⟩) (Nat.le_of_ble_eq_true rfl) rfl rfl rfl rfl (Nat.le_of_ble_eq_true rfl) dX10_rests_84 rfl (fun r17 σ18 h => ?_)
      refine vv_if_eq (q := 90) X 101 dX10_rests_87 (by decide) rfl (fun c19 => ?_) (fun c19 => ?_)
      · have h := h.1 c19
        refine vv_iconst (q := 102) X (0 : Int32) dX10_rests_101 (by decide) rfl ?_
        refine vv_iadd (q := 103) X dX10_rests_102 rfl ?_
        refine vv_topi (fun z20 hz20 => ?_)
        have h := h z20 hz20
        refine vv_istore_n (lv2 := [(3, .int z20), (0, .ref (ad 0)), (1, .int f1), (2, .int f2), (4, .int x4)]) (q := 104) X dX10_rests_103 rfl (Nat.le_of_ble_eq_true rfl) rfl rfl ?_
        obtain ⟨z21, hz21⟩ : ∃ y : Int32, y = x4 + (1 : Int32) := ⟨_, rfl⟩
        have h := h z21 hz21
        refine vv_iinc (v := z21) (lv2 := [(4, .int z21), (3, .int z20), (0, .ref (ad 0)), (1, .int f1), (2, .int f2)]) (q := 107) X 4 dX10_rests_104 rfl (by rw [hz21]; rfl) (Nat.le_of_ble_eq_true rfl) rfl rfl ?_
        refine vv_goto X 73 dX10_rests_107 (by decide) ?_
        refine vv_sub (lv' := [(0, .ref (ad 0)), (1, .int f1), (2, .int f2), (3, .int z20), (4, .int z21)]) [2, 3, 4, 1, 0] rfl ?_
        exact ih σ18 z20 z21 h
      · have h := h.2 c19
        refine vv_aload_n (q := 91) X 0 dX10_rests_90 rfl rfl rfl ?_
        refine vv_cVi (q := 94) (C := RX10) X 0 10 [] (kX10_isRest l D X.2.2.1 h) (cwV 0 X.1.2.2.2.2 gX10_rests_X10_isRest rfl rfl rfl (by decide +kernel) ⟨Nat.le_of_ble_eq_true rfl, Nat.le_of_ble_eq_true rfl⟩) (Nat.le_of_ble_eq_true rfl) rfl rfl rfl rfl (Nat.le_of_ble_eq_true rfl) dX10_rests_91 rfl (fun r22 u9 h9 => ?_)
        obtain ⟨h9, hu9⟩ := h9
        subst u9
        have h := h9
        refine vv_if_eq (q := 97) X 101 dX10_rests_94 (by decide) rfl (fun c23 => ?_) (fun c23 => ?_)
        · have h := h.1 c23
          refine vv_iconst (q := 102) X (0 : Int32) dX10_rests_101 (by decide) rfl ?_
          refine vv_iadd (q := 103) X dX10_rests_102 rfl ?_
          refine vv_topi (fun z24 hz24 => ?_)
          have h := h z24 hz24
          refine vv_istore_n (lv2 := [(3, .int z24), (0, .ref (ad 0)), (1, .int f1), (2, .int f2), (4, .int x4)]) (q := 104) X dX10_rests_103 rfl (Nat.le_of_ble_eq_true rfl) rfl rfl ?_
          obtain ⟨z25, hz25⟩ : ∃ y : Int32, y = x4 + (1 : Int32) := ⟨_, rfl⟩
          have h := h z25 hz25
          refine vv_iinc (v := z25) (lv2 := [(4, .int z25), (3, .int z24), (0, .ref (ad 0)), (1, .int f1), (2, .int f2)]) (q := 107) X 4 dX10_rests_104 rfl (by rw [hz25]; rfl) (Nat.le_of_ble_eq_true rfl) rfl rfl ?_
          refine vv_goto X 73 dX10_rests_107 (by decide) ?_
          refine vv_sub (lv' := [(0, .ref (ad 0)), (1, .int f1), (2, .int f2), (3, .int z24), (4, .int z25)]) [2, 3, 4, 1, 0] rfl ?_
          exact ih σ18 z24 z25 h
        · have h := h.2 c23
          refine vv_iconst (q := 98) X (1 : Int32) dX10_rests_97 (by decide) rfl ?_
          refine vv_goto X 102 dX10_rests_98 (by decide) ?_
          refine vv_iadd (q := 103) X dX10_rests_102 rfl ?_
          refine vv_topi (fun z26 hz26 => ?_)
          have h := h z26 hz26
          refine vv_istore_n (lv2 := [(3, .int z26), (0, .ref (ad 0)), (1, .int f1), (2, .int f2), (4, .int x4)]) (q := 104) X dX10_rests_103 rfl (Nat.le_of_ble_eq_true rfl) rfl rfl ?_
          obtain ⟨z27, hz27⟩ : ∃ y : Int32, y = x4 + (1 : Int32) := ⟨_, rfl⟩
          have h := h z27 hz27
          refine vv_iinc (v := z27) (lv2 := [(4, .int z27), (3, .int z26), (0, .ref (ad 0)), (1, .int f1), (2, .int f2)]) (q := 107) X 4 dX10_rests_104 rfl (by rw [hz27]; rfl) (Nat.le_of_ble_eq_true rfl) rfl rfl ?_
          refine vv_goto X 73 dX10_rests_107 (by decide) ?_
          refine vv_sub (lv' := [(0, .ref (ad 0)), (1, .int f1), (2, .int f2), (3, .int z26), (4, .int z27)]) [2, 3, 4, 1, 0] rfl ?_
          exact ih σ18 z26 z27 h

def wX10_rests (σ : St)  (P : Int32 → St → Prop) : Prop :=
∃ n32 : Nat, wLX10_rests_6 (1 : Int32) σ (fun (y6 : Int32) =>
∃ n31 : Nat, wLX10_rests_33 y6 σ (fun (y15 : Int32) =>
∃ n30 : Nat, wLX10_rests_73 y6 y15 (fun (σ29 : St) (y28 : Int32) =>
P y28 σ29) P n30 σ (0 : Int32) (0 : Int32)) P n31 (1 : Int32) (0 : Int32)) P n32 (0 : Int32) (0 : Int32)

set_option maxHeartbeats 8000000 in
set_option maxRecDepth 100000 in
theorem kX10_rests (l : Launch) (D : va_G) {cy : Nat → ClassId} {ad : Nat → Nat} (hw : xOk (wM ad cy)) {σ : St}  {P : Int32 → St → Prop} (h : wX10_rests σ  P) : MI l yX10_rests wsX10_rests rmX10_rests D cy (wM ad cy) [.ref (ad 0)] σ P := by
  unfold MI
  refine vv_met (cc := cX10_rests) (maxL := 5) (ret := (some .int)) hw (by decide +kernel) rfl [.ref (ad 0)] (Nat.le_of_ble_eq_true rfl) ?_
  intro p e s m args below meth c X hr
  have X : XX p s m args meth c cX10_rests 5 D cy (wM ad cy) wsX10_rests RX10 := X
  refine vv_sub (lv' := [(0, .ref (ad 0))]) [0] rfl ?_
  rw [wX10_rests] at h
  refine vv_iconst (q := 1) X (0 : Int32) dX10_rests_0 (by decide) rfl ?_
  refine vv_istore_n (lv2 := [(1, .int (0 : Int32)), (0, .ref (ad 0))]) (q := 2) X dX10_rests_1 rfl (Nat.le_of_ble_eq_true rfl) rfl rfl ?_
  refine vv_iconst (q := 3) X (1 : Int32) dX10_rests_2 (by decide) rfl ?_
  refine vv_istore_n (lv2 := [(2, .int (1 : Int32)), (1, .int (0 : Int32)), (0, .ref (ad 0))]) (q := 4) X dX10_rests_3 rfl (Nat.le_of_ble_eq_true rfl) rfl rfl ?_
  refine vv_iconst (q := 5) X (0 : Int32) dX10_rests_4 (by decide) rfl ?_
  refine vv_istore_n (lv2 := [(3, .int (0 : Int32)), (2, .int (1 : Int32)), (1, .int (0 : Int32)), (0, .ref (ad 0))]) (q := 6) X dX10_rests_5 rfl (Nat.le_of_ble_eq_true rfl) rfl rfl ?_
  obtain ⟨n32, h⟩ := h
  refine vv_sub (lv' := [(0, .ref (ad 0)), (1, .int (0 : Int32)), (2, .int (1 : Int32)), (3, .int (0 : Int32))]) [3, 2, 1, 0] rfl ?_
  refine twLX10_rests_6 X hr (1 : Int32)  σ _ ?_ n32 (0 : Int32) (0 : Int32) h
  intro y6 h
  refine vv_iconst (q := 32) X (0 : Int32) dX10_rests_31 (by decide) rfl ?_
  refine vv_istore_n (lv2 := [(3, .int (0 : Int32)), (0, .ref (ad 0)), (1, .int y6), (2, .int (1 : Int32))]) (q := 33) X dX10_rests_32 rfl (Nat.le_of_ble_eq_true rfl) rfl rfl ?_
  obtain ⟨n31, h⟩ := h
  refine vv_sub (lv' := [(0, .ref (ad 0)), (1, .int y6), (2, .int (1 : Int32)), (3, .int (0 : Int32))]) [1, 2, 3, 0] rfl ?_
  refine twLX10_rests_33 X hr y6  σ _ ?_ n31 (1 : Int32) (0 : Int32) h
  intro y15 h
  refine vv_iconst (q := 69) X (0 : Int32) dX10_rests_68 (by decide) rfl ?_
  refine vv_istore_n (lv2 := [(3, .int (0 : Int32)), (0, .ref (ad 0)), (1, .int y6), (2, .int y15)]) (q := 70) X dX10_rests_69 rfl (Nat.le_of_ble_eq_true rfl) rfl rfl ?_
  refine vv_iconst (q := 71) X (0 : Int32) dX10_rests_70 (by decide) rfl ?_
  refine vv_istore (lv2 := [(4, .int (0 : Int32)), (3, .int (0 : Int32)), (0, .ref (ad 0)), (1, .int y6), (2, .int y15)]) (q := 73) X dX10_rests_71 (Nat.le_of_ble_eq_true rfl) rfl rfl ?_
  obtain ⟨n30, h⟩ := h
  refine vv_sub (lv' := [(0, .ref (ad 0)), (1, .int y6), (2, .int y15), (3, .int (0 : Int32)), (4, .int (0 : Int32))]) [2, 3, 4, 1, 0] rfl ?_
  refine twLX10_rests_73 X hr y6 y15  _ ?_ n30 σ (0 : Int32) (0 : Int32) h
  intro σ29 y28 h
  refine vv_iload_n (q := 111) X 0 dX10_rests_110 rfl rfl rfl ?_
  exact vv_iret X hr dX10_rests_111 h

/-! X10_cutOne: cutOne(II)V -/
def rmX10_cutOne : Room := { frames := 0, cells := 0, slots := 0, locals := 0 }
def wLX10_cutOne_2 (f1 : Int32) (f2 : Int32)  (K158 : St → Prop) (P : St → Prop) : Nat → St → Int32 → Prop
  | 0, _, _ => False
  | n + 1, σ, x3 =>
    vp_in (0 : Int32) 2 ∧
    ((σ.1 2 (0 : Int32).toNatClampNeg) ≤ x3 →
    K158 σ) ∧
    (¬ (σ.1 2 (0 : Int32).toNatClampNeg) ≤ x3 →
    vp_in x3 16 ∧
    jn (fun (v5 : Int32) =>
    vp_in f1 16 ∧
    vp_in x3 16 ∧
    jn (fun (v9 : Int32) =>
    ∀ z10 : Int32, z10 = ((f2 + (256 : Int32)) + ((1 : Int32) <<< (x3 &&& 31))) →
    (v5 = 0 →
    ∀ z12 : Int32, z12 = x3 + (1 : Int32) →
    wLX10_cutOne_2 f1 f2 K158 P n σ z12) ∧
    (¬ v5 = 0 →
    vp_in f2 1280 ∧
    vp_in z10 1280 ∧
    ((σ.1 20 z10.toNatClampNeg) ≤ ((σ.1 19 f2.toNatClampNeg) + v9) →
    ∀ z16 : Int32, z16 = x3 + (1 : Int32) →
    wLX10_cutOne_2 f1 f2 K158 P n σ z16) ∧
    (¬ (σ.1 20 z10.toNatClampNeg) ≤ ((σ.1 19 f2.toNatClampNeg) + v9) →
    vp_in f2 1280 ∧
    vp_in z10 1280 ∧
    ∀ σ19 : St, σ19 = sI σ 20 z10.toNatClampNeg ((σ.1 19 f2.toNatClampNeg) + v9) →
    ∀ z20 : Int32, z20 = x3 + (1 : Int32) →
    wLX10_cutOne_2 f1 f2 K158 P n σ19 z20))) (fun J8 : Int32 → Prop =>
    ((σ.1 4 x3.toNatClampNeg) ≤ (σ.1 4 f1.toNatClampNeg) →
    vp_in f1 16 ∧
    vp_in x3 16 ∧
    J8 ((σ.1 4 f1.toNatClampNeg) - (σ.1 4 x3.toNatClampNeg))) ∧
    (¬ (σ.1 4 x3.toNatClampNeg) ≤ (σ.1 4 f1.toNatClampNeg) →
    vp_in x3 16 ∧
    vp_in f1 16 ∧
    J8 ((σ.1 4 x3.toNatClampNeg) - (σ.1 4 f1.toNatClampNeg))))) (fun J4 : Int32 → Prop =>
    (¬ (σ.1 3 x3.toNatClampNeg) = (1 : Int32) →
    J4 (0 : Int32)) ∧
    ((σ.1 3 x3.toNatClampNeg) = (1 : Int32) →
    vp_in (((8 : Int32) * f1) + x3) 128 ∧
    (¬ (σ.1 7 (((8 : Int32) * f1) + x3).toNatClampNeg) = 0 →
    J4 (0 : Int32)) ∧
    ((σ.1 7 (((8 : Int32) * f1) + x3).toNatClampNeg) = 0 →
    (¬ (((f2 - f2 / (256 : Int32) * (256 : Int32)) >>> (x3 &&& 31)) &&& (1 : Int32)) = 0 →
    J4 (0 : Int32)) ∧
    ((((f2 - f2 / (256 : Int32) * (256 : Int32)) >>> (x3 &&& 31)) &&& (1 : Int32)) = 0 →
    J4 (1 : Int32))))))

set_option maxHeartbeats 4000000 in
set_option maxRecDepth 100000 in
theorem twLX10_cutOne_2 {p : Program} {l : Launch} {e : Env} {s : State} {m : MethodId} {args : Array Value} {below : List Frame} {meth : Method} {c : Code} {D : va_G} {cy : Nat → ClassId} {ad : Nat → Nat} (X : XX p s m args meth c cX10_cutOne 7 D cy (wM ad cy) wsX10_cutOne RX10) (hr : meth.sig.returnType = none) (f1 : Int32) (f2 : Int32)   (K158 : St → Prop) {P : St → Prop} (hK158 : ∀ (σ : St), K158 σ → VV p l e rmX10_cutOne s m args below meth c (MQ below (va_Qv P (xPost D (wM ad cy)) (xA (wM ad cy))) args s 0 0 (xA (wM ad cy))) 7 D (wM ad cy) σ 158 [] []) : ∀ (n : Nat) (σ : St) (x3 : Int32), wLX10_cutOne_2 f1 f2 K158 P n σ x3 → VV p l e rmX10_cutOne s m args below meth c (MQ below (va_Qv P (xPost D (wM ad cy)) (xA (wM ad cy))) args s 0 0 (xA (wM ad cy))) 7 D (wM ad cy) σ 2 [(0, .ref (ad 0)), (1, .int f1), (2, .int f2), (3, .int x3)] [] := by
  intro n
  induction n with
  | zero => intro σ x3 h; exact h.elim
  | succ n ih =>
    intro σ x3 h
    rw [wLX10_cutOne_2] at h
    refine vv_iload_n (q := 3) X 3 dX10_cutOne_2 rfl rfl rfl ?_
    refine vv_aload_n (q := 4) X 0 dX10_cutOne_3 rfl rfl rfl ?_
    refine vv_getf (q := 7) (ref := "HalfLaddersModel") (C := RX10) (T := TX10) (N := 27) X 0 10 3 (Nat.le_of_ble_eq_true rfl) rfl rfl (Nat.le_of_ble_eq_true rfl) (fun _ h => List.mem_cons_of_mem _ (List.mem_append_right _ h)) (List.mem_of_getElem? (i := 1) rfl) rfl rfl dX10_cutOne_4 rfl ?_
    refine vv_iconst (q := 8) X (0 : Int32) dX10_cutOne_7 (by decide) rfl ?_
    obtain ⟨hin1, h⟩ := h
    refine vv_iald (q := 9) X 2 2 (Nat.le_of_ble_eq_true rfl) (fun _ => rfl) hin1 dX10_cutOne_8 rfl ?_
    refine vv_icmp_ge (q := 12) X 158 dX10_cutOne_9 (by decide) rfl (fun c2 => ?_) (fun c2 => ?_)
    · have h := h.1 c2
      refine vv_sub (lv' := []) [] rfl ?_
      exact hK158 σ h
    · have h := h.2 c2
      refine vv_aload_n (q := 13) X 0 dX10_cutOne_12 rfl rfl rfl ?_
      refine vv_getf (q := 16) (ref := "HalfLaddersModel") (C := RX10) (T := TX10) (N := 27) X 0 10 4 (Nat.le_of_ble_eq_true rfl) rfl rfl (Nat.le_of_ble_eq_true rfl) (fun _ h => List.mem_cons_of_mem _ (List.mem_append_right _ h)) (List.mem_of_getElem? (i := 2) rfl) rfl rfl dX10_cutOne_13 rfl ?_
      refine vv_iload_n (q := 17) X 3 dX10_cutOne_16 rfl rfl rfl ?_
      obtain ⟨hin3, h⟩ := h
      refine vv_iald (q := 18) X 3 16 (Nat.le_of_ble_eq_true rfl) (fun _ => rfl) hin3 dX10_cutOne_17 rfl ?_
      refine vv_iconst (q := 19) X (1 : Int32) dX10_cutOne_18 (by decide) rfl ?_
      obtain ⟨J4, hJ4, h⟩ := jn_el h
      have tJ4 : ∀ (v5 : Int32), J4 v5 → VV p l e rmX10_cutOne s m args below meth c (MQ below (va_Qv P (xPost D (wM ad cy)) (xA (wM ad cy))) args s 0 0 (xA (wM ad cy))) 7 D (wM ad cy) σ 53 [(0, .ref (ad 0)), (1, .int f1), (2, .int f2), (3, .int x3)] [.int v5] := by
        intro v5 h
        rw [hJ4] at h
        refine vv_istore (lv2 := [(4, .int v5), (0, .ref (ad 0)), (1, .int f1), (2, .int f2), (3, .int x3)]) (q := 55) X dX10_cutOne_53 (Nat.le_of_ble_eq_true rfl) rfl rfl ?_
        refine vv_aload_n (q := 56) X 1 dX10_cutOne_55 rfl rfl rfl ?_
        refine vv_getf (q := 59) (ref := "HalfLaddersModel") (C := RX10) (T := TX10) (N := 27) X 0 10 5 (Nat.le_of_ble_eq_true rfl) rfl rfl (Nat.le_of_ble_eq_true rfl) (fun _ h => List.mem_cons_of_mem _ (List.mem_append_right _ h)) (List.mem_of_getElem? (i := 4) rfl) rfl rfl dX10_cutOne_56 rfl ?_
        refine vv_iload_n (q := 60) X 2 dX10_cutOne_59 rfl rfl rfl ?_
        obtain ⟨hin6, h⟩ := h
        refine vv_iald (q := 61) X 4 16 (Nat.le_of_ble_eq_true rfl) (fun _ => rfl) hin6 dX10_cutOne_60 rfl ?_
        refine vv_aload_n (q := 62) X 1 dX10_cutOne_61 rfl rfl rfl ?_
        refine vv_getf (q := 65) (ref := "HalfLaddersModel") (C := RX10) (T := TX10) (N := 27) X 0 10 5 (Nat.le_of_ble_eq_true rfl) rfl rfl (Nat.le_of_ble_eq_true rfl) (fun _ h => List.mem_cons_of_mem _ (List.mem_append_right _ h)) (List.mem_of_getElem? (i := 4) rfl) rfl rfl dX10_cutOne_62 rfl ?_
        refine vv_iload_n (q := 66) X 4 dX10_cutOne_65 rfl rfl rfl ?_
        obtain ⟨hin7, h⟩ := h
        refine vv_iald (q := 67) X 4 16 (Nat.le_of_ble_eq_true rfl) (fun _ => rfl) hin7 dX10_cutOne_66 rfl ?_
        obtain ⟨J8, hJ8, h⟩ := jn_el h
        have tJ8 : ∀ (v9 : Int32), J8 v9 → VV p l e rmX10_cutOne s m args below meth c (MQ below (va_Qv P (xPost D (wM ad cy)) (xA (wM ad cy))) args s 0 0 (xA (wM ad cy))) 7 D (wM ad cy) σ 99 [(0, .ref (ad 0)), (1, .int f1), (2, .int f2), (3, .int x3), (4, .int v5)] [.int v9] := by
          intro v9 h
          rw [hJ8] at h
          refine vv_istore (lv2 := [(5, .int v9), (0, .ref (ad 0)), (1, .int f1), (2, .int f2), (3, .int x3), (4, .int v5)]) (q := 101) X dX10_cutOne_99 (Nat.le_of_ble_eq_true rfl) rfl rfl ?_
          refine vv_iload_n (q := 102) X 3 dX10_cutOne_101 rfl rfl rfl ?_
          refine vv_sipush (q := 105) X (256 : Int32) dX10_cutOne_102 (by decide) rfl ?_
          refine vv_iadd (q := 106) X dX10_cutOne_105 rfl ?_
          refine vv_iconst (q := 107) X (1 : Int32) dX10_cutOne_106 (by decide) rfl ?_
          refine vv_iload_n (q := 108) X 4 dX10_cutOne_107 rfl rfl rfl ?_
          refine vv_ishl (q := 109) X dX10_cutOne_108 rfl ?_
          refine vv_iadd (q := 110) X dX10_cutOne_109 rfl ?_
          refine vv_topi (fun z10 hz10 => ?_)
          have h := h z10 hz10
          refine vv_istore (lv2 := [(6, .int z10), (5, .int v9), (0, .ref (ad 0)), (1, .int f1), (2, .int f2), (3, .int x3), (4, .int v5)]) (q := 112) X dX10_cutOne_110 (Nat.le_of_ble_eq_true rfl) rfl rfl ?_
          refine vv_iload (q := 114) X 6 dX10_cutOne_112 rfl rfl ?_
          refine vv_if_eq (q := 117) X 152 dX10_cutOne_114 (by decide) rfl (fun c11 => ?_) (fun c11 => ?_)
          · have h := h.1 c11
            obtain ⟨z12, hz12⟩ : ∃ y : Int32, y = x3 + (1 : Int32) := ⟨_, rfl⟩
            have h := h z12 hz12
            refine vv_iinc (v := z12) (lv2 := [(3, .int z12), (6, .int z10), (5, .int v9), (0, .ref (ad 0)), (1, .int f1), (2, .int f2), (4, .int v5)]) (q := 155) X 5 dX10_cutOne_152 rfl (by rw [hz12]; rfl) (Nat.le_of_ble_eq_true rfl) rfl rfl ?_
            refine vv_goto X 2 dX10_cutOne_155 (by decide) ?_
            refine vv_sub (lv' := [(0, .ref (ad 0)), (1, .int f1), (2, .int f2), (3, .int z12)]) [3, 4, 5, 0] rfl ?_
            exact ih σ z12 h
          · have h := h.2 c11
            refine vv_aload_n (q := 118) X 2 dX10_cutOne_117 rfl rfl rfl ?_
            refine vv_getf (q := 121) (ref := "HalfLaddersModel") (C := RX10) (T := TX10) (N := 27) X 0 10 25 (Nat.le_of_ble_eq_true rfl) rfl rfl (Nat.le_of_ble_eq_true rfl) (fun _ h => List.mem_cons_of_mem _ (List.mem_append_right _ h)) (List.mem_of_getElem? (i := 5) rfl) rfl rfl dX10_cutOne_118 rfl ?_
            refine vv_iload_n (q := 122) X 4 dX10_cutOne_121 rfl rfl rfl ?_
            obtain ⟨hin13, h⟩ := h
            refine vv_iald (q := 123) X 19 1280 (Nat.le_of_ble_eq_true rfl) (fun _ => rfl) hin13 dX10_cutOne_122 rfl ?_
            refine vv_iload (q := 125) X 1 dX10_cutOne_123 rfl rfl ?_
            refine vv_iadd (q := 126) X dX10_cutOne_125 rfl ?_
            refine vv_aload_n (q := 127) X 2 dX10_cutOne_126 rfl rfl rfl ?_
            refine vv_getf (q := 130) (ref := "HalfLaddersModel") (C := RX10) (T := TX10) (N := 27) X 0 10 26 (Nat.le_of_ble_eq_true rfl) rfl rfl (Nat.le_of_ble_eq_true rfl) (fun _ h => List.mem_cons_of_mem _ (List.mem_append_right _ h)) (List.mem_of_getElem? (i := 6) rfl) rfl rfl dX10_cutOne_127 rfl ?_
            refine vv_iload (q := 132) X 0 dX10_cutOne_130 rfl rfl ?_
            obtain ⟨hin14, h⟩ := h
            refine vv_iald (q := 133) X 20 1280 (Nat.le_of_ble_eq_true rfl) (fun _ => rfl) hin14 dX10_cutOne_132 rfl ?_
            refine vv_icmp_ge (q := 136) X 152 dX10_cutOne_133 (by decide) rfl (fun c15 => ?_) (fun c15 => ?_)
            · have h := h.1 c15
              obtain ⟨z16, hz16⟩ : ∃ y : Int32, y = x3 + (1 : Int32) := ⟨_, rfl⟩
              have h := h z16 hz16
              refine vv_iinc (v := z16) (lv2 := [(3, .int z16), (6, .int z10), (5, .int v9), (0, .ref (ad 0)), (1, .int f1), (2, .int f2), (4, .int v5)]) (q := 155) X 5 dX10_cutOne_152 rfl (by rw [hz16]; rfl) (Nat.le_of_ble_eq_true rfl) rfl rfl ?_
              refine vv_goto X 2 dX10_cutOne_155 (by decide) ?_
              refine vv_sub (lv' := [(0, .ref (ad 0)), (1, .int f1), (2, .int f2), (3, .int z16)]) [3, 4, 5, 0] rfl ?_
              exact ih σ z16 h
            · have h := h.2 c15
              refine vv_aload_n (q := 137) X 2 dX10_cutOne_136 rfl rfl rfl ?_
              refine vv_getf (q := 140) (ref := "HalfLaddersModel") (C := RX10) (T := TX10) (N := 27) X 0 10 26 (Nat.le_of_ble_eq_true rfl) rfl rfl (Nat.le_of_ble_eq_true rfl) (fun _ h => List.mem_cons_of_mem _ (List.mem_append_right _ h)) (List.mem_of_getElem? (i := 6) rfl) rfl rfl dX10_cutOne_137 rfl ?_
              refine vv_iload (q := 142) X 0 dX10_cutOne_140 rfl rfl ?_
              refine vv_aload_n (q := 143) X 2 dX10_cutOne_142 rfl rfl rfl ?_
              refine vv_getf (q := 146) (ref := "HalfLaddersModel") (C := RX10) (T := TX10) (N := 27) X 0 10 25 (Nat.le_of_ble_eq_true rfl) rfl rfl (Nat.le_of_ble_eq_true rfl) (fun _ h => List.mem_cons_of_mem _ (List.mem_append_right _ h)) (List.mem_of_getElem? (i := 5) rfl) rfl rfl dX10_cutOne_143 rfl ?_
              refine vv_iload_n (q := 147) X 4 dX10_cutOne_146 rfl rfl rfl ?_
              obtain ⟨hin17, h⟩ := h
              refine vv_iald (q := 148) X 19 1280 (Nat.le_of_ble_eq_true rfl) (fun _ => rfl) hin17 dX10_cutOne_147 rfl ?_
              refine vv_iload (q := 150) X 1 dX10_cutOne_148 rfl rfl ?_
              refine vv_iadd (q := 151) X dX10_cutOne_150 rfl ?_
              obtain ⟨hin18, h⟩ := h
              refine vv_iast (q := 152) X 20 1280 (Nat.le_of_ble_eq_true rfl) (fun _ => rfl) hin18 dX10_cutOne_151 rfl ?_
              refine vv_nm (fun σ19 hσ19 => ?_)
              have h := h σ19 hσ19
              obtain ⟨z20, hz20⟩ : ∃ y : Int32, y = x3 + (1 : Int32) := ⟨_, rfl⟩
              have h := h z20 hz20
              refine vv_iinc (v := z20) (lv2 := [(3, .int z20), (6, .int z10), (5, .int v9), (0, .ref (ad 0)), (1, .int f1), (2, .int f2), (4, .int v5)]) (q := 155) X 5 dX10_cutOne_152 rfl (by rw [hz20]; rfl) (Nat.le_of_ble_eq_true rfl) rfl rfl ?_
              refine vv_goto X 2 dX10_cutOne_155 (by decide) ?_
              refine vv_sub (lv' := [(0, .ref (ad 0)), (1, .int f1), (2, .int f2), (3, .int z20)]) [3, 4, 5, 0] rfl ?_
              exact ih σ19 z20 h
        refine vv_icmp_ge (q := 70) X 86 dX10_cutOne_67 (by decide) rfl (fun c21 => ?_) (fun c21 => ?_)
        · have h := h.1 c21
          refine vv_aload_n (q := 87) X 1 dX10_cutOne_86 rfl rfl rfl ?_
          refine vv_getf (q := 90) (ref := "HalfLaddersModel") (C := RX10) (T := TX10) (N := 27) X 0 10 5 (Nat.le_of_ble_eq_true rfl) rfl rfl (Nat.le_of_ble_eq_true rfl) (fun _ h => List.mem_cons_of_mem _ (List.mem_append_right _ h)) (List.mem_of_getElem? (i := 4) rfl) rfl rfl dX10_cutOne_87 rfl ?_
          refine vv_iload_n (q := 91) X 2 dX10_cutOne_90 rfl rfl rfl ?_
          obtain ⟨hin22, h⟩ := h
          refine vv_iald (q := 92) X 4 16 (Nat.le_of_ble_eq_true rfl) (fun _ => rfl) hin22 dX10_cutOne_91 rfl ?_
          refine vv_aload_n (q := 93) X 1 dX10_cutOne_92 rfl rfl rfl ?_
          refine vv_getf (q := 96) (ref := "HalfLaddersModel") (C := RX10) (T := TX10) (N := 27) X 0 10 5 (Nat.le_of_ble_eq_true rfl) rfl rfl (Nat.le_of_ble_eq_true rfl) (fun _ h => List.mem_cons_of_mem _ (List.mem_append_right _ h)) (List.mem_of_getElem? (i := 4) rfl) rfl rfl dX10_cutOne_93 rfl ?_
          refine vv_iload_n (q := 97) X 4 dX10_cutOne_96 rfl rfl rfl ?_
          obtain ⟨hin23, h⟩ := h
          refine vv_iald (q := 98) X 4 16 (Nat.le_of_ble_eq_true rfl) (fun _ => rfl) hin23 dX10_cutOne_97 rfl ?_
          refine vv_isub (q := 99) X dX10_cutOne_98 rfl ?_
          refine vv_sub (lv' := [(0, .ref (ad 0)), (1, .int f1), (2, .int f2), (3, .int x3), (4, .int v5)]) [1, 2, 3, 4, 0] rfl ?_
          exact tJ8 ((σ.1 4 f1.toNatClampNeg) - (σ.1 4 x3.toNatClampNeg)) h
        · have h := h.2 c21
          refine vv_aload_n (q := 71) X 1 dX10_cutOne_70 rfl rfl rfl ?_
          refine vv_getf (q := 74) (ref := "HalfLaddersModel") (C := RX10) (T := TX10) (N := 27) X 0 10 5 (Nat.le_of_ble_eq_true rfl) rfl rfl (Nat.le_of_ble_eq_true rfl) (fun _ h => List.mem_cons_of_mem _ (List.mem_append_right _ h)) (List.mem_of_getElem? (i := 4) rfl) rfl rfl dX10_cutOne_71 rfl ?_
          refine vv_iload_n (q := 75) X 4 dX10_cutOne_74 rfl rfl rfl ?_
          obtain ⟨hin24, h⟩ := h
          refine vv_iald (q := 76) X 4 16 (Nat.le_of_ble_eq_true rfl) (fun _ => rfl) hin24 dX10_cutOne_75 rfl ?_
          refine vv_aload_n (q := 77) X 1 dX10_cutOne_76 rfl rfl rfl ?_
          refine vv_getf (q := 80) (ref := "HalfLaddersModel") (C := RX10) (T := TX10) (N := 27) X 0 10 5 (Nat.le_of_ble_eq_true rfl) rfl rfl (Nat.le_of_ble_eq_true rfl) (fun _ h => List.mem_cons_of_mem _ (List.mem_append_right _ h)) (List.mem_of_getElem? (i := 4) rfl) rfl rfl dX10_cutOne_77 rfl ?_
          refine vv_iload_n (q := 81) X 2 dX10_cutOne_80 rfl rfl rfl ?_
          obtain ⟨hin25, h⟩ := h
          refine vv_iald (q := 82) X 4 16 (Nat.le_of_ble_eq_true rfl) (fun _ => rfl) hin25 dX10_cutOne_81 rfl ?_
          refine vv_isub (q := 83) X dX10_cutOne_82 rfl ?_
          refine vv_goto X 99 dX10_cutOne_83 (by decide) ?_
          refine vv_sub (lv' := [(0, .ref (ad 0)), (1, .int f1), (2, .int f2), (3, .int x3), (4, .int v5)]) [1, 2, 3, 4, 0] rfl ?_
          exact tJ8 ((σ.1 4 x3.toNatClampNeg) - (σ.1 4 f1.toNatClampNeg)) h
      refine vv_icmp_ne (q := 22) X 52 dX10_cutOne_19 (by decide) rfl (fun c26 => ?_) (fun c26 => ?_)
      · have h := h.1 c26
        refine vv_iconst (q := 53) X (0 : Int32) dX10_cutOne_52 (by decide) rfl ?_
        exact tJ4 (0 : Int32) h
      · have h := h.2 c26
        refine vv_aload_n (q := 23) X 0 dX10_cutOne_22 rfl rfl rfl ?_
        refine vv_getf (q := 26) (ref := "HalfLaddersModel") (C := RX10) (T := TX10) (N := 27) X 0 10 8 (Nat.le_of_ble_eq_true rfl) rfl rfl (Nat.le_of_ble_eq_true rfl) (fun _ h => List.mem_cons_of_mem _ (List.mem_append_right _ h)) (List.mem_of_getElem? (i := 3) rfl) rfl rfl dX10_cutOne_23 rfl ?_
        refine vv_bipush (q := 28) X (8 : Int32) dX10_cutOne_26 (by decide) rfl ?_
        refine vv_iload_n (q := 29) X 1 dX10_cutOne_28 rfl rfl rfl ?_
        refine vv_imul (q := 30) X dX10_cutOne_29 rfl ?_
        refine vv_iload_n (q := 31) X 3 dX10_cutOne_30 rfl rfl rfl ?_
        refine vv_iadd (q := 32) X dX10_cutOne_31 rfl ?_
        obtain ⟨hin27, h⟩ := h
        refine vv_zald (q := 33) X 7 128 (Nat.le_of_ble_eq_true rfl) (fun _ => rfl) hin27 dX10_cutOne_32 rfl ?_
        refine vv_if_ne (q := 36) X 52 dX10_cutOne_33 (by decide) rfl (fun c28 => ?_) (fun c28 => ?_)
        · have h := h.1 c28
          refine vv_iconst (q := 53) X (0 : Int32) dX10_cutOne_52 (by decide) rfl ?_
          exact tJ4 (0 : Int32) h
        · have h := h.2 c28
          refine vv_iload_n (q := 37) X 2 dX10_cutOne_36 rfl rfl rfl ?_
          refine vv_sipush (q := 40) X (256 : Int32) dX10_cutOne_37 (by decide) rfl ?_
          refine vv_irem (q := 41) X dX10_cutOne_40 (by decide) rfl ?_
          refine vv_iload_n (q := 42) X 3 dX10_cutOne_41 rfl rfl rfl ?_
          refine vv_ishr (q := 43) X dX10_cutOne_42 rfl ?_
          refine vv_iconst (q := 44) X (1 : Int32) dX10_cutOne_43 (by decide) rfl ?_
          refine vv_iand (q := 45) X dX10_cutOne_44 rfl ?_
          refine vv_if_ne (q := 48) X 52 dX10_cutOne_45 (by decide) rfl (fun c29 => ?_) (fun c29 => ?_)
          · have h := h.1 c29
            refine vv_iconst (q := 53) X (0 : Int32) dX10_cutOne_52 (by decide) rfl ?_
            exact tJ4 (0 : Int32) h
          · have h := h.2 c29
            refine vv_iconst (q := 49) X (1 : Int32) dX10_cutOne_48 (by decide) rfl ?_
            refine vv_goto X 53 dX10_cutOne_49 (by decide) ?_
            exact tJ4 (1 : Int32) h

def wX10_cutOne (σ : St) (a1 : Int32) (a2 : Int32) (P : St → Prop) : Prop :=
∃ n31 : Nat, wLX10_cutOne_2 a1 a2 (fun (σ30 : St) =>
P σ30) P n31 σ (0 : Int32)

set_option maxHeartbeats 8000000 in
set_option maxRecDepth 100000 in
theorem kX10_cutOne (l : Launch) (D : va_G) {cy : Nat → ClassId} {ad : Nat → Nat} (hw : xOk (wM ad cy)) {σ : St} {a1 : Int32} {a2 : Int32} {P : St → Prop} (h : wX10_cutOne σ a1 a2 P) : MV l yX10_cutOne wsX10_cutOne rmX10_cutOne D cy (wM ad cy) [.ref (ad 0), .int a1, .int a2] σ P := by
  unfold MV
  refine vv_met (cc := cX10_cutOne) (maxL := 7) (ret := none) hw (by decide +kernel) rfl [.ref (ad 0), .int a1, .int a2] (Nat.le_of_ble_eq_true rfl) ?_
  intro p e s m args below meth c X hr
  have X : XX p s m args meth c cX10_cutOne 7 D cy (wM ad cy) wsX10_cutOne RX10 := X
  refine vv_sub (lv' := [(0, .ref (ad 0)), (1, .int a1), (2, .int a2)]) [0, 1, 2] rfl ?_
  rw [wX10_cutOne] at h
  refine vv_iconst (q := 1) X (0 : Int32) dX10_cutOne_0 (by decide) rfl ?_
  refine vv_istore_n (lv2 := [(3, .int (0 : Int32)), (0, .ref (ad 0)), (1, .int a1), (2, .int a2)]) (q := 2) X dX10_cutOne_1 rfl (Nat.le_of_ble_eq_true rfl) rfl rfl ?_
  obtain ⟨n31, h⟩ := h
  refine vv_sub (lv' := [(0, .ref (ad 0)), (1, .int a1), (2, .int a2), (3, .int (0 : Int32))]) [1, 2, 3, 0] rfl ?_
  refine twLX10_cutOne_2 X hr a1 a2  _ ?_ n31 σ (0 : Int32) h
  intro σ30 h
  exact vv_vret X hr dX10_cutOne_158 h

