/-! X10_findBest: findBest(I)V -/
def rmX10_findBest : Room := { frames := 3, cells := 0, slots := 0, locals := 73 }
def wLX10_findBest_48 (f1 : Int32) (f2 : Int32) (f3 : Int32) (σ : St) (K148 : Int32 → Prop) (P : St → Prop) : Nat → Int32 → Int32 → Prop
  | 0, _, _ => False
  | n + 1, x4, x5 =>
    ((78 : Int32) ≤ x5 →
    K148 x4) ∧
    (¬ (78 : Int32) ≤ x5 →
    vp_in (0 : Int32) 2 ∧
    ((σ.1 8 (0 : Int32).toNatClampNeg) ≤ f2 →
    K148 x4) ∧
    (¬ (σ.1 8 (0 : Int32).toNatClampNeg) ≤ f2 →
    wX10_mayPair σ f1 x5 f2 f3 (fun r9 : Int32 =>
    (r9 = 0 →
    ∀ z11 : Int32, z11 = x5 + (1 : Int32) →
    wLX10_findBest_48 f1 f2 f3 σ K148 P n x4 z11) ∧
    (¬ r9 = 0 →
    wX10_leftOf σ x5 (fun r12 : Int32 =>
    wX10_picks σ f1 r12 (x5 - x5 / (10 : Int32) * (10 : Int32)) f2 (fun r13 : Int32 =>
    wX10_leftOf σ x5 (fun r14 : Int32 =>
    vp_in (((256 : Int32) * (f2 + (1 : Int32))) + ((f3 ||| ((1 : Int32) <<< (r14 &&& 31))) ||| ((1 : Int32) <<< ((x5 - x5 / (10 : Int32) * (10 : Int32)) &&& 31)))) 1536 ∧
    ∀ z16 : Int32, z16 = (r13 + (σ.1 14 (((256 : Int32) * (f2 + (1 : Int32))) + ((f3 ||| ((1 : Int32) <<< (r14 &&& 31))) ||| ((1 : Int32) <<< ((x5 - x5 / (10 : Int32) * (10 : Int32)) &&& 31)))).toNatClampNeg)) →
    (z16 ≤ x4 →
    ∀ z18 : Int32, z18 = x5 + (1 : Int32) →
    wLX10_findBest_48 f1 f2 f3 σ K148 P n x4 z18) ∧
    (¬ z16 ≤ x4 →
    ∀ z19 : Int32, z19 = x5 + (1 : Int32) →
    wLX10_findBest_48 f1 f2 f3 σ K148 P n z16 z19))))))))

set_option maxHeartbeats 4000000 in
set_option maxRecDepth 100000 in
theorem twLX10_findBest_48 {p : Program} {l : Launch} {e : Env} {s : State} {m : MethodId} {args : Array Value} {below : List Frame} {meth : Method} {c : Code} {D : va_G} {cy : Nat → ClassId} {ad : Nat → Nat} (X : XX p s m args meth c cX10_findBest 7 D cy (wM ad cy) wsX10_findBest RX10) (hr : meth.sig.returnType = none) (f1 : Int32) (f2 : Int32) (f3 : Int32)  (σ : St) (K148 : Int32 → Prop) {P : St → Prop} (hK148 : ∀ (x4 : Int32), K148 x4 → VV p l e rmX10_findBest s m args below meth c (MQ below (va_Qv P (xPost D (wM ad cy)) (xA (wM ad cy))) args s 0 0 (xA (wM ad cy))) 7 D (wM ad cy) σ 148 [(0, .ref (ad 0)), (1, .int f1), (2, .int f2), (3, .int f3), (4, .int x4)] []) : ∀ (n : Nat) (x4 : Int32) (x5 : Int32), wLX10_findBest_48 f1 f2 f3 σ K148 P n x4 x5 → VV p l e rmX10_findBest s m args below meth c (MQ below (va_Qv P (xPost D (wM ad cy)) (xA (wM ad cy))) args s 0 0 (xA (wM ad cy))) 7 D (wM ad cy) σ 48 [(0, .ref (ad 0)), (1, .int f1), (2, .int f2), (3, .int f3), (4, .int x4), (5, .int x5)] [] := by
  intro n
  induction n with
  | zero => intro x4 x5 h; exact h.elim
  | succ n ih =>
    intro x4 x5 h
    rw [wLX10_findBest_48] at h
    refine vv_iload (q := 50) X 5 dX10_findBest_48 rfl rfl ?_
    refine vv_bipush (q := 52) X (78 : Int32) dX10_findBest_50 (by decide) rfl ?_
    refine vv_icmp_ge (q := 55) X 148 dX10_findBest_52 (by decide) rfl (fun c6 => ?_) (fun c6 => ?_)
    · have h := h.1 c6
      refine vv_sub (lv' := [(0, .ref (ad 0)), (1, .int f1), (2, .int f2), (3, .int f3), (4, .int x4)]) [0, 1, 2, 3, 4] rfl ?_
      exact hK148 x4 h
    · have h := h.2 c6
      refine vv_iload_n (q := 56) X 2 dX10_findBest_55 rfl rfl rfl ?_
      refine vv_aload_n (q := 57) X 0 dX10_findBest_56 rfl rfl rfl ?_
      refine vv_getf (q := 60) (ref := "HalfLaddersModel") (C := RX10) (T := TX10) (N := 27) X 0 10 9 (Nat.le_of_ble_eq_true rfl) rfl rfl (Nat.le_of_ble_eq_true rfl) (fun _ h => List.mem_cons_of_mem _ (List.mem_append_right _ h)) (List.mem_of_getElem? (i := 1) rfl) rfl rfl dX10_findBest_57 rfl ?_
      refine vv_iconst (q := 61) X (0 : Int32) dX10_findBest_60 (by decide) rfl ?_
      obtain ⟨hin7, h⟩ := h
      refine vv_iald (q := 62) X 8 2 (Nat.le_of_ble_eq_true rfl) (fun _ => rfl) hin7 dX10_findBest_61 rfl ?_
      refine vv_icmp_ge (q := 65) X 148 dX10_findBest_62 (by decide) rfl (fun c8 => ?_) (fun c8 => ?_)
      · have h := h.1 c8
        refine vv_sub (lv' := [(0, .ref (ad 0)), (1, .int f1), (2, .int f2), (3, .int f3), (4, .int x4)]) [0, 1, 2, 3, 4] rfl ?_
        exact hK148 x4 h
      · have h := h.2 c8
        refine vv_aload_n (q := 66) X 0 dX10_findBest_65 rfl rfl rfl ?_
        refine vv_iload_n (q := 67) X 1 dX10_findBest_66 rfl rfl rfl ?_
        refine vv_iload (q := 69) X 5 dX10_findBest_67 rfl rfl ?_
        refine vv_iload_n (q := 70) X 2 dX10_findBest_69 rfl rfl rfl ?_
        refine vv_iload_n (q := 71) X 3 dX10_findBest_70 rfl rfl rfl ?_
        refine vv_cVi (q := 74) (C := RX10) X 0 10 [.int f1, .int x5, .int f2, .int f3] (kX10_mayPair l D X.2.2.1 h) (cwV 4 X.1.2.2.2.2 gX10_findBest_X10_mayPair rfl rfl rfl (by decide +kernel) ⟨Nat.le_of_ble_eq_true rfl, Nat.le_of_ble_eq_true rfl⟩) (Nat.le_of_ble_eq_true rfl) rfl rfl rfl rfl (Nat.le_of_ble_eq_true rfl) dX10_findBest_71 rfl (fun r9 u9 h9 => ?_)
        obtain ⟨h9, hu9⟩ := h9
        subst u9
        have h := h9
        refine vv_if_eq (q := 77) X 142 dX10_findBest_74 (by decide) rfl (fun c10 => ?_) (fun c10 => ?_)
        · have h := h.1 c10
          obtain ⟨z11, hz11⟩ : ∃ y : Int32, y = x5 + (1 : Int32) := ⟨_, rfl⟩
          have h := h z11 hz11
          refine vv_iinc (v := z11) (lv2 := [(5, .int z11), (0, .ref (ad 0)), (1, .int f1), (2, .int f2), (3, .int f3), (4, .int x4)]) (q := 145) X 5 dX10_findBest_142 rfl (by rw [hz11]; rfl) (Nat.le_of_ble_eq_true rfl) rfl rfl ?_
          refine vv_goto X 48 dX10_findBest_145 (by decide) ?_
          refine vv_sub (lv' := [(0, .ref (ad 0)), (1, .int f1), (2, .int f2), (3, .int f3), (4, .int x4), (5, .int z11)]) [1, 2, 3, 4, 5, 0] rfl ?_
          exact ih x4 z11 h
        · have h := h.2 c10
          refine vv_aload_n (q := 78) X 0 dX10_findBest_77 rfl rfl rfl ?_
          refine vv_iload_n (q := 79) X 1 dX10_findBest_78 rfl rfl rfl ?_
          refine vv_iload (q := 81) X 5 dX10_findBest_79 rfl rfl ?_
          refine vv_cSi (q := 84) X [.int x5] (kX10_leftOf l D X.2.2.1 h) (va_cwS 1 X.1.2.2.2.2 gX10_findBest_X10_leftOf rfl rfl rfl (by decide +kernel) ⟨Nat.le_of_ble_eq_true rfl, Nat.le_of_ble_eq_true rfl⟩) rfl rfl (Nat.le_of_ble_eq_true rfl) dX10_findBest_81 rfl (fun r12 u9 h9 => ?_)
          obtain ⟨h9, hu9⟩ := h9
          subst u9
          have h := h9
          refine vv_iload (q := 86) X 5 dX10_findBest_84 rfl rfl ?_
          refine vv_bipush (q := 88) X (10 : Int32) dX10_findBest_86 (by decide) rfl ?_
          refine vv_irem (q := 89) X dX10_findBest_88 (by decide) rfl ?_
          refine vv_iload_n (q := 90) X 2 dX10_findBest_89 rfl rfl rfl ?_
          refine vv_cVi (q := 93) (C := RX10) X 0 10 [.int f1, .int r12, .int (x5 - x5 / (10 : Int32) * (10 : Int32)), .int f2] (kX10_picks l D X.2.2.1 h) (cwV 4 X.1.2.2.2.2 gX10_findBest_X10_picks rfl rfl rfl (by decide +kernel) ⟨Nat.le_of_ble_eq_true rfl, Nat.le_of_ble_eq_true rfl⟩) (Nat.le_of_ble_eq_true rfl) rfl rfl rfl rfl (Nat.le_of_ble_eq_true rfl) dX10_findBest_90 rfl (fun r13 u9 h9 => ?_)
          obtain ⟨h9, hu9⟩ := h9
          subst u9
          have h := h9
          refine vv_aload_n (q := 94) X 0 dX10_findBest_93 rfl rfl rfl ?_
          refine vv_getf (q := 97) (ref := "HalfLaddersModel") (C := RX10) (T := TX10) (N := 27) X 0 10 20 (Nat.le_of_ble_eq_true rfl) rfl rfl (Nat.le_of_ble_eq_true rfl) (fun _ h => List.mem_cons_of_mem _ (List.mem_append_right _ h)) (List.mem_of_getElem? (i := 2) rfl) rfl rfl dX10_findBest_94 rfl ?_
          refine vv_sipush (q := 100) X (256 : Int32) dX10_findBest_97 (by decide) rfl ?_
          refine vv_iload_n (q := 101) X 2 dX10_findBest_100 rfl rfl rfl ?_
          refine vv_iconst (q := 102) X (1 : Int32) dX10_findBest_101 (by decide) rfl ?_
          refine vv_iadd (q := 103) X dX10_findBest_102 rfl ?_
          refine vv_imul (q := 104) X dX10_findBest_103 rfl ?_
          refine vv_iload_n (q := 105) X 3 dX10_findBest_104 rfl rfl rfl ?_
          refine vv_iconst (q := 106) X (1 : Int32) dX10_findBest_105 (by decide) rfl ?_
          refine vv_iload (q := 108) X 5 dX10_findBest_106 rfl rfl ?_
          refine vv_cSi (q := 111) X [.int x5] (kX10_leftOf l D X.2.2.1 h) (va_cwS 1 X.1.2.2.2.2 gX10_findBest_X10_leftOf rfl rfl rfl (by decide +kernel) ⟨Nat.le_of_ble_eq_true rfl, Nat.le_of_ble_eq_true rfl⟩) rfl rfl (Nat.le_of_ble_eq_true rfl) dX10_findBest_108 rfl (fun r14 u9 h9 => ?_)
          obtain ⟨h9, hu9⟩ := h9
          subst u9
          have h := h9
          refine vv_ishl (q := 112) X dX10_findBest_111 rfl ?_
          refine vv_ior (q := 113) X dX10_findBest_112 rfl ?_
          refine vv_iconst (q := 114) X (1 : Int32) dX10_findBest_113 (by decide) rfl ?_
          refine vv_iload (q := 116) X 5 dX10_findBest_114 rfl rfl ?_
          refine vv_bipush (q := 118) X (10 : Int32) dX10_findBest_116 (by decide) rfl ?_
          refine vv_irem (q := 119) X dX10_findBest_118 (by decide) rfl ?_
          refine vv_ishl (q := 120) X dX10_findBest_119 rfl ?_
          refine vv_ior (q := 121) X dX10_findBest_120 rfl ?_
          refine vv_iadd (q := 122) X dX10_findBest_121 rfl ?_
          obtain ⟨hin15, h⟩ := h
          refine vv_iald (q := 123) X 14 1536 (Nat.le_of_ble_eq_true rfl) (fun _ => rfl) hin15 dX10_findBest_122 rfl ?_
          refine vv_iadd (q := 124) X dX10_findBest_123 rfl ?_
          refine vv_topi (fun z16 hz16 => ?_)
          have h := h z16 hz16
          refine vv_istore (lv2 := [(6, .int z16), (0, .ref (ad 0)), (1, .int f1), (2, .int f2), (3, .int f3), (4, .int x4), (5, .int x5)]) (q := 126) X dX10_findBest_124 (Nat.le_of_ble_eq_true rfl) rfl rfl ?_
          refine vv_iload (q := 128) X 0 dX10_findBest_126 rfl rfl ?_
          refine vv_iload (q := 130) X 5 dX10_findBest_128 rfl rfl ?_
          refine vv_icmp_le (q := 133) X 138 dX10_findBest_130 (by decide) rfl (fun c17 => ?_) (fun c17 => ?_)
          · have h := h.1 c17
            refine vv_iload (q := 140) X 5 dX10_findBest_138 rfl rfl ?_
            refine vv_istore (lv2 := [(4, .int x4), (6, .int z16), (0, .ref (ad 0)), (1, .int f1), (2, .int f2), (3, .int f3), (5, .int x5)]) (q := 142) X dX10_findBest_140 (Nat.le_of_ble_eq_true rfl) rfl rfl ?_
            obtain ⟨z18, hz18⟩ : ∃ y : Int32, y = x5 + (1 : Int32) := ⟨_, rfl⟩
            have h := h z18 hz18
            refine vv_iinc (v := z18) (lv2 := [(5, .int z18), (4, .int x4), (6, .int z16), (0, .ref (ad 0)), (1, .int f1), (2, .int f2), (3, .int f3)]) (q := 145) X 6 dX10_findBest_142 rfl (by rw [hz18]; rfl) (Nat.le_of_ble_eq_true rfl) rfl rfl ?_
            refine vv_goto X 48 dX10_findBest_145 (by decide) ?_
            refine vv_sub (lv' := [(0, .ref (ad 0)), (1, .int f1), (2, .int f2), (3, .int f3), (4, .int x4), (5, .int z18)]) [3, 4, 5, 6, 1, 0] rfl ?_
            exact ih x4 z18 h
          · have h := h.2 c17
            refine vv_iload (q := 135) X 0 dX10_findBest_133 rfl rfl ?_
            refine vv_goto X 140 dX10_findBest_135 (by decide) ?_
            refine vv_istore (lv2 := [(4, .int z16), (6, .int z16), (0, .ref (ad 0)), (1, .int f1), (2, .int f2), (3, .int f3), (5, .int x5)]) (q := 142) X dX10_findBest_140 (Nat.le_of_ble_eq_true rfl) rfl rfl ?_
            obtain ⟨z19, hz19⟩ : ∃ y : Int32, y = x5 + (1 : Int32) := ⟨_, rfl⟩
            have h := h z19 hz19
            refine vv_iinc (v := z19) (lv2 := [(5, .int z19), (4, .int z16), (6, .int z16), (0, .ref (ad 0)), (1, .int f1), (2, .int f2), (3, .int f3)]) (q := 145) X 6 dX10_findBest_142 rfl (by rw [hz19]; rfl) (Nat.le_of_ble_eq_true rfl) rfl rfl ?_
            refine vv_goto X 48 dX10_findBest_145 (by decide) ?_
            refine vv_sub (lv' := [(0, .ref (ad 0)), (1, .int f1), (2, .int f2), (3, .int f3), (4, .int z16), (5, .int z19)]) [3, 4, 5, 6, 1, 0] rfl ?_
            exact ih z16 z19 h

def wLX10_findBest_8 (f1 : Int32) (f2 : Int32)  (K168 : St → Prop) (P : St → Prop) : Nat → St → Int32 → Prop
  | 0, _, _ => False
  | n + 1, σ, x3 =>
    ((256 : Int32) ≤ x3 →
    K168 σ) ∧
    (¬ (256 : Int32) ≤ x3 →
    vp_in (0 : Int32) 2 ∧
    jn (fun (v5 : Int32) =>
    ∃ n24 : Nat, wLX10_findBest_48 f1 f2 x3 σ (fun (y20 : Int32) =>
    vp_in (((256 : Int32) * f2) + x3) 1536 ∧
    ∀ σ22 : St, σ22 = sI σ 14 (((256 : Int32) * f2) + x3).toNatClampNeg y20 →
    ∀ z23 : Int32, z23 = x3 + (1 : Int32) →
    wLX10_findBest_8 f1 f2 K168 P n σ22 z23) P n24 v5 (0 : Int32)) (fun J4 : Int32 → Prop =>
    (f2 < (σ.1 8 (0 : Int32).toNatClampNeg) →
    vp_in (((256 : Int32) * (f2 + (1 : Int32))) + x3) 1536 ∧
    J4 (σ.1 14 (((256 : Int32) * (f2 + (1 : Int32))) + x3).toNatClampNeg)) ∧
    (¬ f2 < (σ.1 8 (0 : Int32).toNatClampNeg) →
    J4 (0 : Int32))))

set_option maxHeartbeats 4000000 in
set_option maxRecDepth 100000 in
theorem twLX10_findBest_8 {p : Program} {l : Launch} {e : Env} {s : State} {m : MethodId} {args : Array Value} {below : List Frame} {meth : Method} {c : Code} {D : va_G} {cy : Nat → ClassId} {ad : Nat → Nat} (X : XX p s m args meth c cX10_findBest 7 D cy (wM ad cy) wsX10_findBest RX10) (hr : meth.sig.returnType = none) (f1 : Int32) (f2 : Int32)   (K168 : St → Prop) {P : St → Prop} (hK168 : ∀ (σ : St), K168 σ → VV p l e rmX10_findBest s m args below meth c (MQ below (va_Qv P (xPost D (wM ad cy)) (xA (wM ad cy))) args s 0 0 (xA (wM ad cy))) 7 D (wM ad cy) σ 168 [(0, .ref (ad 0)), (1, .int f1), (2, .int f2)] []) : ∀ (n : Nat) (σ : St) (x3 : Int32), wLX10_findBest_8 f1 f2 K168 P n σ x3 → VV p l e rmX10_findBest s m args below meth c (MQ below (va_Qv P (xPost D (wM ad cy)) (xA (wM ad cy))) args s 0 0 (xA (wM ad cy))) 7 D (wM ad cy) σ 8 [(0, .ref (ad 0)), (1, .int f1), (2, .int f2), (3, .int x3)] [] := by
  intro n
  induction n with
  | zero => intro σ x3 h; exact h.elim
  | succ n ih =>
    intro σ x3 h
    rw [wLX10_findBest_8] at h
    refine vv_iload_n (q := 9) X 3 dX10_findBest_8 rfl rfl rfl ?_
    refine vv_sipush (q := 12) X (256 : Int32) dX10_findBest_9 (by decide) rfl ?_
    refine vv_icmp_ge (q := 15) X 168 dX10_findBest_12 (by decide) rfl (fun c2 => ?_) (fun c2 => ?_)
    · have h := h.1 c2
      refine vv_sub (lv' := [(0, .ref (ad 0)), (1, .int f1), (2, .int f2)]) [0, 1, 2] rfl ?_
      exact hK168 σ h
    · have h := h.2 c2
      refine vv_iload_n (q := 16) X 2 dX10_findBest_15 rfl rfl rfl ?_
      refine vv_aload_n (q := 17) X 0 dX10_findBest_16 rfl rfl rfl ?_
      refine vv_getf (q := 20) (ref := "HalfLaddersModel") (C := RX10) (T := TX10) (N := 27) X 0 10 9 (Nat.le_of_ble_eq_true rfl) rfl rfl (Nat.le_of_ble_eq_true rfl) (fun _ h => List.mem_cons_of_mem _ (List.mem_append_right _ h)) (List.mem_of_getElem? (i := 1) rfl) rfl rfl dX10_findBest_17 rfl ?_
      refine vv_iconst (q := 21) X (0 : Int32) dX10_findBest_20 (by decide) rfl ?_
      obtain ⟨hin3, h⟩ := h
      refine vv_iald (q := 22) X 8 2 (Nat.le_of_ble_eq_true rfl) (fun _ => rfl) hin3 dX10_findBest_21 rfl ?_
      obtain ⟨J4, hJ4, h⟩ := jn_el h
      have tJ4 : ∀ (v5 : Int32), J4 v5 → VV p l e rmX10_findBest s m args below meth c (MQ below (va_Qv P (xPost D (wM ad cy)) (xA (wM ad cy))) args s 0 0 (xA (wM ad cy))) 7 D (wM ad cy) σ 43 [(0, .ref (ad 0)), (1, .int f1), (2, .int f2), (3, .int x3)] [.int v5] := by
        intro v5 h
        rw [hJ4] at h
        refine vv_istore (lv2 := [(4, .int v5), (0, .ref (ad 0)), (1, .int f1), (2, .int f2), (3, .int x3)]) (q := 45) X dX10_findBest_43 (Nat.le_of_ble_eq_true rfl) rfl rfl ?_
        refine vv_iconst (q := 46) X (0 : Int32) dX10_findBest_45 (by decide) rfl ?_
        refine vv_istore (lv2 := [(5, .int (0 : Int32)), (4, .int v5), (0, .ref (ad 0)), (1, .int f1), (2, .int f2), (3, .int x3)]) (q := 48) X dX10_findBest_46 (Nat.le_of_ble_eq_true rfl) rfl rfl ?_
        obtain ⟨n24, h⟩ := h
        refine vv_sub (lv' := [(0, .ref (ad 0)), (1, .int f1), (2, .int f2), (3, .int x3), (4, .int v5), (5, .int (0 : Int32))]) [2, 3, 4, 5, 1, 0] rfl ?_
        refine twLX10_findBest_48 X hr f1 f2 x3  σ _ ?_ n24 v5 (0 : Int32) h
        intro y20 h
        refine vv_aload_n (q := 149) X 0 dX10_findBest_148 rfl rfl rfl ?_
        refine vv_getf (q := 152) (ref := "HalfLaddersModel") (C := RX10) (T := TX10) (N := 27) X 0 10 20 (Nat.le_of_ble_eq_true rfl) rfl rfl (Nat.le_of_ble_eq_true rfl) (fun _ h => List.mem_cons_of_mem _ (List.mem_append_right _ h)) (List.mem_of_getElem? (i := 2) rfl) rfl rfl dX10_findBest_149 rfl ?_
        refine vv_sipush (q := 155) X (256 : Int32) dX10_findBest_152 (by decide) rfl ?_
        refine vv_iload_n (q := 156) X 2 dX10_findBest_155 rfl rfl rfl ?_
        refine vv_imul (q := 157) X dX10_findBest_156 rfl ?_
        refine vv_iload_n (q := 158) X 3 dX10_findBest_157 rfl rfl rfl ?_
        refine vv_iadd (q := 159) X dX10_findBest_158 rfl ?_
        refine vv_iload (q := 161) X 4 dX10_findBest_159 rfl rfl ?_
        obtain ⟨hin21, h⟩ := h
        refine vv_iast (q := 162) X 14 1536 (Nat.le_of_ble_eq_true rfl) (fun _ => rfl) hin21 dX10_findBest_161 rfl ?_
        refine vv_nm (fun σ22 hσ22 => ?_)
        have h := h σ22 hσ22
        obtain ⟨z23, hz23⟩ : ∃ y : Int32, y = x3 + (1 : Int32) := ⟨_, rfl⟩
        have h := h z23 hz23
        refine vv_iinc (v := z23) (lv2 := [(3, .int z23), (0, .ref (ad 0)), (1, .int f1), (2, .int f2), (4, .int y20)]) (q := 165) X 3 dX10_findBest_162 rfl (by rw [hz23]; rfl) (Nat.le_of_ble_eq_true rfl) rfl rfl ?_
        refine vv_goto X 8 dX10_findBest_165 (by decide) ?_
        refine vv_sub (lv' := [(0, .ref (ad 0)), (1, .int f1), (2, .int f2), (3, .int z23)]) [1, 2, 3, 0] rfl ?_
        exact ih σ22 z23 h
      refine vv_icmp_lt (q := 25) X 29 dX10_findBest_22 (by decide) rfl (fun c25 => ?_) (fun c25 => ?_)
      · have h := h.1 c25
        refine vv_aload_n (q := 30) X 0 dX10_findBest_29 rfl rfl rfl ?_
        refine vv_getf (q := 33) (ref := "HalfLaddersModel") (C := RX10) (T := TX10) (N := 27) X 0 10 20 (Nat.le_of_ble_eq_true rfl) rfl rfl (Nat.le_of_ble_eq_true rfl) (fun _ h => List.mem_cons_of_mem _ (List.mem_append_right _ h)) (List.mem_of_getElem? (i := 2) rfl) rfl rfl dX10_findBest_30 rfl ?_
        refine vv_sipush (q := 36) X (256 : Int32) dX10_findBest_33 (by decide) rfl ?_
        refine vv_iload_n (q := 37) X 2 dX10_findBest_36 rfl rfl rfl ?_
        refine vv_iconst (q := 38) X (1 : Int32) dX10_findBest_37 (by decide) rfl ?_
        refine vv_iadd (q := 39) X dX10_findBest_38 rfl ?_
        refine vv_imul (q := 40) X dX10_findBest_39 rfl ?_
        refine vv_iload_n (q := 41) X 3 dX10_findBest_40 rfl rfl rfl ?_
        refine vv_iadd (q := 42) X dX10_findBest_41 rfl ?_
        obtain ⟨hin26, h⟩ := h
        refine vv_iald (q := 43) X 14 1536 (Nat.le_of_ble_eq_true rfl) (fun _ => rfl) hin26 dX10_findBest_42 rfl ?_
        exact tJ4 (σ.1 14 (((256 : Int32) * (f2 + (1 : Int32))) + x3).toNatClampNeg) h
      · have h := h.2 c25
        refine vv_iconst (q := 26) X (0 : Int32) dX10_findBest_25 (by decide) rfl ?_
        refine vv_goto X 43 dX10_findBest_26 (by decide) ?_
        exact tJ4 (0 : Int32) h

def wLX10_findBest_2 (f1 : Int32)  (K174 : St → Prop) (P : St → Prop) : Nat → St → Int32 → Prop
  | 0, _, _ => False
  | n + 1, σ, x2 =>
    (x2 < 0 →
    K174 σ) ∧
    (¬ x2 < 0 →
    ∃ n29 : Nat, wLX10_findBest_8 f1 x2 (fun (σ27 : St) =>
    ∀ z28 : Int32, z28 = x2 + (-1 : Int32) →
    wLX10_findBest_2 f1 K174 P n σ27 z28) P n29 σ (0 : Int32))

set_option maxHeartbeats 4000000 in
set_option maxRecDepth 100000 in
theorem twLX10_findBest_2 {p : Program} {l : Launch} {e : Env} {s : State} {m : MethodId} {args : Array Value} {below : List Frame} {meth : Method} {c : Code} {D : va_G} {cy : Nat → ClassId} {ad : Nat → Nat} (X : XX p s m args meth c cX10_findBest 7 D cy (wM ad cy) wsX10_findBest RX10) (hr : meth.sig.returnType = none) (f1 : Int32)   (K174 : St → Prop) {P : St → Prop} (hK174 : ∀ (σ : St), K174 σ → VV p l e rmX10_findBest s m args below meth c (MQ below (va_Qv P (xPost D (wM ad cy)) (xA (wM ad cy))) args s 0 0 (xA (wM ad cy))) 7 D (wM ad cy) σ 174 [(0, .ref (ad 0)), (1, .int f1)] []) : ∀ (n : Nat) (σ : St) (x2 : Int32), wLX10_findBest_2 f1 K174 P n σ x2 → VV p l e rmX10_findBest s m args below meth c (MQ below (va_Qv P (xPost D (wM ad cy)) (xA (wM ad cy))) args s 0 0 (xA (wM ad cy))) 7 D (wM ad cy) σ 2 [(0, .ref (ad 0)), (1, .int f1), (2, .int x2)] [] := by
  intro n
  induction n with
  | zero => intro σ x2 h; exact h.elim
  | succ n ih =>
    intro σ x2 h
    rw [wLX10_findBest_2] at h
    refine vv_iload_n (q := 3) X 2 dX10_findBest_2 rfl rfl rfl ?_
    refine vv_if_lt (q := 6) X 174 dX10_findBest_3 (by decide) rfl (fun c1 => ?_) (fun c1 => ?_)
    · have h := h.1 c1
      refine vv_sub (lv' := [(0, .ref (ad 0)), (1, .int f1)]) [0, 1] rfl ?_
      exact hK174 σ h
    · have h := h.2 c1
      refine vv_iconst (q := 7) X (0 : Int32) dX10_findBest_6 (by decide) rfl ?_
      refine vv_istore_n (lv2 := [(3, .int (0 : Int32)), (0, .ref (ad 0)), (1, .int f1), (2, .int x2)]) (q := 8) X dX10_findBest_7 rfl (Nat.le_of_ble_eq_true rfl) rfl rfl ?_
      obtain ⟨n29, h⟩ := h
      refine vv_sub (lv' := [(0, .ref (ad 0)), (1, .int f1), (2, .int x2), (3, .int (0 : Int32))]) [1, 2, 3, 0] rfl ?_
      refine twLX10_findBest_8 X hr f1 x2  _ ?_ n29 σ (0 : Int32) h
      intro σ27 h
      obtain ⟨z28, hz28⟩ : ∃ y : Int32, y = x2 + (-1 : Int32) := ⟨_, rfl⟩
      have h := h z28 hz28
      refine vv_iinc (v := z28) (lv2 := [(2, .int z28), (0, .ref (ad 0)), (1, .int f1)]) (q := 171) X 2 dX10_findBest_168 rfl (by rw [hz28]; rfl) (Nat.le_of_ble_eq_true rfl) rfl rfl ?_
      refine vv_goto X 2 dX10_findBest_171 (by decide) ?_
      refine vv_sub (lv' := [(0, .ref (ad 0)), (1, .int f1), (2, .int z28)]) [1, 2, 0] rfl ?_
      exact ih σ27 z28 h

def wLX10_findBest_232 (f1 : Int32) (f2 : Int32) (f3 : Int32) (f4 : Int32) (σ : St) (K302 : Int32 → Prop) (P : St → Prop) : Nat → Int32 → Prop
  | 0, _ => False
  | n + 1, x5 =>
    wX10_mayPair σ f1 x5 f3 f2 (fun r40 : Int32 =>
    (r40 = 0 →
    ∀ z42 : Int32, z42 = x5 + (1 : Int32) →
    wLX10_findBest_232 f1 f2 f3 f4 σ K302 P n z42) ∧
    (¬ r40 = 0 →
    wX10_leftOf σ x5 (fun r43 : Int32 =>
    wX10_picks σ f1 r43 (x5 - x5 / (10 : Int32) * (10 : Int32)) f3 (fun r44 : Int32 =>
    wX10_leftOf σ x5 (fun r45 : Int32 =>
    vp_in (((256 : Int32) * (f3 + (1 : Int32))) + ((f2 ||| ((1 : Int32) <<< (r45 &&& 31))) ||| ((1 : Int32) <<< ((x5 - x5 / (10 : Int32) * (10 : Int32)) &&& 31)))) 1536 ∧
    ((r44 + (σ.1 14 (((256 : Int32) * (f3 + (1 : Int32))) + ((f2 ||| ((1 : Int32) <<< (r45 &&& 31))) ||| ((1 : Int32) <<< ((x5 - x5 / (10 : Int32) * (10 : Int32)) &&& 31)))).toNatClampNeg)) = f4 →
    K302 x5) ∧
    (¬ (r44 + (σ.1 14 (((256 : Int32) * (f3 + (1 : Int32))) + ((f2 ||| ((1 : Int32) <<< (r45 &&& 31))) ||| ((1 : Int32) <<< ((x5 - x5 / (10 : Int32) * (10 : Int32)) &&& 31)))).toNatClampNeg)) = f4 →
    ∀ z48 : Int32, z48 = x5 + (1 : Int32) →
    wLX10_findBest_232 f1 f2 f3 f4 σ K302 P n z48))))))

set_option maxHeartbeats 4000000 in
set_option maxRecDepth 100000 in
theorem twLX10_findBest_232 {p : Program} {l : Launch} {e : Env} {s : State} {m : MethodId} {args : Array Value} {below : List Frame} {meth : Method} {c : Code} {D : va_G} {cy : Nat → ClassId} {ad : Nat → Nat} (X : XX p s m args meth c cX10_findBest 7 D cy (wM ad cy) wsX10_findBest RX10) (hr : meth.sig.returnType = none) (f1 : Int32) (f2 : Int32) (f3 : Int32) (f4 : Int32)  (σ : St) (K302 : Int32 → Prop) {P : St → Prop} (hK302 : ∀ (x5 : Int32), K302 x5 → VV p l e rmX10_findBest s m args below meth c (MQ below (va_Qv P (xPost D (wM ad cy)) (xA (wM ad cy))) args s 0 0 (xA (wM ad cy))) 7 D (wM ad cy) σ 302 [(0, .ref (ad 0)), (1, .int f1), (2, .int f2), (3, .int f3), (5, .int x5)] []) : ∀ (n : Nat) (x5 : Int32), wLX10_findBest_232 f1 f2 f3 f4 σ K302 P n x5 → VV p l e rmX10_findBest s m args below meth c (MQ below (va_Qv P (xPost D (wM ad cy)) (xA (wM ad cy))) args s 0 0 (xA (wM ad cy))) 7 D (wM ad cy) σ 232 [(0, .ref (ad 0)), (1, .int f1), (2, .int f2), (3, .int f3), (4, .int f4), (5, .int x5)] [] := by
  intro n
  induction n with
  | zero => intro x5 h; exact h.elim
  | succ n ih =>
    intro x5 h
    rw [wLX10_findBest_232] at h
    refine vv_aload_n (q := 233) X 0 dX10_findBest_232 rfl rfl rfl ?_
    refine vv_iload_n (q := 234) X 1 dX10_findBest_233 rfl rfl rfl ?_
    refine vv_iload (q := 236) X 5 dX10_findBest_234 rfl rfl ?_
    refine vv_iload_n (q := 237) X 3 dX10_findBest_236 rfl rfl rfl ?_
    refine vv_iload_n (q := 238) X 2 dX10_findBest_237 rfl rfl rfl ?_
    refine vv_cVi (q := 241) (C := RX10) X 0 10 [.int f1, .int x5, .int f3, .int f2] (kX10_mayPair l D X.2.2.1 h) (cwV 4 X.1.2.2.2.2 gX10_findBest_X10_mayPair rfl rfl rfl (by decide +kernel) ⟨Nat.le_of_ble_eq_true rfl, Nat.le_of_ble_eq_true rfl⟩) (Nat.le_of_ble_eq_true rfl) rfl rfl rfl rfl (Nat.le_of_ble_eq_true rfl) dX10_findBest_238 rfl (fun r40 u9 h9 => ?_)
    obtain ⟨h9, hu9⟩ := h9
    subst u9
    have h := h9
    refine vv_if_eq (q := 244) X 296 dX10_findBest_241 (by decide) rfl (fun c41 => ?_) (fun c41 => ?_)
    · have h := h.1 c41
      obtain ⟨z42, hz42⟩ : ∃ y : Int32, y = x5 + (1 : Int32) := ⟨_, rfl⟩
      have h := h z42 hz42
      refine vv_iinc (v := z42) (lv2 := [(5, .int z42), (0, .ref (ad 0)), (1, .int f1), (2, .int f2), (3, .int f3), (4, .int f4)]) (q := 299) X 5 dX10_findBest_296 rfl (by rw [hz42]; rfl) (Nat.le_of_ble_eq_true rfl) rfl rfl ?_
      refine vv_goto X 232 dX10_findBest_299 (by decide) ?_
      refine vv_sub (lv' := [(0, .ref (ad 0)), (1, .int f1), (2, .int f2), (3, .int f3), (4, .int f4), (5, .int z42)]) [1, 2, 3, 4, 5, 0] rfl ?_
      exact ih z42 h
    · have h := h.2 c41
      refine vv_aload_n (q := 245) X 0 dX10_findBest_244 rfl rfl rfl ?_
      refine vv_iload_n (q := 246) X 1 dX10_findBest_245 rfl rfl rfl ?_
      refine vv_iload (q := 248) X 5 dX10_findBest_246 rfl rfl ?_
      refine vv_cSi (q := 251) X [.int x5] (kX10_leftOf l D X.2.2.1 h) (va_cwS 1 X.1.2.2.2.2 gX10_findBest_X10_leftOf rfl rfl rfl (by decide +kernel) ⟨Nat.le_of_ble_eq_true rfl, Nat.le_of_ble_eq_true rfl⟩) rfl rfl (Nat.le_of_ble_eq_true rfl) dX10_findBest_248 rfl (fun r43 u9 h9 => ?_)
      obtain ⟨h9, hu9⟩ := h9
      subst u9
      have h := h9
      refine vv_iload (q := 253) X 5 dX10_findBest_251 rfl rfl ?_
      refine vv_bipush (q := 255) X (10 : Int32) dX10_findBest_253 (by decide) rfl ?_
      refine vv_irem (q := 256) X dX10_findBest_255 (by decide) rfl ?_
      refine vv_iload_n (q := 257) X 3 dX10_findBest_256 rfl rfl rfl ?_
      refine vv_cVi (q := 260) (C := RX10) X 0 10 [.int f1, .int r43, .int (x5 - x5 / (10 : Int32) * (10 : Int32)), .int f3] (kX10_picks l D X.2.2.1 h) (cwV 4 X.1.2.2.2.2 gX10_findBest_X10_picks rfl rfl rfl (by decide +kernel) ⟨Nat.le_of_ble_eq_true rfl, Nat.le_of_ble_eq_true rfl⟩) (Nat.le_of_ble_eq_true rfl) rfl rfl rfl rfl (Nat.le_of_ble_eq_true rfl) dX10_findBest_257 rfl (fun r44 u9 h9 => ?_)
      obtain ⟨h9, hu9⟩ := h9
      subst u9
      have h := h9
      refine vv_aload_n (q := 261) X 0 dX10_findBest_260 rfl rfl rfl ?_
      refine vv_getf (q := 264) (ref := "HalfLaddersModel") (C := RX10) (T := TX10) (N := 27) X 0 10 20 (Nat.le_of_ble_eq_true rfl) rfl rfl (Nat.le_of_ble_eq_true rfl) (fun _ h => List.mem_cons_of_mem _ (List.mem_append_right _ h)) (List.mem_of_getElem? (i := 2) rfl) rfl rfl dX10_findBest_261 rfl ?_
      refine vv_sipush (q := 267) X (256 : Int32) dX10_findBest_264 (by decide) rfl ?_
      refine vv_iload_n (q := 268) X 3 dX10_findBest_267 rfl rfl rfl ?_
      refine vv_iconst (q := 269) X (1 : Int32) dX10_findBest_268 (by decide) rfl ?_
      refine vv_iadd (q := 270) X dX10_findBest_269 rfl ?_
      refine vv_imul (q := 271) X dX10_findBest_270 rfl ?_
      refine vv_iload_n (q := 272) X 2 dX10_findBest_271 rfl rfl rfl ?_
      refine vv_iconst (q := 273) X (1 : Int32) dX10_findBest_272 (by decide) rfl ?_
      refine vv_iload (q := 275) X 5 dX10_findBest_273 rfl rfl ?_
      refine vv_cSi (q := 278) X [.int x5] (kX10_leftOf l D X.2.2.1 h) (va_cwS 1 X.1.2.2.2.2 gX10_findBest_X10_leftOf rfl rfl rfl (by decide +kernel) ⟨Nat.le_of_ble_eq_true rfl, Nat.le_of_ble_eq_true rfl⟩) rfl rfl (Nat.le_of_ble_eq_true rfl) dX10_findBest_275 rfl (fun r45 u9 h9 => ?_)
      obtain ⟨h9, hu9⟩ := h9
      subst u9
      have h := h9
      refine vv_ishl (q := 279) X dX10_findBest_278 rfl ?_
      refine vv_ior (q := 280) X dX10_findBest_279 rfl ?_
      refine vv_iconst (q := 281) X (1 : Int32) dX10_findBest_280 (by decide) rfl ?_
      refine vv_iload (q := 283) X 5 dX10_findBest_281 rfl rfl ?_
      refine vv_bipush (q := 285) X (10 : Int32) dX10_findBest_283 (by decide) rfl ?_
      refine vv_irem (q := 286) X dX10_findBest_285 (by decide) rfl ?_
      refine vv_ishl (q := 287) X dX10_findBest_286 rfl ?_
      refine vv_ior (q := 288) X dX10_findBest_287 rfl ?_
      refine vv_iadd (q := 289) X dX10_findBest_288 rfl ?_
      obtain ⟨hin46, h⟩ := h
      refine vv_iald (q := 290) X 14 1536 (Nat.le_of_ble_eq_true rfl) (fun _ => rfl) hin46 dX10_findBest_289 rfl ?_
      refine vv_iadd (q := 291) X dX10_findBest_290 rfl ?_
      refine vv_iload (q := 293) X 4 dX10_findBest_291 rfl rfl ?_
      refine vv_icmp_eq (q := 296) X 302 dX10_findBest_293 (by decide) rfl (fun c47 => ?_) (fun c47 => ?_)
      · have h := h.1 c47
        refine vv_sub (lv' := [(0, .ref (ad 0)), (1, .int f1), (2, .int f2), (3, .int f3), (5, .int x5)]) [0, 1, 2, 3, 5] rfl ?_
        exact hK302 x5 h
      · have h := h.2 c47
        obtain ⟨z48, hz48⟩ : ∃ y : Int32, y = x5 + (1 : Int32) := ⟨_, rfl⟩
        have h := h z48 hz48
        refine vv_iinc (v := z48) (lv2 := [(5, .int z48), (0, .ref (ad 0)), (1, .int f1), (2, .int f2), (3, .int f3), (4, .int f4)]) (q := 299) X 5 dX10_findBest_296 rfl (by rw [hz48]; rfl) (Nat.le_of_ble_eq_true rfl) rfl rfl ?_
        refine vv_goto X 232 dX10_findBest_299 (by decide) ?_
        refine vv_sub (lv' := [(0, .ref (ad 0)), (1, .int f1), (2, .int f2), (3, .int f3), (4, .int f4), (5, .int z48)]) [1, 2, 3, 4, 5, 0] rfl ?_
        exact ih z48 h

def wLX10_findBest_178 (f1 : Int32)  (K334 : St → Prop) (P : St → Prop) : Nat → St → Int32 → Int32 → Prop
  | 0, _, _, _ => False
  | n + 1, σ, x2, x3 =>
    vp_in (0 : Int32) 2 ∧
    ((σ.1 8 (0 : Int32).toNatClampNeg) ≤ x3 →
    K334 σ) ∧
    (¬ (σ.1 8 (0 : Int32).toNatClampNeg) ≤ x3 →
    vp_in x3 5 ∧
    ∀ σ34 : St, σ34 = sI σ 15 x3.toNatClampNeg (-9 : Int32) →
    vp_in (((256 : Int32) * x3) + x2) 1536 ∧
    ∀ z36 : Int32, z36 = (σ34.1 14 (((256 : Int32) * x3) + x2).toNatClampNeg) →
    vp_in (((256 : Int32) * (x3 + (1 : Int32))) + x2) 1536 ∧
    ((σ34.1 14 (((256 : Int32) * (x3 + (1 : Int32))) + x2).toNatClampNeg) = z36 →
    ∀ z39 : Int32, z39 = x3 + (1 : Int32) →
    wLX10_findBest_178 f1 K334 P n σ34 x2 z39) ∧
    (¬ (σ34.1 14 (((256 : Int32) * (x3 + (1 : Int32))) + x2).toNatClampNeg) = z36 →
    ∃ n55 : Nat, wLX10_findBest_232 f1 x2 x3 z36 σ34 (fun (y49 : Int32) =>
    vp_in x3 5 ∧
    ∀ σ51 : St, σ51 = sI σ34 15 x3.toNatClampNeg y49 →
    wX10_leftOf σ51 y49 (fun r52 : Int32 =>
    ∀ z53 : Int32, z53 = (x2 ||| (((1 : Int32) <<< (r52 &&& 31)) ||| ((1 : Int32) <<< ((y49 - y49 / (10 : Int32) * (10 : Int32)) &&& 31)))) →
    ∀ z54 : Int32, z54 = x3 + (1 : Int32) →
    wLX10_findBest_178 f1 K334 P n σ51 z53 z54)) P n55 (0 : Int32)))

set_option maxHeartbeats 4000000 in
set_option maxRecDepth 100000 in
theorem twLX10_findBest_178 {p : Program} {l : Launch} {e : Env} {s : State} {m : MethodId} {args : Array Value} {below : List Frame} {meth : Method} {c : Code} {D : va_G} {cy : Nat → ClassId} {ad : Nat → Nat} (X : XX p s m args meth c cX10_findBest 7 D cy (wM ad cy) wsX10_findBest RX10) (hr : meth.sig.returnType = none) (f1 : Int32)   (K334 : St → Prop) {P : St → Prop} (hK334 : ∀ (σ : St), K334 σ → VV p l e rmX10_findBest s m args below meth c (MQ below (va_Qv P (xPost D (wM ad cy)) (xA (wM ad cy))) args s 0 0 (xA (wM ad cy))) 7 D (wM ad cy) σ 334 [] []) : ∀ (n : Nat) (σ : St) (x2 : Int32) (x3 : Int32), wLX10_findBest_178 f1 K334 P n σ x2 x3 → VV p l e rmX10_findBest s m args below meth c (MQ below (va_Qv P (xPost D (wM ad cy)) (xA (wM ad cy))) args s 0 0 (xA (wM ad cy))) 7 D (wM ad cy) σ 178 [(0, .ref (ad 0)), (1, .int f1), (2, .int x2), (3, .int x3)] [] := by
  intro n
  induction n with
  | zero => intro σ x2 x3 h; exact h.elim
  | succ n ih =>
    intro σ x2 x3 h
    rw [wLX10_findBest_178] at h
    refine vv_iload_n (q := 179) X 3 dX10_findBest_178 rfl rfl rfl ?_
    refine vv_aload_n (q := 180) X 0 dX10_findBest_179 rfl rfl rfl ?_
    refine vv_getf (q := 183) (ref := "HalfLaddersModel") (C := RX10) (T := TX10) (N := 27) X 0 10 9 (Nat.le_of_ble_eq_true rfl) rfl rfl (Nat.le_of_ble_eq_true rfl) (fun _ h => List.mem_cons_of_mem _ (List.mem_append_right _ h)) (List.mem_of_getElem? (i := 1) rfl) rfl rfl dX10_findBest_180 rfl ?_
    refine vv_iconst (q := 184) X (0 : Int32) dX10_findBest_183 (by decide) rfl ?_
    obtain ⟨hin31, h⟩ := h
    refine vv_iald (q := 185) X 8 2 (Nat.le_of_ble_eq_true rfl) (fun _ => rfl) hin31 dX10_findBest_184 rfl ?_
    refine vv_icmp_ge (q := 188) X 334 dX10_findBest_185 (by decide) rfl (fun c32 => ?_) (fun c32 => ?_)
    · have h := h.1 c32
      refine vv_sub (lv' := []) [] rfl ?_
      exact hK334 σ h
    · have h := h.2 c32
      refine vv_aload_n (q := 189) X 0 dX10_findBest_188 rfl rfl rfl ?_
      refine vv_getf (q := 192) (ref := "HalfLaddersModel") (C := RX10) (T := TX10) (N := 27) X 0 10 21 (Nat.le_of_ble_eq_true rfl) rfl rfl (Nat.le_of_ble_eq_true rfl) (fun _ h => List.mem_cons_of_mem _ (List.mem_append_right _ h)) (List.mem_of_getElem? (i := 3) rfl) rfl rfl dX10_findBest_189 rfl ?_
      refine vv_iload_n (q := 193) X 3 dX10_findBest_192 rfl rfl rfl ?_
      refine vv_bipush (q := 195) X (-9 : Int32) dX10_findBest_193 (by decide) rfl ?_
      obtain ⟨hin33, h⟩ := h
      refine vv_iast (q := 196) X 15 5 (Nat.le_of_ble_eq_true rfl) (fun _ => rfl) hin33 dX10_findBest_195 rfl ?_
      refine vv_nm (fun σ34 hσ34 => ?_)
      have h := h σ34 hσ34
      refine vv_aload_n (q := 197) X 0 dX10_findBest_196 rfl rfl rfl ?_
      refine vv_getf (q := 200) (ref := "HalfLaddersModel") (C := RX10) (T := TX10) (N := 27) X 0 10 20 (Nat.le_of_ble_eq_true rfl) rfl rfl (Nat.le_of_ble_eq_true rfl) (fun _ h => List.mem_cons_of_mem _ (List.mem_append_right _ h)) (List.mem_of_getElem? (i := 2) rfl) rfl rfl dX10_findBest_197 rfl ?_
      refine vv_sipush (q := 203) X (256 : Int32) dX10_findBest_200 (by decide) rfl ?_
      refine vv_iload_n (q := 204) X 3 dX10_findBest_203 rfl rfl rfl ?_
      refine vv_imul (q := 205) X dX10_findBest_204 rfl ?_
      refine vv_iload_n (q := 206) X 2 dX10_findBest_205 rfl rfl rfl ?_
      refine vv_iadd (q := 207) X dX10_findBest_206 rfl ?_
      obtain ⟨hin35, h⟩ := h
      refine vv_iald (q := 208) X 14 1536 (Nat.le_of_ble_eq_true rfl) (fun _ => rfl) hin35 dX10_findBest_207 rfl ?_
      refine vv_topi (fun z36 hz36 => ?_)
      have h := h z36 hz36
      refine vv_istore (lv2 := [(4, .int z36), (0, .ref (ad 0)), (1, .int f1), (2, .int x2), (3, .int x3)]) (q := 210) X dX10_findBest_208 (Nat.le_of_ble_eq_true rfl) rfl rfl ?_
      refine vv_aload_n (q := 211) X 1 dX10_findBest_210 rfl rfl rfl ?_
      refine vv_getf (q := 214) (ref := "HalfLaddersModel") (C := RX10) (T := TX10) (N := 27) X 0 10 20 (Nat.le_of_ble_eq_true rfl) rfl rfl (Nat.le_of_ble_eq_true rfl) (fun _ h => List.mem_cons_of_mem _ (List.mem_append_right _ h)) (List.mem_of_getElem? (i := 2) rfl) rfl rfl dX10_findBest_211 rfl ?_
      refine vv_sipush (q := 217) X (256 : Int32) dX10_findBest_214 (by decide) rfl ?_
      refine vv_iload_n (q := 218) X 4 dX10_findBest_217 rfl rfl rfl ?_
      refine vv_iconst (q := 219) X (1 : Int32) dX10_findBest_218 (by decide) rfl ?_
      refine vv_iadd (q := 220) X dX10_findBest_219 rfl ?_
      refine vv_imul (q := 221) X dX10_findBest_220 rfl ?_
      refine vv_iload_n (q := 222) X 3 dX10_findBest_221 rfl rfl rfl ?_
      refine vv_iadd (q := 223) X dX10_findBest_222 rfl ?_
      obtain ⟨hin37, h⟩ := h
      refine vv_iald (q := 224) X 14 1536 (Nat.le_of_ble_eq_true rfl) (fun _ => rfl) hin37 dX10_findBest_223 rfl ?_
      refine vv_iload (q := 226) X 0 dX10_findBest_224 rfl rfl ?_
      refine vv_icmp_eq (q := 229) X 328 dX10_findBest_226 (by decide) rfl (fun c38 => ?_) (fun c38 => ?_)
      · have h := h.1 c38
        obtain ⟨z39, hz39⟩ : ∃ y : Int32, y = x3 + (1 : Int32) := ⟨_, rfl⟩
        have h := h z39 hz39
        refine vv_iinc (v := z39) (lv2 := [(3, .int z39), (4, .int z36), (0, .ref (ad 0)), (1, .int f1), (2, .int x2)]) (q := 331) X 4 dX10_findBest_328 rfl (by rw [hz39]; rfl) (Nat.le_of_ble_eq_true rfl) rfl rfl ?_
        refine vv_goto X 178 dX10_findBest_331 (by decide) ?_
        refine vv_sub (lv' := [(0, .ref (ad 0)), (1, .int f1), (2, .int x2), (3, .int z39)]) [2, 3, 4, 0] rfl ?_
        exact ih σ34 x2 z39 h
      · have h := h.2 c38
        refine vv_iconst (q := 230) X (0 : Int32) dX10_findBest_229 (by decide) rfl ?_
        refine vv_istore (lv2 := [(5, .int (0 : Int32)), (4, .int z36), (0, .ref (ad 0)), (1, .int f1), (2, .int x2), (3, .int x3)]) (q := 232) X dX10_findBest_230 (Nat.le_of_ble_eq_true rfl) rfl rfl ?_
        obtain ⟨n55, h⟩ := h
        refine vv_sub (lv' := [(0, .ref (ad 0)), (1, .int f1), (2, .int x2), (3, .int x3), (4, .int z36), (5, .int (0 : Int32))]) [2, 3, 4, 5, 1, 0] rfl ?_
        refine twLX10_findBest_232 X hr f1 x2 x3 z36  σ34 _ ?_ n55 (0 : Int32) h
        intro y49 h
        refine vv_aload_n (q := 303) X 0 dX10_findBest_302 rfl rfl rfl ?_
        refine vv_getf (q := 306) (ref := "HalfLaddersModel") (C := RX10) (T := TX10) (N := 27) X 0 10 21 (Nat.le_of_ble_eq_true rfl) rfl rfl (Nat.le_of_ble_eq_true rfl) (fun _ h => List.mem_cons_of_mem _ (List.mem_append_right _ h)) (List.mem_of_getElem? (i := 3) rfl) rfl rfl dX10_findBest_303 rfl ?_
        refine vv_iload_n (q := 307) X 3 dX10_findBest_306 rfl rfl rfl ?_
        refine vv_iload (q := 309) X 4 dX10_findBest_307 rfl rfl ?_
        obtain ⟨hin50, h⟩ := h
        refine vv_iast (q := 310) X 15 5 (Nat.le_of_ble_eq_true rfl) (fun _ => rfl) hin50 dX10_findBest_309 rfl ?_
        refine vv_nm (fun σ51 hσ51 => ?_)
        have h := h σ51 hσ51
        refine vv_iload_n (q := 311) X 2 dX10_findBest_310 rfl rfl rfl ?_
        refine vv_iconst (q := 312) X (1 : Int32) dX10_findBest_311 (by decide) rfl ?_
        refine vv_iload (q := 314) X 4 dX10_findBest_312 rfl rfl ?_
        refine vv_cSi (q := 317) X [.int y49] (kX10_leftOf l D X.2.2.1 h) (va_cwS 1 X.1.2.2.2.2 gX10_findBest_X10_leftOf rfl rfl rfl (by decide +kernel) ⟨Nat.le_of_ble_eq_true rfl, Nat.le_of_ble_eq_true rfl⟩) rfl rfl (Nat.le_of_ble_eq_true rfl) dX10_findBest_314 rfl (fun r52 u9 h9 => ?_)
        obtain ⟨h9, hu9⟩ := h9
        subst u9
        have h := h9
        refine vv_ishl (q := 318) X dX10_findBest_317 rfl ?_
        refine vv_iconst (q := 319) X (1 : Int32) dX10_findBest_318 (by decide) rfl ?_
        refine vv_iload (q := 321) X 4 dX10_findBest_319 rfl rfl ?_
        refine vv_bipush (q := 323) X (10 : Int32) dX10_findBest_321 (by decide) rfl ?_
        refine vv_irem (q := 324) X dX10_findBest_323 (by decide) rfl ?_
        refine vv_ishl (q := 325) X dX10_findBest_324 rfl ?_
        refine vv_ior (q := 326) X dX10_findBest_325 rfl ?_
        refine vv_ior (q := 327) X dX10_findBest_326 rfl ?_
        refine vv_topi (fun z53 hz53 => ?_)
        have h := h z53 hz53
        refine vv_istore_n (lv2 := [(2, .int z53), (0, .ref (ad 0)), (1, .int f1), (3, .int x3), (5, .int y49)]) (q := 328) X dX10_findBest_327 rfl (Nat.le_of_ble_eq_true rfl) rfl rfl ?_
        obtain ⟨z54, hz54⟩ : ∃ y : Int32, y = x3 + (1 : Int32) := ⟨_, rfl⟩
        have h := h z54 hz54
        refine vv_iinc (v := z54) (lv2 := [(3, .int z54), (2, .int z53), (0, .ref (ad 0)), (1, .int f1), (5, .int y49)]) (q := 331) X 3 dX10_findBest_328 rfl (by rw [hz54]; rfl) (Nat.le_of_ble_eq_true rfl) rfl rfl ?_
        refine vv_goto X 178 dX10_findBest_331 (by decide) ?_
        refine vv_sub (lv' := [(0, .ref (ad 0)), (1, .int f1), (2, .int z53), (3, .int z54)]) [2, 3, 1, 0] rfl ?_
        exact ih σ51 z53 z54 h

def wX10_findBest (σ : St) (a1 : Int32) (P : St → Prop) : Prop :=
∃ n58 : Nat, wLX10_findBest_2 a1 (fun (σ30 : St) =>
∃ n57 : Nat, wLX10_findBest_178 a1 (fun (σ56 : St) =>
P σ56) P n57 σ30 (0 : Int32) (0 : Int32)) P n58 σ (5 : Int32)

set_option maxHeartbeats 8000000 in
set_option maxRecDepth 100000 in
theorem kX10_findBest (l : Launch) (D : va_G) {cy : Nat → ClassId} {ad : Nat → Nat} (hw : xOk (wM ad cy)) {σ : St} {a1 : Int32} {P : St → Prop} (h : wX10_findBest σ a1 P) : MV l yX10_findBest wsX10_findBest rmX10_findBest D cy (wM ad cy) [.ref (ad 0), .int a1] σ P := by
  unfold MV
  refine vv_met (cc := cX10_findBest) (maxL := 7) (ret := none) hw (by decide +kernel) rfl [.ref (ad 0), .int a1] (Nat.le_of_ble_eq_true rfl) ?_
  intro p e s m args below meth c X hr
  have X : XX p s m args meth c cX10_findBest 7 D cy (wM ad cy) wsX10_findBest RX10 := X
  refine vv_sub (lv' := [(0, .ref (ad 0)), (1, .int a1)]) [0, 1] rfl ?_
  rw [wX10_findBest] at h
  refine vv_iconst (q := 1) X (5 : Int32) dX10_findBest_0 (by decide) rfl ?_
  refine vv_istore_n (lv2 := [(2, .int (5 : Int32)), (0, .ref (ad 0)), (1, .int a1)]) (q := 2) X dX10_findBest_1 rfl (Nat.le_of_ble_eq_true rfl) rfl rfl ?_
  obtain ⟨n58, h⟩ := h
  refine vv_sub (lv' := [(0, .ref (ad 0)), (1, .int a1), (2, .int (5 : Int32))]) [1, 2, 0] rfl ?_
  refine twLX10_findBest_2 X hr a1  _ ?_ n58 σ (5 : Int32) h
  intro σ30 h
  refine vv_iconst (q := 175) X (0 : Int32) dX10_findBest_174 (by decide) rfl ?_
  refine vv_istore_n (lv2 := [(2, .int (0 : Int32)), (0, .ref (ad 0)), (1, .int a1)]) (q := 176) X dX10_findBest_175 rfl (Nat.le_of_ble_eq_true rfl) rfl rfl ?_
  refine vv_iconst (q := 177) X (0 : Int32) dX10_findBest_176 (by decide) rfl ?_
  refine vv_istore_n (lv2 := [(3, .int (0 : Int32)), (2, .int (0 : Int32)), (0, .ref (ad 0)), (1, .int a1)]) (q := 178) X dX10_findBest_177 rfl (Nat.le_of_ble_eq_true rfl) rfl rfl ?_
  obtain ⟨n57, h⟩ := h
  refine vv_sub (lv' := [(0, .ref (ad 0)), (1, .int a1), (2, .int (0 : Int32)), (3, .int (0 : Int32))]) [2, 3, 1, 0] rfl ?_
  refine twLX10_findBest_178 X hr a1  _ ?_ n57 σ30 (0 : Int32) (0 : Int32) h
  intro σ56 h
  exact vv_vret X hr dX10_findBest_334 h

/-! X10_best: best(I)I -/
def rmX10_best : Room := { frames := 4, cells := 0, slots := 0, locals := 99 }
def wX10_best (σ : St) (a1 : Int32) (P : Int32 → St → Prop) : Prop :=
vp_in (0 : Int32) 2 ∧
wX10_in σ a1 (-1 : Int32) ((σ.1 8 (0 : Int32).toNatClampNeg) - (1 : Int32)) (fun r2 : Int32 =>
(¬ r2 = 0 →
wX10_findBest σ (0 : Int32) (fun σ4 : St =>
(¬ a1 = (-1 : Int32) →
vp_in a1 5 ∧
P (σ4.1 15 a1.toNatClampNeg) σ4) ∧
(a1 = (-1 : Int32) →
vp_in (0 : Int32) 1536 ∧
P (σ4.1 14 (0 : Int32).toNatClampNeg) σ4))) ∧
(r2 = 0 →
P (-1 : Int32) σ))

set_option maxHeartbeats 8000000 in
set_option maxRecDepth 100000 in
theorem kX10_best (l : Launch) (D : va_G) {cy : Nat → ClassId} {ad : Nat → Nat} (hw : xOk (wM ad cy)) {σ : St} {a1 : Int32} {P : Int32 → St → Prop} (h : wX10_best σ a1 P) : MI l yX10_best wsX10_best rmX10_best D cy (wM ad cy) [.ref (ad 0), .int a1] σ P := by
  unfold MI
  refine vv_met (cc := cX10_best) (maxL := 2) (ret := (some .int)) hw (by decide +kernel) rfl [.ref (ad 0), .int a1] (Nat.le_of_ble_eq_true rfl) ?_
  intro p e s m args below meth c X hr
  have X : XX p s m args meth c cX10_best 2 D cy (wM ad cy) wsX10_best RX10 := X
  refine vv_sub (lv' := [(0, .ref (ad 0)), (1, .int a1)]) [0, 1] rfl ?_
  rw [wX10_best] at h
  refine vv_iload_n (q := 1) X 1 dX10_best_0 rfl rfl rfl ?_
  refine vv_iconst (q := 2) X (-1 : Int32) dX10_best_1 (by decide) rfl ?_
  refine vv_aload_n (q := 3) X 0 dX10_best_2 rfl rfl rfl ?_
  refine vv_getf (q := 6) (ref := "HalfLaddersModel") (C := RX10) (T := TX10) (N := 27) X 0 10 9 (Nat.le_of_ble_eq_true rfl) rfl rfl (Nat.le_of_ble_eq_true rfl) (fun _ h => List.mem_cons_of_mem _ (List.mem_append_right _ h)) (List.mem_of_getElem? (i := 1) rfl) rfl rfl dX10_best_3 rfl ?_
  refine vv_iconst (q := 7) X (0 : Int32) dX10_best_6 (by decide) rfl ?_
  obtain ⟨hin1, h⟩ := h
  refine vv_iald (q := 8) X 8 2 (Nat.le_of_ble_eq_true rfl) (fun _ => rfl) hin1 dX10_best_7 rfl ?_
  refine vv_iconst (q := 9) X (1 : Int32) dX10_best_8 (by decide) rfl ?_
  refine vv_isub (q := 10) X dX10_best_9 rfl ?_
  refine vv_cSi (q := 13) X [.int a1, .int (-1 : Int32), .int ((σ.1 8 (0 : Int32).toNatClampNeg) - (1 : Int32))] (kX10_in l D X.2.2.1 h) (va_cwS 3 X.1.2.2.2.2 gX10_best_X10_in rfl rfl rfl (by decide +kernel) ⟨Nat.le_of_ble_eq_true rfl, Nat.le_of_ble_eq_true rfl⟩) rfl rfl (Nat.le_of_ble_eq_true rfl) dX10_best_10 rfl (fun r2 u9 h9 => ?_)
  obtain ⟨h9, hu9⟩ := h9
  subst u9
  have h := h9
  refine vv_if_ne (q := 16) X 18 dX10_best_13 (by decide) rfl (fun c3 => ?_) (fun c3 => ?_)
  · have h := h.1 c3
    refine vv_aload_n (q := 19) X 0 dX10_best_18 rfl rfl rfl ?_
    refine vv_iconst (q := 20) X (0 : Int32) dX10_best_19 (by decide) rfl ?_
    refine vv_cVv (q := 23) (C := RX10) X 0 10 [.int (0 : Int32)] (kX10_findBest l D X.2.2.1 h) (cwV 1 X.1.2.2.2.2 gX10_best_X10_findBest rfl rfl rfl (by decide +kernel) ⟨Nat.le_of_ble_eq_true rfl, Nat.le_of_ble_eq_true rfl⟩) (Nat.le_of_ble_eq_true rfl) rfl rfl rfl rfl (Nat.le_of_ble_eq_true rfl) dX10_best_20 rfl (fun σ4 h => ?_)
    refine vv_iload_n (q := 24) X 1 dX10_best_23 rfl rfl rfl ?_
    refine vv_iconst (q := 25) X (-1 : Int32) dX10_best_24 (by decide) rfl ?_
    refine vv_icmp_ne (q := 28) X 37 dX10_best_25 (by decide) rfl (fun c5 => ?_) (fun c5 => ?_)
    · have h := h.1 c5
      refine vv_aload_n (q := 38) X 0 dX10_best_37 rfl rfl rfl ?_
      refine vv_getf (q := 41) (ref := "HalfLaddersModel") (C := RX10) (T := TX10) (N := 27) X 0 10 21 (Nat.le_of_ble_eq_true rfl) rfl rfl (Nat.le_of_ble_eq_true rfl) (fun _ h => List.mem_cons_of_mem _ (List.mem_append_right _ h)) (List.mem_of_getElem? (i := 3) rfl) rfl rfl dX10_best_38 rfl ?_
      refine vv_iload_n (q := 42) X 1 dX10_best_41 rfl rfl rfl ?_
      obtain ⟨hin6, h⟩ := h
      refine vv_iald (q := 43) X 15 5 (Nat.le_of_ble_eq_true rfl) (fun _ => rfl) hin6 dX10_best_42 rfl ?_
      exact vv_iret X hr dX10_best_43 h
    · have h := h.2 c5
      refine vv_aload_n (q := 29) X 0 dX10_best_28 rfl rfl rfl ?_
      refine vv_getf (q := 32) (ref := "HalfLaddersModel") (C := RX10) (T := TX10) (N := 27) X 0 10 20 (Nat.le_of_ble_eq_true rfl) rfl rfl (Nat.le_of_ble_eq_true rfl) (fun _ h => List.mem_cons_of_mem _ (List.mem_append_right _ h)) (List.mem_of_getElem? (i := 2) rfl) rfl rfl dX10_best_29 rfl ?_
      refine vv_iconst (q := 33) X (0 : Int32) dX10_best_32 (by decide) rfl ?_
      obtain ⟨hin7, h⟩ := h
      refine vv_iald (q := 34) X 14 1536 (Nat.le_of_ble_eq_true rfl) (fun _ => rfl) hin7 dX10_best_33 rfl ?_
      refine vv_goto X 43 dX10_best_34 (by decide) ?_
      exact vv_iret X hr dX10_best_43 h
  · have h := h.2 c3
    refine vv_iconst (q := 17) X (-1 : Int32) dX10_best_16 (by decide) rfl ?_
    exact vv_iret X hr dX10_best_17 h

/-! X10_copy: copy(II)V -/
def rmX10_copy : Room := { frames := 0, cells := 0, slots := 0, locals := 0 }
def wLX10_copy_2 (f1 : Int32) (f2 : Int32)  (K30 : St → Prop) (P : St → Prop) : Nat → St → Int32 → Prop
  | 0, _, _ => False
  | n + 1, σ, x3 =>
    ((12 : Int32) ≤ x3 →
    K30 σ) ∧
    (¬ (12 : Int32) ≤ x3 →
    vp_in (f1 + x3) 48 ∧
    vp_in (f2 + x3) 48 ∧
    ∀ σ4 : St, σ4 = sI σ 12 (f2 + x3).toNatClampNeg (σ.1 12 (f1 + x3).toNatClampNeg) →
    ∀ z5 : Int32, z5 = x3 + (1 : Int32) →
    wLX10_copy_2 f1 f2 K30 P n σ4 z5)

set_option maxHeartbeats 4000000 in
set_option maxRecDepth 100000 in
theorem twLX10_copy_2 {p : Program} {l : Launch} {e : Env} {s : State} {m : MethodId} {args : Array Value} {below : List Frame} {meth : Method} {c : Code} {D : va_G} {cy : Nat → ClassId} {ad : Nat → Nat} (X : XX p s m args meth c cX10_copy 4 D cy (wM ad cy) wsX10_copy RX10) (hr : meth.sig.returnType = none) (f1 : Int32) (f2 : Int32)   (K30 : St → Prop) {P : St → Prop} (hK30 : ∀ (σ : St), K30 σ → VV p l e rmX10_copy s m args below meth c (MQ below (va_Qv P (xPost D (wM ad cy)) (xA (wM ad cy))) args s 0 0 (xA (wM ad cy))) 4 D (wM ad cy) σ 30 [] []) : ∀ (n : Nat) (σ : St) (x3 : Int32), wLX10_copy_2 f1 f2 K30 P n σ x3 → VV p l e rmX10_copy s m args below meth c (MQ below (va_Qv P (xPost D (wM ad cy)) (xA (wM ad cy))) args s 0 0 (xA (wM ad cy))) 4 D (wM ad cy) σ 2 [(0, .ref (ad 0)), (1, .int f1), (2, .int f2), (3, .int x3)] [] := by
  intro n
  induction n with
  | zero => intro σ x3 h; exact h.elim
  | succ n ih =>
    intro σ x3 h
    rw [wLX10_copy_2] at h
    refine vv_iload_n (q := 3) X 3 dX10_copy_2 rfl rfl rfl ?_
    refine vv_bipush (q := 5) X (12 : Int32) dX10_copy_3 (by decide) rfl ?_
    refine vv_icmp_ge (q := 8) X 30 dX10_copy_5 (by decide) rfl (fun c1 => ?_) (fun c1 => ?_)
    · have h := h.1 c1
      refine vv_sub (lv' := []) [] rfl ?_
      exact hK30 σ h
    · have h := h.2 c1
      refine vv_aload_n (q := 9) X 0 dX10_copy_8 rfl rfl rfl ?_
      refine vv_getf (q := 12) (ref := "HalfLaddersModel") (C := RX10) (T := TX10) (N := 27) X 0 10 18 (Nat.le_of_ble_eq_true rfl) rfl rfl (Nat.le_of_ble_eq_true rfl) (fun _ h => List.mem_cons_of_mem _ (List.mem_append_right _ h)) (List.mem_of_getElem? (i := 1) rfl) rfl rfl dX10_copy_9 rfl ?_
      refine vv_iload_n (q := 13) X 2 dX10_copy_12 rfl rfl rfl ?_
      refine vv_iload_n (q := 14) X 3 dX10_copy_13 rfl rfl rfl ?_
      refine vv_iadd (q := 15) X dX10_copy_14 rfl ?_
      refine vv_aload_n (q := 16) X 0 dX10_copy_15 rfl rfl rfl ?_
      refine vv_getf (q := 19) (ref := "HalfLaddersModel") (C := RX10) (T := TX10) (N := 27) X 0 10 18 (Nat.le_of_ble_eq_true rfl) rfl rfl (Nat.le_of_ble_eq_true rfl) (fun _ h => List.mem_cons_of_mem _ (List.mem_append_right _ h)) (List.mem_of_getElem? (i := 1) rfl) rfl rfl dX10_copy_16 rfl ?_
      refine vv_iload_n (q := 20) X 1 dX10_copy_19 rfl rfl rfl ?_
      refine vv_iload_n (q := 21) X 3 dX10_copy_20 rfl rfl rfl ?_
      refine vv_iadd (q := 22) X dX10_copy_21 rfl ?_
      obtain ⟨hin2, h⟩ := h
      refine vv_iald (q := 23) X 12 48 (Nat.le_of_ble_eq_true rfl) (fun _ => rfl) hin2 dX10_copy_22 rfl ?_
      obtain ⟨hin3, h⟩ := h
      refine vv_iast (q := 24) X 12 48 (Nat.le_of_ble_eq_true rfl) (fun _ => rfl) hin3 dX10_copy_23 rfl ?_
      refine vv_nm (fun σ4 hσ4 => ?_)
      have h := h σ4 hσ4
      obtain ⟨z5, hz5⟩ : ∃ y : Int32, y = x3 + (1 : Int32) := ⟨_, rfl⟩
      have h := h z5 hz5
      refine vv_iinc (v := z5) (lv2 := [(3, .int z5), (0, .ref (ad 0)), (1, .int f1), (2, .int f2)]) (q := 27) X 3 dX10_copy_24 rfl (by rw [hz5]; rfl) (Nat.le_of_ble_eq_true rfl) rfl rfl ?_
      refine vv_goto X 2 dX10_copy_27 (by decide) ?_
      refine vv_sub (lv' := [(0, .ref (ad 0)), (1, .int f1), (2, .int f2), (3, .int z5)]) [1, 2, 3, 0] rfl ?_
      exact ih σ4 z5 h

def wX10_copy (σ : St) (a1 : Int32) (a2 : Int32) (P : St → Prop) : Prop :=
∃ n7 : Nat, wLX10_copy_2 a1 a2 (fun (σ6 : St) =>
P σ6) P n7 σ (0 : Int32)

set_option maxHeartbeats 8000000 in
set_option maxRecDepth 100000 in
theorem kX10_copy (l : Launch) (D : va_G) {cy : Nat → ClassId} {ad : Nat → Nat} (hw : xOk (wM ad cy)) {σ : St} {a1 : Int32} {a2 : Int32} {P : St → Prop} (h : wX10_copy σ a1 a2 P) : MV l yX10_copy wsX10_copy rmX10_copy D cy (wM ad cy) [.ref (ad 0), .int a1, .int a2] σ P := by
  unfold MV
  refine vv_met (cc := cX10_copy) (maxL := 4) (ret := none) hw (by decide +kernel) rfl [.ref (ad 0), .int a1, .int a2] (Nat.le_of_ble_eq_true rfl) ?_
  intro p e s m args below meth c X hr
  have X : XX p s m args meth c cX10_copy 4 D cy (wM ad cy) wsX10_copy RX10 := X
  refine vv_sub (lv' := [(0, .ref (ad 0)), (1, .int a1), (2, .int a2)]) [0, 1, 2] rfl ?_
  rw [wX10_copy] at h
  refine vv_iconst (q := 1) X (0 : Int32) dX10_copy_0 (by decide) rfl ?_
  refine vv_istore_n (lv2 := [(3, .int (0 : Int32)), (0, .ref (ad 0)), (1, .int a1), (2, .int a2)]) (q := 2) X dX10_copy_1 rfl (Nat.le_of_ble_eq_true rfl) rfl rfl ?_
  obtain ⟨n7, h⟩ := h
  refine vv_sub (lv' := [(0, .ref (ad 0)), (1, .int a1), (2, .int a2), (3, .int (0 : Int32))]) [1, 2, 3, 0] rfl ?_
  refine twLX10_copy_2 X hr a1 a2  _ ?_ n7 σ (0 : Int32) h
  intro σ6 h
  exact vv_vret X hr dX10_copy_30 h

/-! X10_season: season(I)I -/
def rmX10_season : Room := { frames := 4, cells := 0, slots := 0, locals := 99 }
def wLX10_season_46 (f1 : Int32) (f2 : Int32) (f3 : Int32)  (K104 : St → Prop) (P : Int32 → St → Prop) : Nat → St → Int32 → Prop
  | 0, _, _ => False
  | n + 1, σ, x4 =>
    vp_in (0 : Int32) 2 ∧
    ((σ.1 8 (0 : Int32).toNatClampNeg) ≤ x4 →
    K104 σ) ∧
    (¬ (σ.1 8 (0 : Int32).toNatClampNeg) ≤ x4 →
    vp_in x4 5 ∧
    ((σ.1 15 x4.toNatClampNeg) = (-9 : Int32) →
    ∀ z12 : Int32, z12 = x4 + (1 : Int32) →
    wLX10_season_46 f1 f2 f3 K104 P n σ z12) ∧
    (¬ (σ.1 15 x4.toNatClampNeg) = (-9 : Int32) →
    vp_in x4 5 ∧
    wX10_leftOf σ (σ.1 15 x4.toNatClampNeg) (fun r14 : Int32 =>
    vp_in x4 5 ∧
    wX10_climbs σ (12 : Int32) r14 ((σ.1 15 x4.toNatClampNeg) - (σ.1 15 x4.toNatClampNeg) / (10 : Int32) * (10 : Int32)) x4 (fun (r16 : Int32) (σ17 : St) =>
    ∀ z18 : Int32, z18 = x4 + (1 : Int32) →
    wLX10_season_46 f1 f2 f3 K104 P n σ17 z18))))

set_option maxHeartbeats 4000000 in
set_option maxRecDepth 100000 in
theorem twLX10_season_46 {p : Program} {l : Launch} {e : Env} {s : State} {m : MethodId} {args : Array Value} {below : List Frame} {meth : Method} {c : Code} {D : va_G} {cy : Nat → ClassId} {ad : Nat → Nat} (X : XX p s m args meth c cX10_season 5 D cy (wM ad cy) wsX10_season RX10) (hr : meth.sig.returnType = (some .int)) (f1 : Int32) (f2 : Int32) (f3 : Int32)   (K104 : St → Prop) {P : Int32 → St → Prop} (hK104 : ∀ (σ : St), K104 σ → VV p l e rmX10_season s m args below meth c (MQ below (va_Qi P (xPost D (wM ad cy)) (xA (wM ad cy))) args s 0 0 (xA (wM ad cy))) 5 D (wM ad cy) σ 104 [(0, .ref (ad 0)), (1, .int f1), (2, .int f2), (3, .int f3)] []) : ∀ (n : Nat) (σ : St) (x4 : Int32), wLX10_season_46 f1 f2 f3 K104 P n σ x4 → VV p l e rmX10_season s m args below meth c (MQ below (va_Qi P (xPost D (wM ad cy)) (xA (wM ad cy))) args s 0 0 (xA (wM ad cy))) 5 D (wM ad cy) σ 46 [(0, .ref (ad 0)), (1, .int f1), (2, .int f2), (3, .int f3), (4, .int x4)] [] := by
  intro n
  induction n with
  | zero => intro σ x4 h; exact h.elim
  | succ n ih =>
    intro σ x4 h
    rw [wLX10_season_46] at h
    refine vv_iload (q := 48) X 4 dX10_season_46 rfl rfl ?_
    refine vv_aload_n (q := 49) X 0 dX10_season_48 rfl rfl rfl ?_
    refine vv_getf (q := 52) (ref := "HalfLaddersModel") (C := RX10) (T := TX10) (N := 27) X 0 10 9 (Nat.le_of_ble_eq_true rfl) rfl rfl (Nat.le_of_ble_eq_true rfl) (fun _ h => List.mem_cons_of_mem _ (List.mem_append_right _ h)) (List.mem_of_getElem? (i := 2) rfl) rfl rfl dX10_season_49 rfl ?_
    refine vv_iconst (q := 53) X (0 : Int32) dX10_season_52 (by decide) rfl ?_
    obtain ⟨hin8, h⟩ := h
    refine vv_iald (q := 54) X 8 2 (Nat.le_of_ble_eq_true rfl) (fun _ => rfl) hin8 dX10_season_53 rfl ?_
    refine vv_icmp_ge (q := 57) X 104 dX10_season_54 (by decide) rfl (fun c9 => ?_) (fun c9 => ?_)
    · have h := h.1 c9
      refine vv_sub (lv' := [(0, .ref (ad 0)), (1, .int f1), (2, .int f2), (3, .int f3)]) [0, 1, 2, 3] rfl ?_
      exact hK104 σ h
    · have h := h.2 c9
      refine vv_aload_n (q := 58) X 0 dX10_season_57 rfl rfl rfl ?_
      refine vv_getf (q := 61) (ref := "HalfLaddersModel") (C := RX10) (T := TX10) (N := 27) X 0 10 21 (Nat.le_of_ble_eq_true rfl) rfl rfl (Nat.le_of_ble_eq_true rfl) (fun _ h => List.mem_cons_of_mem _ (List.mem_append_right _ h)) (List.mem_of_getElem? (i := 3) rfl) rfl rfl dX10_season_58 rfl ?_
      refine vv_iload (q := 63) X 4 dX10_season_61 rfl rfl ?_
      obtain ⟨hin10, h⟩ := h
      refine vv_iald (q := 64) X 15 5 (Nat.le_of_ble_eq_true rfl) (fun _ => rfl) hin10 dX10_season_63 rfl ?_
      refine vv_bipush (q := 66) X (-9 : Int32) dX10_season_64 (by decide) rfl ?_
      refine vv_icmp_eq (q := 69) X 98 dX10_season_66 (by decide) rfl (fun c11 => ?_) (fun c11 => ?_)
      · have h := h.1 c11
        obtain ⟨z12, hz12⟩ : ∃ y : Int32, y = x4 + (1 : Int32) := ⟨_, rfl⟩
        have h := h z12 hz12
        refine vv_iinc (v := z12) (lv2 := [(4, .int z12), (0, .ref (ad 0)), (1, .int f1), (2, .int f2), (3, .int f3)]) (q := 101) X 4 dX10_season_98 rfl (by rw [hz12]; rfl) (Nat.le_of_ble_eq_true rfl) rfl rfl ?_
        refine vv_goto X 46 dX10_season_101 (by decide) ?_
        refine vv_sub (lv' := [(0, .ref (ad 0)), (1, .int f1), (2, .int f2), (3, .int f3), (4, .int z12)]) [1, 2, 3, 4, 0] rfl ?_
        exact ih σ z12 h
      · have h := h.2 c11
        refine vv_aload_n (q := 70) X 0 dX10_season_69 rfl rfl rfl ?_
        refine vv_bipush (q := 72) X (12 : Int32) dX10_season_70 (by decide) rfl ?_
        refine vv_aload_n (q := 73) X 0 dX10_season_72 rfl rfl rfl ?_
        refine vv_getf (q := 76) (ref := "HalfLaddersModel") (C := RX10) (T := TX10) (N := 27) X 0 10 21 (Nat.le_of_ble_eq_true rfl) rfl rfl (Nat.le_of_ble_eq_true rfl) (fun _ h => List.mem_cons_of_mem _ (List.mem_append_right _ h)) (List.mem_of_getElem? (i := 3) rfl) rfl rfl dX10_season_73 rfl ?_
        refine vv_iload (q := 78) X 4 dX10_season_76 rfl rfl ?_
        obtain ⟨hin13, h⟩ := h
        refine vv_iald (q := 79) X 15 5 (Nat.le_of_ble_eq_true rfl) (fun _ => rfl) hin13 dX10_season_78 rfl ?_
        refine vv_cSi (q := 82) X [.int (σ.1 15 x4.toNatClampNeg)] (kX10_leftOf l D X.2.2.1 h) (va_cwS 1 X.1.2.2.2.2 gX10_season_X10_leftOf rfl rfl rfl (by decide +kernel) ⟨Nat.le_of_ble_eq_true rfl, Nat.le_of_ble_eq_true rfl⟩) rfl rfl (Nat.le_of_ble_eq_true rfl) dX10_season_79 rfl (fun r14 u9 h9 => ?_)
        obtain ⟨h9, hu9⟩ := h9
        subst u9
        have h := h9
        refine vv_aload_n (q := 83) X 0 dX10_season_82 rfl rfl rfl ?_
        refine vv_getf (q := 86) (ref := "HalfLaddersModel") (C := RX10) (T := TX10) (N := 27) X 0 10 21 (Nat.le_of_ble_eq_true rfl) rfl rfl (Nat.le_of_ble_eq_true rfl) (fun _ h => List.mem_cons_of_mem _ (List.mem_append_right _ h)) (List.mem_of_getElem? (i := 3) rfl) rfl rfl dX10_season_83 rfl ?_
        refine vv_iload (q := 88) X 4 dX10_season_86 rfl rfl ?_
        obtain ⟨hin15, h⟩ := h
        refine vv_iald (q := 89) X 15 5 (Nat.le_of_ble_eq_true rfl) (fun _ => rfl) hin15 dX10_season_88 rfl ?_
        refine vv_bipush (q := 91) X (10 : Int32) dX10_season_89 (by decide) rfl ?_
        refine vv_irem (q := 92) X dX10_season_91 (by decide) rfl ?_
        refine vv_iload (q := 94) X 4 dX10_season_92 rfl rfl ?_
        refine vv_cVi (q := 97) (C := RX10) X 0 10 [.int (12 : Int32), .int r14, .int ((σ.1 15 x4.toNatClampNeg) - (σ.1 15 x4.toNatClampNeg) / (10 : Int32) * (10 : Int32)), .int x4] (kX10_climbs l D X.2.2.1 h) (cwV 4 X.1.2.2.2.2 gX10_season_X10_climbs rfl rfl rfl (by decide +kernel) ⟨Nat.le_of_ble_eq_true rfl, Nat.le_of_ble_eq_true rfl⟩) (Nat.le_of_ble_eq_true rfl) rfl rfl rfl rfl (Nat.le_of_ble_eq_true rfl) dX10_season_94 rfl (fun r16 σ17 h => ?_)
        refine vv_pop (q := 98) X dX10_season_97 rfl rfl ?_
        obtain ⟨z18, hz18⟩ : ∃ y : Int32, y = x4 + (1 : Int32) := ⟨_, rfl⟩
        have h := h z18 hz18
        refine vv_iinc (v := z18) (lv2 := [(4, .int z18), (0, .ref (ad 0)), (1, .int f1), (2, .int f2), (3, .int f3)]) (q := 101) X 4 dX10_season_98 rfl (by rw [hz18]; rfl) (Nat.le_of_ble_eq_true rfl) rfl rfl ?_
        refine vv_goto X 46 dX10_season_101 (by decide) ?_
        refine vv_sub (lv' := [(0, .ref (ad 0)), (1, .int f1), (2, .int f2), (3, .int f3), (4, .int z18)]) [1, 2, 3, 4, 0] rfl ?_
        exact ih σ17 z18 h

def wLX10_season_23 (f1 : Int32)  (K131 : St → Int32 → Prop) (P : Int32 → St → Prop) : Nat → St → Int32 → Int32 → Prop
  | 0, _, _, _ => False
  | n + 1, σ, x2, x3 =>
    (f1 ≤ x3 →
    K131 σ x2) ∧
    (¬ f1 ≤ x3 →
    wX10_findBest σ (12 : Int32) (fun σ5 : St =>
    vp_in (0 : Int32) 1536 ∧
    ∀ z7 : Int32, z7 = (x2 + (σ5.1 14 (0 : Int32).toNatClampNeg)) →
    ∃ n25 : Nat, wLX10_season_46 f1 z7 x3 (fun (σ19 : St) =>
    vp_in (12 : Int32) 48 ∧
    (¬ (σ19.1 12 (12 : Int32).toNatClampNeg) = (30 : Int32) →
    wX10_endDay σ19 (12 : Int32) (fun (r22 : Int32) (σ23 : St) =>
    ∀ z24 : Int32, z24 = x3 + (1 : Int32) →
    wLX10_season_23 f1 K131 P n σ23 z7 z24)) ∧
    ((σ19.1 12 (12 : Int32).toNatClampNeg) = (30 : Int32) →
    P z7 σ19)) P n25 σ5 (0 : Int32)))

set_option maxHeartbeats 4000000 in
set_option maxRecDepth 100000 in
theorem twLX10_season_23 {p : Program} {l : Launch} {e : Env} {s : State} {m : MethodId} {args : Array Value} {below : List Frame} {meth : Method} {c : Code} {D : va_G} {cy : Nat → ClassId} {ad : Nat → Nat} (X : XX p s m args meth c cX10_season 5 D cy (wM ad cy) wsX10_season RX10) (hr : meth.sig.returnType = (some .int)) (f1 : Int32)   (K131 : St → Int32 → Prop) {P : Int32 → St → Prop} (hK131 : ∀ (σ : St) (x2 : Int32), K131 σ x2 → VV p l e rmX10_season s m args below meth c (MQ below (va_Qi P (xPost D (wM ad cy)) (xA (wM ad cy))) args s 0 0 (xA (wM ad cy))) 5 D (wM ad cy) σ 131 [(2, .int x2)] []) : ∀ (n : Nat) (σ : St) (x2 : Int32) (x3 : Int32), wLX10_season_23 f1 K131 P n σ x2 x3 → VV p l e rmX10_season s m args below meth c (MQ below (va_Qi P (xPost D (wM ad cy)) (xA (wM ad cy))) args s 0 0 (xA (wM ad cy))) 5 D (wM ad cy) σ 23 [(0, .ref (ad 0)), (1, .int f1), (2, .int x2), (3, .int x3)] [] := by
  intro n
  induction n with
  | zero => intro σ x2 x3 h; exact h.elim
  | succ n ih =>
    intro σ x2 x3 h
    rw [wLX10_season_23] at h
    refine vv_iload_n (q := 24) X 3 dX10_season_23 rfl rfl rfl ?_
    refine vv_iload_n (q := 25) X 1 dX10_season_24 rfl rfl rfl ?_
    refine vv_icmp_ge (q := 28) X 131 dX10_season_25 (by decide) rfl (fun c4 => ?_) (fun c4 => ?_)
    · have h := h.1 c4
      refine vv_sub (lv' := [(2, .int x2)]) [2] rfl ?_
      exact hK131 σ x2 h
    · have h := h.2 c4
      refine vv_aload_n (q := 29) X 0 dX10_season_28 rfl rfl rfl ?_
      refine vv_bipush (q := 31) X (12 : Int32) dX10_season_29 (by decide) rfl ?_
      refine vv_cVv (q := 34) (C := RX10) X 0 10 [.int (12 : Int32)] (kX10_findBest l D X.2.2.1 h) (cwV 1 X.1.2.2.2.2 gX10_season_X10_findBest rfl rfl rfl (by decide +kernel) ⟨Nat.le_of_ble_eq_true rfl, Nat.le_of_ble_eq_true rfl⟩) (Nat.le_of_ble_eq_true rfl) rfl rfl rfl rfl (Nat.le_of_ble_eq_true rfl) dX10_season_31 rfl (fun σ5 h => ?_)
      refine vv_iload_n (q := 35) X 2 dX10_season_34 rfl rfl rfl ?_
      refine vv_aload_n (q := 36) X 0 dX10_season_35 rfl rfl rfl ?_
      refine vv_getf (q := 39) (ref := "HalfLaddersModel") (C := RX10) (T := TX10) (N := 27) X 0 10 20 (Nat.le_of_ble_eq_true rfl) rfl rfl (Nat.le_of_ble_eq_true rfl) (fun _ h => List.mem_cons_of_mem _ (List.mem_append_right _ h)) (List.mem_of_getElem? (i := 1) rfl) rfl rfl dX10_season_36 rfl ?_
      refine vv_iconst (q := 40) X (0 : Int32) dX10_season_39 (by decide) rfl ?_
      obtain ⟨hin6, h⟩ := h
      refine vv_iald (q := 41) X 14 1536 (Nat.le_of_ble_eq_true rfl) (fun _ => rfl) hin6 dX10_season_40 rfl ?_
      refine vv_iadd (q := 42) X dX10_season_41 rfl ?_
      refine vv_topi (fun z7 hz7 => ?_)
      have h := h z7 hz7
      refine vv_istore_n (lv2 := [(2, .int z7), (0, .ref (ad 0)), (1, .int f1), (3, .int x3)]) (q := 43) X dX10_season_42 rfl (Nat.le_of_ble_eq_true rfl) rfl rfl ?_
      refine vv_iconst (q := 44) X (0 : Int32) dX10_season_43 (by decide) rfl ?_
      refine vv_istore (lv2 := [(4, .int (0 : Int32)), (2, .int z7), (0, .ref (ad 0)), (1, .int f1), (3, .int x3)]) (q := 46) X dX10_season_44 (Nat.le_of_ble_eq_true rfl) rfl rfl ?_
      obtain ⟨n25, h⟩ := h
      refine vv_sub (lv' := [(0, .ref (ad 0)), (1, .int f1), (2, .int z7), (3, .int x3), (4, .int (0 : Int32))]) [2, 3, 1, 4, 0] rfl ?_
      refine twLX10_season_46 X hr f1 z7 x3  _ ?_ n25 σ5 (0 : Int32) h
      intro σ19 h
      refine vv_aload_n (q := 105) X 0 dX10_season_104 rfl rfl rfl ?_
      refine vv_getf (q := 108) (ref := "HalfLaddersModel") (C := RX10) (T := TX10) (N := 27) X 0 10 18 (Nat.le_of_ble_eq_true rfl) rfl rfl (Nat.le_of_ble_eq_true rfl) (fun _ h => List.mem_cons_of_mem _ (List.mem_append_right _ h)) (List.mem_of_getElem? (i := 4) rfl) rfl rfl dX10_season_105 rfl ?_
      refine vv_bipush (q := 110) X (12 : Int32) dX10_season_108 (by decide) rfl ?_
      obtain ⟨hin20, h⟩ := h
      refine vv_iald (q := 111) X 12 48 (Nat.le_of_ble_eq_true rfl) (fun _ => rfl) hin20 dX10_season_110 rfl ?_
      refine vv_bipush (q := 113) X (30 : Int32) dX10_season_111 (by decide) rfl ?_
      refine vv_icmp_ne (q := 116) X 118 dX10_season_113 (by decide) rfl (fun c21 => ?_) (fun c21 => ?_)
      · have h := h.1 c21
        refine vv_aload_n (q := 119) X 0 dX10_season_118 rfl rfl rfl ?_
        refine vv_bipush (q := 121) X (12 : Int32) dX10_season_119 (by decide) rfl ?_
        refine vv_cVi (q := 124) (C := RX10) X 0 10 [.int (12 : Int32)] (kX10_endDay l D X.2.2.1 h) (cwV 1 X.1.2.2.2.2 gX10_season_X10_endDay rfl rfl rfl (by decide +kernel) ⟨Nat.le_of_ble_eq_true rfl, Nat.le_of_ble_eq_true rfl⟩) (Nat.le_of_ble_eq_true rfl) rfl rfl rfl rfl (Nat.le_of_ble_eq_true rfl) dX10_season_121 rfl (fun r22 σ23 h => ?_)
        refine vv_pop (q := 125) X dX10_season_124 rfl rfl ?_
        obtain ⟨z24, hz24⟩ : ∃ y : Int32, y = x3 + (1 : Int32) := ⟨_, rfl⟩
        have h := h z24 hz24
        refine vv_iinc (v := z24) (lv2 := [(3, .int z24), (0, .ref (ad 0)), (1, .int f1), (2, .int z7)]) (q := 128) X 3 dX10_season_125 rfl (by rw [hz24]; rfl) (Nat.le_of_ble_eq_true rfl) rfl rfl ?_
        refine vv_goto X 23 dX10_season_128 (by decide) ?_
        refine vv_sub (lv' := [(0, .ref (ad 0)), (1, .int f1), (2, .int z7), (3, .int z24)]) [1, 2, 3, 0] rfl ?_
        exact ih σ23 z7 z24 h
      · have h := h.2 c21
        refine vv_iload_n (q := 117) X 2 dX10_season_116 rfl rfl rfl ?_
        exact vv_iret X hr dX10_season_117 h

def wX10_season (σ : St) (a1 : Int32) (P : Int32 → St → Prop) : Prop :=
wX10_in σ a1 (1 : Int32) (8 : Int32) (fun r1 : Int32 =>
(¬ r1 = 0 →
wX10_copy σ (0 : Int32) (12 : Int32) (fun σ3 : St =>
∃ n28 : Nat, wLX10_season_23 a1 (fun (σ27 : St) (y26 : Int32) =>
P y26 σ27) P n28 σ3 (0 : Int32) (0 : Int32))) ∧
(r1 = 0 →
P (-1 : Int32) σ))

set_option maxHeartbeats 8000000 in
set_option maxRecDepth 100000 in
theorem kX10_season (l : Launch) (D : va_G) {cy : Nat → ClassId} {ad : Nat → Nat} (hw : xOk (wM ad cy)) {σ : St} {a1 : Int32} {P : Int32 → St → Prop} (h : wX10_season σ a1 P) : MI l yX10_season wsX10_season rmX10_season D cy (wM ad cy) [.ref (ad 0), .int a1] σ P := by
  unfold MI
  refine vv_met (cc := cX10_season) (maxL := 5) (ret := (some .int)) hw (by decide +kernel) rfl [.ref (ad 0), .int a1] (Nat.le_of_ble_eq_true rfl) ?_
  intro p e s m args below meth c X hr
  have X : XX p s m args meth c cX10_season 5 D cy (wM ad cy) wsX10_season RX10 := X
  refine vv_sub (lv' := [(0, .ref (ad 0)), (1, .int a1)]) [0, 1] rfl ?_
  rw [wX10_season] at h
  refine vv_iload_n (q := 1) X 1 dX10_season_0 rfl rfl rfl ?_
  refine vv_iconst (q := 2) X (1 : Int32) dX10_season_1 (by decide) rfl ?_
  refine vv_bipush (q := 4) X (8 : Int32) dX10_season_2 (by decide) rfl ?_
  refine vv_cSi (q := 7) X [.int a1, .int (1 : Int32), .int (8 : Int32)] (kX10_in l D X.2.2.1 h) (va_cwS 3 X.1.2.2.2.2 gX10_season_X10_in rfl rfl rfl (by decide +kernel) ⟨Nat.le_of_ble_eq_true rfl, Nat.le_of_ble_eq_true rfl⟩) rfl rfl (Nat.le_of_ble_eq_true rfl) dX10_season_4 rfl (fun r1 u9 h9 => ?_)
  obtain ⟨h9, hu9⟩ := h9
  subst u9
  have h := h9
  refine vv_if_ne (q := 10) X 12 dX10_season_7 (by decide) rfl (fun c2 => ?_) (fun c2 => ?_)
  · have h := h.1 c2
    refine vv_aload_n (q := 13) X 0 dX10_season_12 rfl rfl rfl ?_
    refine vv_iconst (q := 14) X (0 : Int32) dX10_season_13 (by decide) rfl ?_
    refine vv_bipush (q := 16) X (12 : Int32) dX10_season_14 (by decide) rfl ?_
    refine vv_cVv (q := 19) (C := RX10) X 0 10 [.int (0 : Int32), .int (12 : Int32)] (kX10_copy l D X.2.2.1 h) (cwV 2 X.1.2.2.2.2 gX10_season_X10_copy rfl rfl rfl (by decide +kernel) ⟨Nat.le_of_ble_eq_true rfl, Nat.le_of_ble_eq_true rfl⟩) (Nat.le_of_ble_eq_true rfl) rfl rfl rfl rfl (Nat.le_of_ble_eq_true rfl) dX10_season_16 rfl (fun σ3 h => ?_)
    refine vv_iconst (q := 20) X (0 : Int32) dX10_season_19 (by decide) rfl ?_
    refine vv_istore_n (lv2 := [(2, .int (0 : Int32)), (0, .ref (ad 0)), (1, .int a1)]) (q := 21) X dX10_season_20 rfl (Nat.le_of_ble_eq_true rfl) rfl rfl ?_
    refine vv_iconst (q := 22) X (0 : Int32) dX10_season_21 (by decide) rfl ?_
    refine vv_istore_n (lv2 := [(3, .int (0 : Int32)), (2, .int (0 : Int32)), (0, .ref (ad 0)), (1, .int a1)]) (q := 23) X dX10_season_22 rfl (Nat.le_of_ble_eq_true rfl) rfl rfl ?_
    obtain ⟨n28, h⟩ := h
    refine vv_sub (lv' := [(0, .ref (ad 0)), (1, .int a1), (2, .int (0 : Int32)), (3, .int (0 : Int32))]) [2, 3, 1, 0] rfl ?_
    refine twLX10_season_23 X hr a1  _ ?_ n28 σ3 (0 : Int32) (0 : Int32) h
    intro σ27 y26 h
    refine vv_iload_n (q := 132) X 0 dX10_season_131 rfl rfl rfl ?_
    exact vv_iret X hr dX10_season_132 h
  · have h := h.2 c2
    refine vv_iconst (q := 11) X (-1 : Int32) dX10_season_10 (by decide) rfl ?_
    exact vv_iret X hr dX10_season_11 h

/-! X10_findWholes: findWholes()V -/
def rmX10_findWholes : Room := { frames := 1, cells := 0, slots := 0, locals := 22 }
def wLX10_findWholes_23 (f1 : Int32) (σ : St) (K37 : Int32 → Prop) (P : St → Prop) : Nat → Int32 → Prop
  | 0, _ => False
  | n + 1, x2 =>
    (¬ ((f1 >>> (x2 &&& 31)) &&& (1 : Int32)) = 0 →
    K37 x2) ∧
    (((f1 >>> (x2 &&& 31)) &&& (1 : Int32)) = 0 →
    ∀ z6 : Int32, z6 = x2 + (1 : Int32) →
    wLX10_findWholes_23 f1 σ K37 P n z6)

set_option maxHeartbeats 4000000 in
set_option maxRecDepth 100000 in
theorem twLX10_findWholes_23 {p : Program} {l : Launch} {e : Env} {s : State} {m : MethodId} {args : Array Value} {below : List Frame} {meth : Method} {c : Code} {D : va_G} {cy : Nat → ClassId} {ad : Nat → Nat} (X : XX p s m args meth c cX10_findWholes 7 D cy (wM ad cy) wsX10_findWholes RX10) (hr : meth.sig.returnType = none) (f1 : Int32)  (σ : St) (K37 : Int32 → Prop) {P : St → Prop} (hK37 : ∀ (x2 : Int32), K37 x2 → VV p l e rmX10_findWholes s m args below meth c (MQ below (va_Qv P (xPost D (wM ad cy)) (xA (wM ad cy))) args s 0 0 (xA (wM ad cy))) 7 D (wM ad cy) σ 37 [(0, .ref (ad 0)), (1, .int f1), (2, .int x2)] []) : ∀ (n : Nat) (x2 : Int32), wLX10_findWholes_23 f1 σ K37 P n x2 → VV p l e rmX10_findWholes s m args below meth c (MQ below (va_Qv P (xPost D (wM ad cy)) (xA (wM ad cy))) args s 0 0 (xA (wM ad cy))) 7 D (wM ad cy) σ 23 [(0, .ref (ad 0)), (1, .int f1), (2, .int x2)] [] := by
  intro n
  induction n with
  | zero => intro x2 h; exact h.elim
  | succ n ih =>
    intro x2 h
    rw [wLX10_findWholes_23] at h
    refine vv_iload_n (q := 24) X 1 dX10_findWholes_23 rfl rfl rfl ?_
    refine vv_iload_n (q := 25) X 2 dX10_findWholes_24 rfl rfl rfl ?_
    refine vv_ishr (q := 26) X dX10_findWholes_25 rfl ?_
    refine vv_iconst (q := 27) X (1 : Int32) dX10_findWholes_26 (by decide) rfl ?_
    refine vv_iand (q := 28) X dX10_findWholes_27 rfl ?_
    refine vv_if_ne (q := 31) X 37 dX10_findWholes_28 (by decide) rfl (fun c5 => ?_) (fun c5 => ?_)
    · have h := h.1 c5
      exact hK37 x2 h
    · have h := h.2 c5
      obtain ⟨z6, hz6⟩ : ∃ y : Int32, y = x2 + (1 : Int32) := ⟨_, rfl⟩
      have h := h z6 hz6
      refine vv_iinc (v := z6) (lv2 := [(2, .int z6), (0, .ref (ad 0)), (1, .int f1)]) (q := 34) X 2 dX10_findWholes_31 rfl (by rw [hz6]; rfl) (Nat.le_of_ble_eq_true rfl) rfl rfl ?_
      refine vv_goto X 23 dX10_findWholes_34 (by decide) ?_
      refine vv_sub (lv' := [(0, .ref (ad 0)), (1, .int f1), (2, .int z6)]) [1, 2, 0] rfl ?_
      exact ih z6 h

def wLX10_findWholes_58 (f1 : Int32) (f2 : Int32) (f3 : Int32) (σ : St) (K141 : Int32 → Prop) (P : St → Prop) : Nat → Int32 → Int32 → Prop
  | 0, _, _ => False
  | n + 1, x4, x5 =>
    vp_in (0 : Int32) 2 ∧
    ((σ.1 2 (0 : Int32).toNatClampNeg) ≤ x5 →
    K141 x4) ∧
    (¬ (σ.1 2 (0 : Int32).toNatClampNeg) ≤ x5 →
    (¬ ((f3 >>> (x5 &&& 31)) &&& (1 : Int32)) = (1 : Int32) →
    ∀ z15 : Int32, z15 = x5 + (1 : Int32) →
    wLX10_findWholes_58 f1 f2 f3 σ K141 P n x4 z15) ∧
    (((f3 >>> (x5 &&& 31)) &&& (1 : Int32)) = (1 : Int32) →
    wX10_fits σ f2 x5 (fun r16 : Int32 =>
    (r16 = 0 →
    ∀ z18 : Int32, z18 = x5 + (1 : Int32) →
    wLX10_findWholes_58 f1 f2 f3 σ K141 P n x4 z18) ∧
    (¬ r16 = 0 →
    vp_in f2 16 ∧
    vp_in x5 16 ∧
    vp_in (f3 &&& (((1 : Int32) <<< (x5 &&& 31)) ^^^ (-1 : Int32))) 256 ∧
    ∀ z22 : Int32, z22 = (((σ.1 6 f2.toNatClampNeg) + (σ.1 6 x5.toNatClampNeg)) + (σ.1 16 (f3 &&& (((1 : Int32) <<< (x5 &&& 31)) ^^^ (-1 : Int32))).toNatClampNeg)) →
    (z22 ≤ x4 →
    ∀ z24 : Int32, z24 = x5 + (1 : Int32) →
    wLX10_findWholes_58 f1 f2 f3 σ K141 P n x4 z24) ∧
    (¬ z22 ≤ x4 →
    ∀ z25 : Int32, z25 = x5 + (1 : Int32) →
    wLX10_findWholes_58 f1 f2 f3 σ K141 P n z22 z25)))))

set_option maxHeartbeats 4000000 in
set_option maxRecDepth 100000 in
theorem twLX10_findWholes_58 {p : Program} {l : Launch} {e : Env} {s : State} {m : MethodId} {args : Array Value} {below : List Frame} {meth : Method} {c : Code} {D : va_G} {cy : Nat → ClassId} {ad : Nat → Nat} (X : XX p s m args meth c cX10_findWholes 7 D cy (wM ad cy) wsX10_findWholes RX10) (hr : meth.sig.returnType = none) (f1 : Int32) (f2 : Int32) (f3 : Int32)  (σ : St) (K141 : Int32 → Prop) {P : St → Prop} (hK141 : ∀ (x4 : Int32), K141 x4 → VV p l e rmX10_findWholes s m args below meth c (MQ below (va_Qv P (xPost D (wM ad cy)) (xA (wM ad cy))) args s 0 0 (xA (wM ad cy))) 7 D (wM ad cy) σ 141 [(0, .ref (ad 0)), (1, .int f1), (4, .int x4)] []) : ∀ (n : Nat) (x4 : Int32) (x5 : Int32), wLX10_findWholes_58 f1 f2 f3 σ K141 P n x4 x5 → VV p l e rmX10_findWholes s m args below meth c (MQ below (va_Qv P (xPost D (wM ad cy)) (xA (wM ad cy))) args s 0 0 (xA (wM ad cy))) 7 D (wM ad cy) σ 58 [(0, .ref (ad 0)), (1, .int f1), (2, .int f2), (3, .int f3), (4, .int x4), (5, .int x5)] [] := by
  intro n
  induction n with
  | zero => intro x4 x5 h; exact h.elim
  | succ n ih =>
    intro x4 x5 h
    rw [wLX10_findWholes_58] at h
    refine vv_iload (q := 60) X 5 dX10_findWholes_58 rfl rfl ?_
    refine vv_aload_n (q := 61) X 0 dX10_findWholes_60 rfl rfl rfl ?_
    refine vv_getf (q := 64) (ref := "HalfLaddersModel") (C := RX10) (T := TX10) (N := 27) X 0 10 3 (Nat.le_of_ble_eq_true rfl) rfl rfl (Nat.le_of_ble_eq_true rfl) (fun _ h => List.mem_cons_of_mem _ (List.mem_append_right _ h)) (List.mem_of_getElem? (i := 2) rfl) rfl rfl dX10_findWholes_61 rfl ?_
    refine vv_iconst (q := 65) X (0 : Int32) dX10_findWholes_64 (by decide) rfl ?_
    obtain ⟨hin12, h⟩ := h
    refine vv_iald (q := 66) X 2 2 (Nat.le_of_ble_eq_true rfl) (fun _ => rfl) hin12 dX10_findWholes_65 rfl ?_
    refine vv_icmp_ge (q := 69) X 141 dX10_findWholes_66 (by decide) rfl (fun c13 => ?_) (fun c13 => ?_)
    · have h := h.1 c13
      refine vv_sub (lv' := [(0, .ref (ad 0)), (1, .int f1), (4, .int x4)]) [0, 1, 4] rfl ?_
      exact hK141 x4 h
    · have h := h.2 c13
      refine vv_iload_n (q := 70) X 3 dX10_findWholes_69 rfl rfl rfl ?_
      refine vv_iload (q := 72) X 5 dX10_findWholes_70 rfl rfl ?_
      refine vv_ishr (q := 73) X dX10_findWholes_72 rfl ?_
      refine vv_iconst (q := 74) X (1 : Int32) dX10_findWholes_73 (by decide) rfl ?_
      refine vv_iand (q := 75) X dX10_findWholes_74 rfl ?_
      refine vv_iconst (q := 76) X (1 : Int32) dX10_findWholes_75 (by decide) rfl ?_
      refine vv_icmp_ne (q := 79) X 135 dX10_findWholes_76 (by decide) rfl (fun c14 => ?_) (fun c14 => ?_)
      · have h := h.1 c14
        obtain ⟨z15, hz15⟩ : ∃ y : Int32, y = x5 + (1 : Int32) := ⟨_, rfl⟩
        have h := h z15 hz15
        refine vv_iinc (v := z15) (lv2 := [(5, .int z15), (0, .ref (ad 0)), (1, .int f1), (2, .int f2), (3, .int f3), (4, .int x4)]) (q := 138) X 5 dX10_findWholes_135 rfl (by rw [hz15]; rfl) (Nat.le_of_ble_eq_true rfl) rfl rfl ?_
        refine vv_goto X 58 dX10_findWholes_138 (by decide) ?_
        refine vv_sub (lv' := [(0, .ref (ad 0)), (1, .int f1), (2, .int f2), (3, .int f3), (4, .int x4), (5, .int z15)]) [1, 2, 3, 4, 5, 0] rfl ?_
        exact ih x4 z15 h
      · have h := h.2 c14
        refine vv_aload_n (q := 80) X 0 dX10_findWholes_79 rfl rfl rfl ?_
        refine vv_iload_n (q := 81) X 2 dX10_findWholes_80 rfl rfl rfl ?_
        refine vv_iload (q := 83) X 5 dX10_findWholes_81 rfl rfl ?_
        refine vv_cVi (q := 86) (C := RX10) X 0 10 [.int f2, .int x5] (kX10_fits l D X.2.2.1 h) (cwV 2 X.1.2.2.2.2 gX10_findWholes_X10_fits rfl rfl rfl (by decide +kernel) ⟨Nat.le_of_ble_eq_true rfl, Nat.le_of_ble_eq_true rfl⟩) (Nat.le_of_ble_eq_true rfl) rfl rfl rfl rfl (Nat.le_of_ble_eq_true rfl) dX10_findWholes_83 rfl (fun r16 u9 h9 => ?_)
        obtain ⟨h9, hu9⟩ := h9
        subst u9
        have h := h9
        refine vv_if_eq (q := 89) X 135 dX10_findWholes_86 (by decide) rfl (fun c17 => ?_) (fun c17 => ?_)
        · have h := h.1 c17
          obtain ⟨z18, hz18⟩ : ∃ y : Int32, y = x5 + (1 : Int32) := ⟨_, rfl⟩
          have h := h z18 hz18
          refine vv_iinc (v := z18) (lv2 := [(5, .int z18), (0, .ref (ad 0)), (1, .int f1), (2, .int f2), (3, .int f3), (4, .int x4)]) (q := 138) X 5 dX10_findWholes_135 rfl (by rw [hz18]; rfl) (Nat.le_of_ble_eq_true rfl) rfl rfl ?_
          refine vv_goto X 58 dX10_findWholes_138 (by decide) ?_
          refine vv_sub (lv' := [(0, .ref (ad 0)), (1, .int f1), (2, .int f2), (3, .int f3), (4, .int x4), (5, .int z18)]) [1, 2, 3, 4, 5, 0] rfl ?_
          exact ih x4 z18 h
        · have h := h.2 c17
          refine vv_aload_n (q := 90) X 0 dX10_findWholes_89 rfl rfl rfl ?_
          refine vv_getf (q := 93) (ref := "HalfLaddersModel") (C := RX10) (T := TX10) (N := 27) X 0 10 7 (Nat.le_of_ble_eq_true rfl) rfl rfl (Nat.le_of_ble_eq_true rfl) (fun _ h => List.mem_cons_of_mem _ (List.mem_append_right _ h)) (List.mem_of_getElem? (i := 3) rfl) rfl rfl dX10_findWholes_90 rfl ?_
          refine vv_iload_n (q := 94) X 2 dX10_findWholes_93 rfl rfl rfl ?_
          obtain ⟨hin19, h⟩ := h
          refine vv_iald (q := 95) X 6 16 (Nat.le_of_ble_eq_true rfl) (fun _ => rfl) hin19 dX10_findWholes_94 rfl ?_
          refine vv_aload_n (q := 96) X 0 dX10_findWholes_95 rfl rfl rfl ?_
          refine vv_getf (q := 99) (ref := "HalfLaddersModel") (C := RX10) (T := TX10) (N := 27) X 0 10 7 (Nat.le_of_ble_eq_true rfl) rfl rfl (Nat.le_of_ble_eq_true rfl) (fun _ h => List.mem_cons_of_mem _ (List.mem_append_right _ h)) (List.mem_of_getElem? (i := 3) rfl) rfl rfl dX10_findWholes_96 rfl ?_
          refine vv_iload (q := 101) X 5 dX10_findWholes_99 rfl rfl ?_
          obtain ⟨hin20, h⟩ := h
          refine vv_iald (q := 102) X 6 16 (Nat.le_of_ble_eq_true rfl) (fun _ => rfl) hin20 dX10_findWholes_101 rfl ?_
          refine vv_iadd (q := 103) X dX10_findWholes_102 rfl ?_
          refine vv_aload_n (q := 104) X 0 dX10_findWholes_103 rfl rfl rfl ?_
          refine vv_getf (q := 107) (ref := "HalfLaddersModel") (C := RX10) (T := TX10) (N := 27) X 0 10 22 (Nat.le_of_ble_eq_true rfl) rfl rfl (Nat.le_of_ble_eq_true rfl) (fun _ h => List.mem_cons_of_mem _ (List.mem_append_right _ h)) (List.mem_of_getElem? (i := 1) rfl) rfl rfl dX10_findWholes_104 rfl ?_
          refine vv_iload_n (q := 108) X 3 dX10_findWholes_107 rfl rfl rfl ?_
          refine vv_iconst (q := 109) X (1 : Int32) dX10_findWholes_108 (by decide) rfl ?_
          refine vv_iload (q := 111) X 5 dX10_findWholes_109 rfl rfl ?_
          refine vv_ishl (q := 112) X dX10_findWholes_111 rfl ?_
          refine vv_iconst (q := 113) X (-1 : Int32) dX10_findWholes_112 (by decide) rfl ?_
          refine vv_ixor (q := 114) X dX10_findWholes_113 rfl ?_
          refine vv_iand (q := 115) X dX10_findWholes_114 rfl ?_
          obtain ⟨hin21, h⟩ := h
          refine vv_iald (q := 116) X 16 256 (Nat.le_of_ble_eq_true rfl) (fun _ => rfl) hin21 dX10_findWholes_115 rfl ?_
          refine vv_iadd (q := 117) X dX10_findWholes_116 rfl ?_
          refine vv_topi (fun z22 hz22 => ?_)
          have h := h z22 hz22
          refine vv_istore (lv2 := [(6, .int z22), (0, .ref (ad 0)), (1, .int f1), (2, .int f2), (3, .int f3), (4, .int x4), (5, .int x5)]) (q := 119) X dX10_findWholes_117 (Nat.le_of_ble_eq_true rfl) rfl rfl ?_
          refine vv_iload (q := 121) X 0 dX10_findWholes_119 rfl rfl ?_
          refine vv_iload (q := 123) X 5 dX10_findWholes_121 rfl rfl ?_
          refine vv_icmp_le (q := 126) X 131 dX10_findWholes_123 (by decide) rfl (fun c23 => ?_) (fun c23 => ?_)
          · have h := h.1 c23
            refine vv_iload (q := 133) X 5 dX10_findWholes_131 rfl rfl ?_
            refine vv_istore (lv2 := [(4, .int x4), (6, .int z22), (0, .ref (ad 0)), (1, .int f1), (2, .int f2), (3, .int f3), (5, .int x5)]) (q := 135) X dX10_findWholes_133 (Nat.le_of_ble_eq_true rfl) rfl rfl ?_
            obtain ⟨z24, hz24⟩ : ∃ y : Int32, y = x5 + (1 : Int32) := ⟨_, rfl⟩
            have h := h z24 hz24
            refine vv_iinc (v := z24) (lv2 := [(5, .int z24), (4, .int x4), (6, .int z22), (0, .ref (ad 0)), (1, .int f1), (2, .int f2), (3, .int f3)]) (q := 138) X 6 dX10_findWholes_135 rfl (by rw [hz24]; rfl) (Nat.le_of_ble_eq_true rfl) rfl rfl ?_
            refine vv_goto X 58 dX10_findWholes_138 (by decide) ?_
            refine vv_sub (lv' := [(0, .ref (ad 0)), (1, .int f1), (2, .int f2), (3, .int f3), (4, .int x4), (5, .int z24)]) [3, 4, 5, 6, 1, 0] rfl ?_
            exact ih x4 z24 h
          · have h := h.2 c23
            refine vv_iload (q := 128) X 0 dX10_findWholes_126 rfl rfl ?_
            refine vv_goto X 133 dX10_findWholes_128 (by decide) ?_
            refine vv_istore (lv2 := [(4, .int z22), (6, .int z22), (0, .ref (ad 0)), (1, .int f1), (2, .int f2), (3, .int f3), (5, .int x5)]) (q := 135) X dX10_findWholes_133 (Nat.le_of_ble_eq_true rfl) rfl rfl ?_
            obtain ⟨z25, hz25⟩ : ∃ y : Int32, y = x5 + (1 : Int32) := ⟨_, rfl⟩
            have h := h z25 hz25
            refine vv_iinc (v := z25) (lv2 := [(5, .int z25), (4, .int z22), (6, .int z22), (0, .ref (ad 0)), (1, .int f1), (2, .int f2), (3, .int f3)]) (q := 138) X 6 dX10_findWholes_135 rfl (by rw [hz25]; rfl) (Nat.le_of_ble_eq_true rfl) rfl rfl ?_
            refine vv_goto X 58 dX10_findWholes_138 (by decide) ?_
            refine vv_sub (lv' := [(0, .ref (ad 0)), (1, .int f1), (2, .int f2), (3, .int f3), (4, .int z22), (5, .int z25)]) [3, 4, 5, 6, 1, 0] rfl ?_
            exact ih z22 z25 h

def wLX10_findWholes_9   (K155 : St → Prop) (P : St → Prop) : Nat → St → Int32 → Prop
  | 0, _, _ => False
  | n + 1, σ, x1 =>
    vp_in (0 : Int32) 2 ∧
    (((1 : Int32) <<< ((σ.1 2 (0 : Int32).toNatClampNeg) &&& 31)) ≤ x1 →
    K155 σ) ∧
    (¬ ((1 : Int32) <<< ((σ.1 2 (0 : Int32).toNatClampNeg) &&& 31)) ≤ x1 →
    ∃ n31 : Nat, wLX10_findWholes_23 x1 σ (fun (y7 : Int32) =>
    ∀ z8 : Int32, z8 = (x1 &&& (((1 : Int32) <<< (y7 &&& 31)) ^^^ (-1 : Int32))) →
    vp_in z8 256 ∧
    ∀ z10 : Int32, z10 = (σ.1 16 z8.toNatClampNeg) →
    ∀ z11 : Int32, z11 = (y7 + (1 : Int32)) →
    ∃ n30 : Nat, wLX10_findWholes_58 x1 y7 z8 σ (fun (y26 : Int32) =>
    vp_in x1 256 ∧
    ∀ σ28 : St, σ28 = sI σ 16 x1.toNatClampNeg y26 →
    ∀ z29 : Int32, z29 = x1 + (1 : Int32) →
    wLX10_findWholes_9 K155 P n σ28 z29) P n30 z10 z11) P n31 (0 : Int32))

set_option maxHeartbeats 4000000 in
set_option maxRecDepth 100000 in
theorem twLX10_findWholes_9 {p : Program} {l : Launch} {e : Env} {s : State} {m : MethodId} {args : Array Value} {below : List Frame} {meth : Method} {c : Code} {D : va_G} {cy : Nat → ClassId} {ad : Nat → Nat} (X : XX p s m args meth c cX10_findWholes 7 D cy (wM ad cy) wsX10_findWholes RX10) (hr : meth.sig.returnType = none)    (K155 : St → Prop) {P : St → Prop} (hK155 : ∀ (σ : St), K155 σ → VV p l e rmX10_findWholes s m args below meth c (MQ below (va_Qv P (xPost D (wM ad cy)) (xA (wM ad cy))) args s 0 0 (xA (wM ad cy))) 7 D (wM ad cy) σ 155 [] []) : ∀ (n : Nat) (σ : St) (x1 : Int32), wLX10_findWholes_9 K155 P n σ x1 → VV p l e rmX10_findWholes s m args below meth c (MQ below (va_Qv P (xPost D (wM ad cy)) (xA (wM ad cy))) args s 0 0 (xA (wM ad cy))) 7 D (wM ad cy) σ 9 [(0, .ref (ad 0)), (1, .int x1)] [] := by
  intro n
  induction n with
  | zero => intro σ x1 h; exact h.elim
  | succ n ih =>
    intro σ x1 h
    rw [wLX10_findWholes_9] at h
    refine vv_iload_n (q := 10) X 1 dX10_findWholes_9 rfl rfl rfl ?_
    refine vv_iconst (q := 11) X (1 : Int32) dX10_findWholes_10 (by decide) rfl ?_
    refine vv_aload_n (q := 12) X 0 dX10_findWholes_11 rfl rfl rfl ?_
    refine vv_getf (q := 15) (ref := "HalfLaddersModel") (C := RX10) (T := TX10) (N := 27) X 0 10 3 (Nat.le_of_ble_eq_true rfl) rfl rfl (Nat.le_of_ble_eq_true rfl) (fun _ h => List.mem_cons_of_mem _ (List.mem_append_right _ h)) (List.mem_of_getElem? (i := 2) rfl) rfl rfl dX10_findWholes_12 rfl ?_
    refine vv_iconst (q := 16) X (0 : Int32) dX10_findWholes_15 (by decide) rfl ?_
    obtain ⟨hin3, h⟩ := h
    refine vv_iald (q := 17) X 2 2 (Nat.le_of_ble_eq_true rfl) (fun _ => rfl) hin3 dX10_findWholes_16 rfl ?_
    refine vv_ishl (q := 18) X dX10_findWholes_17 rfl ?_
    refine vv_icmp_ge (q := 21) X 155 dX10_findWholes_18 (by decide) rfl (fun c4 => ?_) (fun c4 => ?_)
    · have h := h.1 c4
      refine vv_sub (lv' := []) [] rfl ?_
      exact hK155 σ h
    · have h := h.2 c4
      refine vv_iconst (q := 22) X (0 : Int32) dX10_findWholes_21 (by decide) rfl ?_
      refine vv_istore_n (lv2 := [(2, .int (0 : Int32)), (0, .ref (ad 0)), (1, .int x1)]) (q := 23) X dX10_findWholes_22 rfl (Nat.le_of_ble_eq_true rfl) rfl rfl ?_
      obtain ⟨n31, h⟩ := h
      refine vv_sub (lv' := [(0, .ref (ad 0)), (1, .int x1), (2, .int (0 : Int32))]) [1, 2, 0] rfl ?_
      refine twLX10_findWholes_23 X hr x1  σ _ ?_ n31 (0 : Int32) h
      intro y7 h
      refine vv_iload_n (q := 38) X 1 dX10_findWholes_37 rfl rfl rfl ?_
      refine vv_iconst (q := 39) X (1 : Int32) dX10_findWholes_38 (by decide) rfl ?_
      refine vv_iload_n (q := 40) X 2 dX10_findWholes_39 rfl rfl rfl ?_
      refine vv_ishl (q := 41) X dX10_findWholes_40 rfl ?_
      refine vv_iconst (q := 42) X (-1 : Int32) dX10_findWholes_41 (by decide) rfl ?_
      refine vv_ixor (q := 43) X dX10_findWholes_42 rfl ?_
      refine vv_iand (q := 44) X dX10_findWholes_43 rfl ?_
      refine vv_topi (fun z8 hz8 => ?_)
      have h := h z8 hz8
      refine vv_istore_n (lv2 := [(3, .int z8), (0, .ref (ad 0)), (1, .int x1), (2, .int y7)]) (q := 45) X dX10_findWholes_44 rfl (Nat.le_of_ble_eq_true rfl) rfl rfl ?_
      refine vv_aload_n (q := 46) X 1 dX10_findWholes_45 rfl rfl rfl ?_
      refine vv_getf (q := 49) (ref := "HalfLaddersModel") (C := RX10) (T := TX10) (N := 27) X 0 10 22 (Nat.le_of_ble_eq_true rfl) rfl rfl (Nat.le_of_ble_eq_true rfl) (fun _ h => List.mem_cons_of_mem _ (List.mem_append_right _ h)) (List.mem_of_getElem? (i := 1) rfl) rfl rfl dX10_findWholes_46 rfl ?_
      refine vv_iload_n (q := 50) X 0 dX10_findWholes_49 rfl rfl rfl ?_
      obtain ⟨hin9, h⟩ := h
      refine vv_iald (q := 51) X 16 256 (Nat.le_of_ble_eq_true rfl) (fun _ => rfl) hin9 dX10_findWholes_50 rfl ?_
      refine vv_topi (fun z10 hz10 => ?_)
      have h := h z10 hz10
      refine vv_istore (lv2 := [(4, .int z10), (3, .int z8), (0, .ref (ad 0)), (1, .int x1), (2, .int y7)]) (q := 53) X dX10_findWholes_51 (Nat.le_of_ble_eq_true rfl) rfl rfl ?_
      refine vv_iload_n (q := 54) X 4 dX10_findWholes_53 rfl rfl rfl ?_
      refine vv_iconst (q := 55) X (1 : Int32) dX10_findWholes_54 (by decide) rfl ?_
      refine vv_iadd (q := 56) X dX10_findWholes_55 rfl ?_
      refine vv_topi (fun z11 hz11 => ?_)
      have h := h z11 hz11
      refine vv_istore (lv2 := [(5, .int z11), (4, .int z10), (3, .int z8), (0, .ref (ad 0)), (1, .int x1), (2, .int y7)]) (q := 58) X dX10_findWholes_56 (Nat.le_of_ble_eq_true rfl) rfl rfl ?_
      obtain ⟨n30, h⟩ := h
      refine vv_sub (lv' := [(0, .ref (ad 0)), (1, .int x1), (2, .int y7), (3, .int z8), (4, .int z10), (5, .int z11)]) [3, 4, 5, 2, 1, 0] rfl ?_
      refine twLX10_findWholes_58 X hr x1 y7 z8  σ _ ?_ n30 z10 z11 h
      intro y26 h
      refine vv_aload_n (q := 142) X 0 dX10_findWholes_141 rfl rfl rfl ?_
      refine vv_getf (q := 145) (ref := "HalfLaddersModel") (C := RX10) (T := TX10) (N := 27) X 0 10 22 (Nat.le_of_ble_eq_true rfl) rfl rfl (Nat.le_of_ble_eq_true rfl) (fun _ h => List.mem_cons_of_mem _ (List.mem_append_right _ h)) (List.mem_of_getElem? (i := 1) rfl) rfl rfl dX10_findWholes_142 rfl ?_
      refine vv_iload_n (q := 146) X 1 dX10_findWholes_145 rfl rfl rfl ?_
      refine vv_iload (q := 148) X 2 dX10_findWholes_146 rfl rfl ?_
      obtain ⟨hin27, h⟩ := h
      refine vv_iast (q := 149) X 16 256 (Nat.le_of_ble_eq_true rfl) (fun _ => rfl) hin27 dX10_findWholes_148 rfl ?_
      refine vv_nm (fun σ28 hσ28 => ?_)
      have h := h σ28 hσ28
      obtain ⟨z29, hz29⟩ : ∃ y : Int32, y = x1 + (1 : Int32) := ⟨_, rfl⟩
      have h := h z29 hz29
      refine vv_iinc (v := z29) (lv2 := [(1, .int z29), (0, .ref (ad 0)), (4, .int y26)]) (q := 152) X 1 dX10_findWholes_149 rfl (by rw [hz29]; rfl) (Nat.le_of_ble_eq_true rfl) rfl rfl ?_
      refine vv_goto X 9 dX10_findWholes_152 (by decide) ?_
      refine vv_sub (lv' := [(0, .ref (ad 0)), (1, .int z29)]) [1, 0] rfl ?_
      exact ih σ28 z29 h

def wX10_findWholes (σ : St)  (P : St → Prop) : Prop :=
vp_in (0 : Int32) 256 ∧
∀ σ2 : St, σ2 = sI σ 16 (0 : Int32).toNatClampNeg (0 : Int32) →
∃ n33 : Nat, wLX10_findWholes_9 (fun (σ32 : St) =>
P σ32) P n33 σ2 (1 : Int32)

set_option maxHeartbeats 8000000 in
set_option maxRecDepth 100000 in
theorem kX10_findWholes (l : Launch) (D : va_G) {cy : Nat → ClassId} {ad : Nat → Nat} (hw : xOk (wM ad cy)) {σ : St}  {P : St → Prop} (h : wX10_findWholes σ  P) : MV l yX10_findWholes wsX10_findWholes rmX10_findWholes D cy (wM ad cy) [.ref (ad 0)] σ P := by
  unfold MV
  refine vv_met (cc := cX10_findWholes) (maxL := 7) (ret := none) hw (by decide +kernel) rfl [.ref (ad 0)] (Nat.le_of_ble_eq_true rfl) ?_
  intro p e s m args below meth c X hr
  have X : XX p s m args meth c cX10_findWholes 7 D cy (wM ad cy) wsX10_findWholes RX10 := X
  refine vv_sub (lv' := [(0, .ref (ad 0))]) [0] rfl ?_
  rw [wX10_findWholes] at h
  refine vv_aload_n (q := 1) X 0 dX10_findWholes_0 rfl rfl rfl ?_
  refine vv_getf (q := 4) (ref := "HalfLaddersModel") (C := RX10) (T := TX10) (N := 27) X 0 10 22 (Nat.le_of_ble_eq_true rfl) rfl rfl (Nat.le_of_ble_eq_true rfl) (fun _ h => List.mem_cons_of_mem _ (List.mem_append_right _ h)) (List.mem_of_getElem? (i := 1) rfl) rfl rfl dX10_findWholes_1 rfl ?_
  refine vv_iconst (q := 5) X (0 : Int32) dX10_findWholes_4 (by decide) rfl ?_
  refine vv_iconst (q := 6) X (0 : Int32) dX10_findWholes_5 (by decide) rfl ?_
  obtain ⟨hin1, h⟩ := h
  refine vv_iast (q := 7) X 16 256 (Nat.le_of_ble_eq_true rfl) (fun _ => rfl) hin1 dX10_findWholes_6 rfl ?_
  refine vv_nm (fun σ2 hσ2 => ?_)
  have h := h σ2 hσ2
  refine vv_iconst (q := 8) X (1 : Int32) dX10_findWholes_7 (by decide) rfl ?_
  refine vv_istore_n (lv2 := [(1, .int (1 : Int32)), (0, .ref (ad 0))]) (q := 9) X dX10_findWholes_8 rfl (Nat.le_of_ble_eq_true rfl) rfl rfl ?_
  obtain ⟨n33, h⟩ := h
  refine vv_sub (lv' := [(0, .ref (ad 0)), (1, .int (1 : Int32))]) [1, 0] rfl ?_
  refine twLX10_findWholes_9 X hr  _ ?_ n33 σ2 (1 : Int32) h
  intro σ32 h
  exact vv_vret X hr dX10_findWholes_155 h

/-! X10_whole: whole(I)I -/
def rmX10_whole : Room := { frames := 2, cells := 0, slots := 0, locals := 48 }
def wX10_whole (σ : St) (a1 : Int32) (P : Int32 → St → Prop) : Prop :=
wX10_findWholes σ  (fun σ1 : St =>
vp_in (0 : Int32) 2 ∧
vp_in (a1 &&& (((1 : Int32) <<< ((σ1.1 2 (0 : Int32).toNatClampNeg) &&& 31)) - (1 : Int32))) 256 ∧
P (σ1.1 16 (a1 &&& (((1 : Int32) <<< ((σ1.1 2 (0 : Int32).toNatClampNeg) &&& 31)) - (1 : Int32))).toNatClampNeg) σ1)

set_option maxHeartbeats 8000000 in
set_option maxRecDepth 100000 in
theorem kX10_whole (l : Launch) (D : va_G) {cy : Nat → ClassId} {ad : Nat → Nat} (hw : xOk (wM ad cy)) {σ : St} {a1 : Int32} {P : Int32 → St → Prop} (h : wX10_whole σ a1 P) : MI l yX10_whole wsX10_whole rmX10_whole D cy (wM ad cy) [.ref (ad 0), .int a1] σ P := by
  unfold MI
  refine vv_met (cc := cX10_whole) (maxL := 2) (ret := (some .int)) hw (by decide +kernel) rfl [.ref (ad 0), .int a1] (Nat.le_of_ble_eq_true rfl) ?_
  intro p e s m args below meth c X hr
  have X : XX p s m args meth c cX10_whole 2 D cy (wM ad cy) wsX10_whole RX10 := X
  refine vv_sub (lv' := [(0, .ref (ad 0)), (1, .int a1)]) [0, 1] rfl ?_
  rw [wX10_whole] at h
  refine vv_aload_n (q := 1) X 0 dX10_whole_0 rfl rfl rfl ?_
  refine vv_cVv (q := 4) (C := RX10) X 0 10 [] (kX10_findWholes l D X.2.2.1 h) (cwV 0 X.1.2.2.2.2 gX10_whole_X10_findWholes rfl rfl rfl (by decide +kernel) ⟨Nat.le_of_ble_eq_true rfl, Nat.le_of_ble_eq_true rfl⟩) (Nat.le_of_ble_eq_true rfl) rfl rfl rfl rfl (Nat.le_of_ble_eq_true rfl) dX10_whole_1 rfl (fun σ1 h => ?_)
  refine vv_aload_n (q := 5) X 0 dX10_whole_4 rfl rfl rfl ?_
  refine vv_getf (q := 8) (ref := "HalfLaddersModel") (C := RX10) (T := TX10) (N := 27) X 0 10 22 (Nat.le_of_ble_eq_true rfl) rfl rfl (Nat.le_of_ble_eq_true rfl) (fun _ h => List.mem_cons_of_mem _ (List.mem_append_right _ h)) (List.mem_of_getElem? (i := 1) rfl) rfl rfl dX10_whole_5 rfl ?_
  refine vv_iload_n (q := 9) X 1 dX10_whole_8 rfl rfl rfl ?_
  refine vv_iconst (q := 10) X (1 : Int32) dX10_whole_9 (by decide) rfl ?_
  refine vv_aload_n (q := 11) X 0 dX10_whole_10 rfl rfl rfl ?_
  refine vv_getf (q := 14) (ref := "HalfLaddersModel") (C := RX10) (T := TX10) (N := 27) X 0 10 3 (Nat.le_of_ble_eq_true rfl) rfl rfl (Nat.le_of_ble_eq_true rfl) (fun _ h => List.mem_cons_of_mem _ (List.mem_append_right _ h)) (List.mem_of_getElem? (i := 2) rfl) rfl rfl dX10_whole_11 rfl ?_
  refine vv_iconst (q := 15) X (0 : Int32) dX10_whole_14 (by decide) rfl ?_
  obtain ⟨hin2, h⟩ := h
  refine vv_iald (q := 16) X 2 2 (Nat.le_of_ble_eq_true rfl) (fun _ => rfl) hin2 dX10_whole_15 rfl ?_
  refine vv_ishl (q := 17) X dX10_whole_16 rfl ?_
  refine vv_iconst (q := 18) X (1 : Int32) dX10_whole_17 (by decide) rfl ?_
  refine vv_isub (q := 19) X dX10_whole_18 rfl ?_
  refine vv_iand (q := 20) X dX10_whole_19 rfl ?_
  obtain ⟨hin3, h⟩ := h
  refine vv_iald (q := 21) X 16 256 (Nat.le_of_ble_eq_true rfl) (fun _ => rfl) hin3 dX10_whole_20 rfl ?_
  exact vv_iret X hr dX10_whole_21 h

/-! X10_orders: orders(I)I -/
def rmX10_orders : Room := { frames := 0, cells := 0, slots := 0, locals := 0 }
def wLX10_orders_4 (f0 : Int32) (σ : St) (K19 : Int32 → Prop) (P : Int32 → Prop) : Nat → Int32 → Int32 → Prop
  | 0, _, _ => False
  | n + 1, x1, x2 =>
    (f0 < x2 →
    K19 x1) ∧
    (¬ f0 < x2 →
    ∀ z2 : Int32, z2 = (x1 * x2) →
    ∀ z3 : Int32, z3 = x2 + (1 : Int32) →
    wLX10_orders_4 f0 σ K19 P n z2 z3)

set_option maxHeartbeats 4000000 in
set_option maxRecDepth 100000 in
theorem twLX10_orders_4 {p : Program} {l : Launch} {e : Env} {s : State} {m : MethodId} {args : Array Value} {below : List Frame} {meth : Method} {c : Code} {D : va_G} {cy : Nat → ClassId} {ad : Nat → Nat} (X : XX p s m args meth c cX10_orders 3 D cy (wM ad cy) wsX10_orders RX10) (hr : meth.sig.returnType = (some .int)) (f0 : Int32)  (σ : St) (K19 : Int32 → Prop) {P : Int32 → Prop} (hK19 : ∀ (x1 : Int32), K19 x1 → VV p l e rmX10_orders s m args below meth c (MQ below (va_Qi (fun r u => P r ∧ u = σ) (xPost D (wM ad cy)) (xA (wM ad cy))) args s 0 0 (xA (wM ad cy))) 3 D (wM ad cy) σ 19 [(1, .int x1)] []) : ∀ (n : Nat) (x1 : Int32) (x2 : Int32), wLX10_orders_4 f0 σ K19 P n x1 x2 → VV p l e rmX10_orders s m args below meth c (MQ below (va_Qi (fun r u => P r ∧ u = σ) (xPost D (wM ad cy)) (xA (wM ad cy))) args s 0 0 (xA (wM ad cy))) 3 D (wM ad cy) σ 4 [(0, .int f0), (1, .int x1), (2, .int x2)] [] := by
  intro n
  induction n with
  | zero => intro x1 x2 h; exact h.elim
  | succ n ih =>
    intro x1 x2 h
    rw [wLX10_orders_4] at h
    refine vv_iload_n (q := 5) X 2 dX10_orders_4 rfl rfl rfl ?_
    refine vv_iload_n (q := 6) X 0 dX10_orders_5 rfl rfl rfl ?_
    refine vv_icmp_gt (q := 9) X 19 dX10_orders_6 (by decide) rfl (fun c1 => ?_) (fun c1 => ?_)
    · have h := h.1 c1
      refine vv_sub (lv' := [(1, .int x1)]) [1] rfl ?_
      exact hK19 x1 h
    · have h := h.2 c1
      refine vv_iload_n (q := 10) X 1 dX10_orders_9 rfl rfl rfl ?_
      refine vv_iload_n (q := 11) X 2 dX10_orders_10 rfl rfl rfl ?_
      refine vv_imul (q := 12) X dX10_orders_11 rfl ?_
      refine vv_topi (fun z2 hz2 => ?_)
      have h := h z2 hz2
      refine vv_istore_n (lv2 := [(1, .int z2), (0, .int f0), (2, .int x2)]) (q := 13) X dX10_orders_12 rfl (Nat.le_of_ble_eq_true rfl) rfl rfl ?_
      obtain ⟨z3, hz3⟩ : ∃ y : Int32, y = x2 + (1 : Int32) := ⟨_, rfl⟩
      have h := h z3 hz3
      refine vv_iinc (v := z3) (lv2 := [(2, .int z3), (1, .int z2), (0, .int f0)]) (q := 16) X 2 dX10_orders_13 rfl (by rw [hz3]; rfl) (Nat.le_of_ble_eq_true rfl) rfl rfl ?_
      refine vv_goto X 4 dX10_orders_16 (by decide) ?_
      refine vv_sub (lv' := [(0, .int f0), (1, .int z2), (2, .int z3)]) [2, 1, 0] rfl ?_
      exact ih z2 z3 h

def wX10_orders (σ : St) (a0 : Int32) (P : Int32 → Prop) : Prop :=
∃ n5 : Nat, wLX10_orders_4 a0 σ (fun (y4 : Int32) =>
P y4) P n5 (1 : Int32) (2 : Int32)

set_option maxHeartbeats 8000000 in
set_option maxRecDepth 100000 in
theorem kX10_orders (l : Launch) (D : va_G) {cy : Nat → ClassId} {ad : Nat → Nat} (hw : xOk (wM ad cy)) {σ : St} {a0 : Int32} {P : Int32 → Prop} (h : wX10_orders σ a0 P) : MI l yX10_orders wsX10_orders rmX10_orders D cy (wM ad cy) [.int a0] σ (fun r u => P r ∧ u = σ) := by
  unfold MI
  refine vv_met (cc := cX10_orders) (maxL := 3) (ret := (some .int)) hw (by decide +kernel) rfl [.int a0] (Nat.le_of_ble_eq_true rfl) ?_
  intro p e s m args below meth c X hr
  have X : XX p s m args meth c cX10_orders 3 D cy (wM ad cy) wsX10_orders RX10 := X
  refine vv_sub (lv' := [(0, .int a0)]) [0] rfl ?_
  rw [wX10_orders] at h
  refine vv_iconst (q := 1) X (1 : Int32) dX10_orders_0 (by decide) rfl ?_
  refine vv_istore_n (lv2 := [(1, .int (1 : Int32)), (0, .int a0)]) (q := 2) X dX10_orders_1 rfl (Nat.le_of_ble_eq_true rfl) rfl rfl ?_
  refine vv_iconst (q := 3) X (2 : Int32) dX10_orders_2 (by decide) rfl ?_
  refine vv_istore_n (lv2 := [(2, .int (2 : Int32)), (1, .int (1 : Int32)), (0, .int a0)]) (q := 4) X dX10_orders_3 rfl (Nat.le_of_ble_eq_true rfl) rfl rfl ?_
  obtain ⟨n5, h⟩ := h
  refine vv_sub (lv' := [(0, .int a0), (1, .int (1 : Int32)), (2, .int (2 : Int32))]) [2, 1, 0] rfl ?_
  refine twLX10_orders_4 X hr a0  σ _ ?_ n5 (1 : Int32) (2 : Int32) h
  intro y4 h
  refine vv_iload_n (q := 20) X 0 dX10_orders_19 rfl rfl rfl ?_
  exact vv_iret X hr dX10_orders_20 ⟨h, rfl⟩

/-! X10_bitsIn: bitsIn(I)I -/
def rmX10_bitsIn : Room := { frames := 0, cells := 0, slots := 0, locals := 0 }
def wLX10_bitsIn_4 (f0 : Int32) (σ : St) (K24 : Int32 → Prop) (P : Int32 → Prop) : Nat → Int32 → Int32 → Prop
  | 0, _, _ => False
  | n + 1, x1, x2 =>
    ((8 : Int32) ≤ x2 →
    K24 x1) ∧
    (¬ (8 : Int32) ≤ x2 →
    ∀ z2 : Int32, z2 = (x1 + ((f0 >>> (x2 &&& 31)) &&& (1 : Int32))) →
    ∀ z3 : Int32, z3 = x2 + (1 : Int32) →
    wLX10_bitsIn_4 f0 σ K24 P n z2 z3)

set_option maxHeartbeats 4000000 in
set_option maxRecDepth 100000 in
theorem twLX10_bitsIn_4 {p : Program} {l : Launch} {e : Env} {s : State} {m : MethodId} {args : Array Value} {below : List Frame} {meth : Method} {c : Code} {D : va_G} {cy : Nat → ClassId} {ad : Nat → Nat} (X : XX p s m args meth c cX10_bitsIn 3 D cy (wM ad cy) wsX10_bitsIn RX10) (hr : meth.sig.returnType = (some .int)) (f0 : Int32)  (σ : St) (K24 : Int32 → Prop) {P : Int32 → Prop} (hK24 : ∀ (x1 : Int32), K24 x1 → VV p l e rmX10_bitsIn s m args below meth c (MQ below (va_Qi (fun r u => P r ∧ u = σ) (xPost D (wM ad cy)) (xA (wM ad cy))) args s 0 0 (xA (wM ad cy))) 3 D (wM ad cy) σ 24 [(1, .int x1)] []) : ∀ (n : Nat) (x1 : Int32) (x2 : Int32), wLX10_bitsIn_4 f0 σ K24 P n x1 x2 → VV p l e rmX10_bitsIn s m args below meth c (MQ below (va_Qi (fun r u => P r ∧ u = σ) (xPost D (wM ad cy)) (xA (wM ad cy))) args s 0 0 (xA (wM ad cy))) 3 D (wM ad cy) σ 4 [(0, .int f0), (1, .int x1), (2, .int x2)] [] := by
  intro n
  induction n with
  | zero => intro x1 x2 h; exact h.elim
  | succ n ih =>
    intro x1 x2 h
    rw [wLX10_bitsIn_4] at h
    refine vv_iload_n (q := 5) X 2 dX10_bitsIn_4 rfl rfl rfl ?_
    refine vv_bipush (q := 7) X (8 : Int32) dX10_bitsIn_5 (by decide) rfl ?_
    refine vv_icmp_ge (q := 10) X 24 dX10_bitsIn_7 (by decide) rfl (fun c1 => ?_) (fun c1 => ?_)
    · have h := h.1 c1
      refine vv_sub (lv' := [(1, .int x1)]) [1] rfl ?_
      exact hK24 x1 h
    · have h := h.2 c1
      refine vv_iload_n (q := 11) X 1 dX10_bitsIn_10 rfl rfl rfl ?_
      refine vv_iload_n (q := 12) X 0 dX10_bitsIn_11 rfl rfl rfl ?_
      refine vv_iload_n (q := 13) X 2 dX10_bitsIn_12 rfl rfl rfl ?_
      refine vv_ishr (q := 14) X dX10_bitsIn_13 rfl ?_
      refine vv_iconst (q := 15) X (1 : Int32) dX10_bitsIn_14 (by decide) rfl ?_
      refine vv_iand (q := 16) X dX10_bitsIn_15 rfl ?_
      refine vv_iadd (q := 17) X dX10_bitsIn_16 rfl ?_
      refine vv_topi (fun z2 hz2 => ?_)
      have h := h z2 hz2
      refine vv_istore_n (lv2 := [(1, .int z2), (0, .int f0), (2, .int x2)]) (q := 18) X dX10_bitsIn_17 rfl (Nat.le_of_ble_eq_true rfl) rfl rfl ?_
      obtain ⟨z3, hz3⟩ : ∃ y : Int32, y = x2 + (1 : Int32) := ⟨_, rfl⟩
      have h := h z3 hz3
      refine vv_iinc (v := z3) (lv2 := [(2, .int z3), (1, .int z2), (0, .int f0)]) (q := 21) X 2 dX10_bitsIn_18 rfl (by rw [hz3]; rfl) (Nat.le_of_ble_eq_true rfl) rfl rfl ?_
      refine vv_goto X 4 dX10_bitsIn_21 (by decide) ?_
      refine vv_sub (lv' := [(0, .int f0), (1, .int z2), (2, .int z3)]) [2, 1, 0] rfl ?_
      exact ih z2 z3 h

def wX10_bitsIn (σ : St) (a0 : Int32) (P : Int32 → Prop) : Prop :=
∃ n5 : Nat, wLX10_bitsIn_4 a0 σ (fun (y4 : Int32) =>
P y4) P n5 (0 : Int32) (0 : Int32)

set_option maxHeartbeats 8000000 in
set_option maxRecDepth 100000 in
theorem kX10_bitsIn (l : Launch) (D : va_G) {cy : Nat → ClassId} {ad : Nat → Nat} (hw : xOk (wM ad cy)) {σ : St} {a0 : Int32} {P : Int32 → Prop} (h : wX10_bitsIn σ a0 P) : MI l yX10_bitsIn wsX10_bitsIn rmX10_bitsIn D cy (wM ad cy) [.int a0] σ (fun r u => P r ∧ u = σ) := by
  unfold MI
  refine vv_met (cc := cX10_bitsIn) (maxL := 3) (ret := (some .int)) hw (by decide +kernel) rfl [.int a0] (Nat.le_of_ble_eq_true rfl) ?_
  intro p e s m args below meth c X hr
  have X : XX p s m args meth c cX10_bitsIn 3 D cy (wM ad cy) wsX10_bitsIn RX10 := X
  refine vv_sub (lv' := [(0, .int a0)]) [0] rfl ?_
  rw [wX10_bitsIn] at h
  refine vv_iconst (q := 1) X (0 : Int32) dX10_bitsIn_0 (by decide) rfl ?_
  refine vv_istore_n (lv2 := [(1, .int (0 : Int32)), (0, .int a0)]) (q := 2) X dX10_bitsIn_1 rfl (Nat.le_of_ble_eq_true rfl) rfl rfl ?_
  refine vv_iconst (q := 3) X (0 : Int32) dX10_bitsIn_2 (by decide) rfl ?_
  refine vv_istore_n (lv2 := [(2, .int (0 : Int32)), (1, .int (0 : Int32)), (0, .int a0)]) (q := 4) X dX10_bitsIn_3 rfl (Nat.le_of_ble_eq_true rfl) rfl rfl ?_
  obtain ⟨n5, h⟩ := h
  refine vv_sub (lv' := [(0, .int a0), (1, .int (0 : Int32)), (2, .int (0 : Int32))]) [2, 1, 0] rfl ?_
  refine twLX10_bitsIn_4 X hr a0  σ _ ?_ n5 (0 : Int32) (0 : Int32) h
  intro y4 h
  refine vv_iload_n (q := 25) X 0 dX10_bitsIn_24 rfl rfl rfl ?_
  exact vv_iret X hr dX10_bitsIn_25 ⟨h, rfl⟩

/-! X10_common: common(II)I -/
def rmX10_common : Room := { frames := 0, cells := 0, slots := 0, locals := 0 }
def wLX10_common_4  (σ : St) (K21 : Int32 → Prop) (P : Int32 → Prop) : Nat → Int32 → Int32 → Prop
  | 0, _, _ => False
  | n + 1, x2, x3 =>
    (x3 = 0 →
    K21 x2) ∧
    (¬ x3 = 0 →
    ¬ x3 = 0 ∧
    ∀ z3 : Int32, z3 = (x2 - x2 / x3 * x3) →
    wLX10_common_4 σ K21 P n x3 z3)

set_option maxHeartbeats 4000000 in
set_option maxRecDepth 100000 in
theorem twLX10_common_4 {p : Program} {l : Launch} {e : Env} {s : State} {m : MethodId} {args : Array Value} {below : List Frame} {meth : Method} {c : Code} {D : va_G} {cy : Nat → ClassId} {ad : Nat → Nat} (X : XX p s m args meth c cX10_common 5 D cy (wM ad cy) wsX10_common RX10) (hr : meth.sig.returnType = (some .int))   (σ : St) (K21 : Int32 → Prop) {P : Int32 → Prop} (hK21 : ∀ (x2 : Int32), K21 x2 → VV p l e rmX10_common s m args below meth c (MQ below (va_Qi (fun r u => P r ∧ u = σ) (xPost D (wM ad cy)) (xA (wM ad cy))) args s 0 0 (xA (wM ad cy))) 5 D (wM ad cy) σ 21 [(2, .int x2)] []) : ∀ (n : Nat) (x2 : Int32) (x3 : Int32), wLX10_common_4 σ K21 P n x2 x3 → VV p l e rmX10_common s m args below meth c (MQ below (va_Qi (fun r u => P r ∧ u = σ) (xPost D (wM ad cy)) (xA (wM ad cy))) args s 0 0 (xA (wM ad cy))) 5 D (wM ad cy) σ 4 [(2, .int x2), (3, .int x3)] [] := by
  intro n
  induction n with
  | zero => intro x2 x3 h; exact h.elim
  | succ n ih =>
    intro x2 x3 h
    rw [wLX10_common_4] at h
    refine vv_iload_n (q := 5) X 1 dX10_common_4 rfl rfl rfl ?_
    refine vv_if_eq (q := 8) X 21 dX10_common_5 (by decide) rfl (fun c1 => ?_) (fun c1 => ?_)
    · have h := h.1 c1
      refine vv_sub (lv' := [(2, .int x2)]) [0] rfl ?_
      exact hK21 x2 h
    · have h := h.2 c1
      refine vv_iload_n (q := 9) X 0 dX10_common_8 rfl rfl rfl ?_
      refine vv_iload_n (q := 10) X 1 dX10_common_9 rfl rfl rfl ?_
      obtain ⟨hn2, h⟩ := h
      refine vv_irem (q := 11) X dX10_common_10 hn2 rfl ?_
      refine vv_topi (fun z3 hz3 => ?_)
      have h := h z3 hz3
      refine vv_istore (lv2 := [(4, .int z3), (2, .int x2), (3, .int x3)]) (q := 13) X dX10_common_11 (Nat.le_of_ble_eq_true rfl) rfl rfl ?_
      refine vv_iload_n (q := 14) X 2 dX10_common_13 rfl rfl rfl ?_
      refine vv_istore_n (lv2 := [(2, .int x3), (4, .int z3), (3, .int x3)]) (q := 15) X dX10_common_14 rfl (Nat.le_of_ble_eq_true rfl) rfl rfl ?_
      refine vv_iload (q := 17) X 1 dX10_common_15 rfl rfl ?_
      refine vv_istore_n (lv2 := [(3, .int z3), (2, .int x3), (4, .int z3)]) (q := 18) X dX10_common_17 rfl (Nat.le_of_ble_eq_true rfl) rfl rfl ?_
      refine vv_goto X 4 dX10_common_18 (by decide) ?_
      refine vv_sub (lv' := [(2, .int x3), (3, .int z3)]) [1, 0] rfl ?_
      exact ih x3 z3 h

def wX10_common (σ : St) (a0 : Int32) (a1 : Int32) (P : Int32 → Prop) : Prop :=
∃ n5 : Nat, wLX10_common_4 σ (fun (y4 : Int32) =>
P y4) P n5 a0 a1

set_option maxHeartbeats 8000000 in
set_option maxRecDepth 100000 in
theorem kX10_common (l : Launch) (D : va_G) {cy : Nat → ClassId} {ad : Nat → Nat} (hw : xOk (wM ad cy)) {σ : St} {a0 : Int32} {a1 : Int32} {P : Int32 → Prop} (h : wX10_common σ a0 a1 P) : MI l yX10_common wsX10_common rmX10_common D cy (wM ad cy) [.int a0, .int a1] σ (fun r u => P r ∧ u = σ) := by
  unfold MI
  refine vv_met (cc := cX10_common) (maxL := 5) (ret := (some .int)) hw (by decide +kernel) rfl [.int a0, .int a1] (Nat.le_of_ble_eq_true rfl) ?_
  intro p e s m args below meth c X hr
  have X : XX p s m args meth c cX10_common 5 D cy (wM ad cy) wsX10_common RX10 := X
  refine vv_sub (lv' := [(0, .int a0), (1, .int a1)]) [0, 1] rfl ?_
  rw [wX10_common] at h
  refine vv_iload_n (q := 1) X 0 dX10_common_0 rfl rfl rfl ?_
  refine vv_istore_n (lv2 := [(2, .int a0), (0, .int a0), (1, .int a1)]) (q := 2) X dX10_common_1 rfl (Nat.le_of_ble_eq_true rfl) rfl rfl ?_
  refine vv_iload_n (q := 3) X 2 dX10_common_2 rfl rfl rfl ?_
  refine vv_istore_n (lv2 := [(3, .int a1), (2, .int a0), (0, .int a0), (1, .int a1)]) (q := 4) X dX10_common_3 rfl (Nat.le_of_ble_eq_true rfl) rfl rfl ?_
  obtain ⟨n5, h⟩ := h
  refine vv_sub (lv' := [(2, .int a0), (3, .int a1)]) [1, 0] rfl ?_
  refine twLX10_common_4 X hr  σ _ ?_ n5 a0 a1 h
  intro y4 h
  refine vv_iload_n (q := 22) X 0 dX10_common_21 rfl rfl rfl ?_
  exact vv_iret X hr dX10_common_22 ⟨h, rfl⟩

/-! X10_worth: worth(II)I -/
def rmX10_worth : Room := { frames := 2, cells := 0, slots := 0, locals := 48 }
def wLX10_worth_36 (f1 : Int32) (f2 : Int32) (f3 : Int32) (σ : St) (K106 : Int32 → Prop) (P : Int32 → St → Prop) : Nat → Int32 → Int32 → Prop
  | 0, _, _ => False
  | n + 1, x4, x5 =>
    (((1 : Int32) <<< (f3 &&& 31)) ≤ x5 →
    K106 x4) ∧
    (¬ ((1 : Int32) <<< (f3 &&& 31)) ≤ x5 →
    (¬ ((x5 >>> (f1 &&& 31)) &&& (1 : Int32)) = 0 →
    ∀ z10 : Int32, z10 = x5 + (1 : Int32) →
    wLX10_worth_36 f1 f2 f3 σ K106 P n x4 z10) ∧
    (((x5 >>> (f1 &&& 31)) &&& (1 : Int32)) = 0 →
    wX10_bitsIn σ x5 (fun r11 : Int32 =>
    wX10_orders σ r11 (fun r12 : Int32 =>
    wX10_orders σ ((f3 - r11) - (1 : Int32)) (fun r13 : Int32 =>
    vp_in (x5 ||| ((1 : Int32) <<< (f1 &&& 31))) 256 ∧
    vp_in x5 256 ∧
    ∀ z16 : Int32, z16 = (x4 + ((r12 * r13) * ((σ.1 16 (x5 ||| ((1 : Int32) <<< (f1 &&& 31))).toNatClampNeg) - (σ.1 16 x5.toNatClampNeg)))) →
    ∀ z17 : Int32, z17 = x5 + (1 : Int32) →
    wLX10_worth_36 f1 f2 f3 σ K106 P n z16 z17)))))

set_option maxHeartbeats 4000000 in
set_option maxRecDepth 100000 in
theorem twLX10_worth_36 {p : Program} {l : Launch} {e : Env} {s : State} {m : MethodId} {args : Array Value} {below : List Frame} {meth : Method} {c : Code} {D : va_G} {cy : Nat → ClassId} {ad : Nat → Nat} (X : XX p s m args meth c cX10_worth 7 D cy (wM ad cy) wsX10_worth RX10) (hr : meth.sig.returnType = (some .int)) (f1 : Int32) (f2 : Int32) (f3 : Int32)  (σ : St) (K106 : Int32 → Prop) {P : Int32 → St → Prop} (hK106 : ∀ (x4 : Int32), K106 x4 → VV p l e rmX10_worth s m args below meth c (MQ below (va_Qi P (xPost D (wM ad cy)) (xA (wM ad cy))) args s 0 0 (xA (wM ad cy))) 7 D (wM ad cy) σ 106 [(2, .int f2), (3, .int f3), (4, .int x4)] []) : ∀ (n : Nat) (x4 : Int32) (x5 : Int32), wLX10_worth_36 f1 f2 f3 σ K106 P n x4 x5 → VV p l e rmX10_worth s m args below meth c (MQ below (va_Qi P (xPost D (wM ad cy)) (xA (wM ad cy))) args s 0 0 (xA (wM ad cy))) 7 D (wM ad cy) σ 36 [(0, .ref (ad 0)), (1, .int f1), (2, .int f2), (3, .int f3), (4, .int x4), (5, .int x5)] [] := by
  intro n
  induction n with
  | zero => intro x4 x5 h; exact h.elim
  | succ n ih =>
    intro x4 x5 h
    rw [wLX10_worth_36] at h
    refine vv_iload (q := 38) X 5 dX10_worth_36 rfl rfl ?_
    refine vv_iconst (q := 39) X (1 : Int32) dX10_worth_38 (by decide) rfl ?_
    refine vv_iload_n (q := 40) X 3 dX10_worth_39 rfl rfl rfl ?_
    refine vv_ishl (q := 41) X dX10_worth_40 rfl ?_
    refine vv_icmp_ge (q := 44) X 106 dX10_worth_41 (by decide) rfl (fun c8 => ?_) (fun c8 => ?_)
    · have h := h.1 c8
      refine vv_sub (lv' := [(2, .int f2), (3, .int f3), (4, .int x4)]) [2, 3, 4] rfl ?_
      exact hK106 x4 h
    · have h := h.2 c8
      refine vv_iload (q := 46) X 5 dX10_worth_44 rfl rfl ?_
      refine vv_iload_n (q := 47) X 1 dX10_worth_46 rfl rfl rfl ?_
      refine vv_ishr (q := 48) X dX10_worth_47 rfl ?_
      refine vv_iconst (q := 49) X (1 : Int32) dX10_worth_48 (by decide) rfl ?_
      refine vv_iand (q := 50) X dX10_worth_49 rfl ?_
      refine vv_if_ne (q := 53) X 100 dX10_worth_50 (by decide) rfl (fun c9 => ?_) (fun c9 => ?_)
      · have h := h.1 c9
        obtain ⟨z10, hz10⟩ : ∃ y : Int32, y = x5 + (1 : Int32) := ⟨_, rfl⟩
        have h := h z10 hz10
        refine vv_iinc (v := z10) (lv2 := [(5, .int z10), (0, .ref (ad 0)), (1, .int f1), (2, .int f2), (3, .int f3), (4, .int x4)]) (q := 103) X 5 dX10_worth_100 rfl (by rw [hz10]; rfl) (Nat.le_of_ble_eq_true rfl) rfl rfl ?_
        refine vv_goto X 36 dX10_worth_103 (by decide) ?_
        refine vv_sub (lv' := [(0, .ref (ad 0)), (1, .int f1), (2, .int f2), (3, .int f3), (4, .int x4), (5, .int z10)]) [1, 2, 3, 4, 5, 0] rfl ?_
        exact ih x4 z10 h
      · have h := h.2 c9
        refine vv_iload (q := 55) X 5 dX10_worth_53 rfl rfl ?_
        refine vv_cSi (q := 58) X [.int x5] (kX10_bitsIn l D X.2.2.1 h) (va_cwS 1 X.1.2.2.2.2 gX10_worth_X10_bitsIn rfl rfl rfl (by decide +kernel) ⟨Nat.le_of_ble_eq_true rfl, Nat.le_of_ble_eq_true rfl⟩) rfl rfl (Nat.le_of_ble_eq_true rfl) dX10_worth_55 rfl (fun r11 u9 h9 => ?_)
        obtain ⟨h9, hu9⟩ := h9
        subst u9
        have h := h9
        refine vv_istore (lv2 := [(6, .int r11), (0, .ref (ad 0)), (1, .int f1), (2, .int f2), (3, .int f3), (4, .int x4), (5, .int x5)]) (q := 60) X dX10_worth_58 (Nat.le_of_ble_eq_true rfl) rfl rfl ?_
        refine vv_iload (q := 62) X 5 dX10_worth_60 rfl rfl ?_
        refine vv_iload (q := 64) X 0 dX10_worth_62 rfl rfl ?_
        refine vv_cSi (q := 67) X [.int r11] (kX10_orders l D X.2.2.1 h) (va_cwS 1 X.1.2.2.2.2 gX10_worth_X10_orders rfl rfl rfl (by decide +kernel) ⟨Nat.le_of_ble_eq_true rfl, Nat.le_of_ble_eq_true rfl⟩) rfl rfl (Nat.le_of_ble_eq_true rfl) dX10_worth_64 rfl (fun r12 u9 h9 => ?_)
        obtain ⟨h9, hu9⟩ := h9
        subst u9
        have h := h9
        refine vv_iload_n (q := 68) X 4 dX10_worth_67 rfl rfl rfl ?_
        refine vv_iload (q := 70) X 0 dX10_worth_68 rfl rfl ?_
        refine vv_isub (q := 71) X dX10_worth_70 rfl ?_
        refine vv_iconst (q := 72) X (1 : Int32) dX10_worth_71 (by decide) rfl ?_
        refine vv_isub (q := 73) X dX10_worth_72 rfl ?_
        refine vv_cSi (q := 76) X [.int ((f3 - r11) - (1 : Int32))] (kX10_orders l D X.2.2.1 h) (va_cwS 1 X.1.2.2.2.2 gX10_worth_X10_orders rfl rfl rfl (by decide +kernel) ⟨Nat.le_of_ble_eq_true rfl, Nat.le_of_ble_eq_true rfl⟩) rfl rfl (Nat.le_of_ble_eq_true rfl) dX10_worth_73 rfl (fun r13 u9 h9 => ?_)
        obtain ⟨h9, hu9⟩ := h9
        subst u9
        have h := h9
        refine vv_imul (q := 77) X dX10_worth_76 rfl ?_
        refine vv_aload_n (q := 78) X 1 dX10_worth_77 rfl rfl rfl ?_
        refine vv_getf (q := 81) (ref := "HalfLaddersModel") (C := RX10) (T := TX10) (N := 27) X 0 10 22 (Nat.le_of_ble_eq_true rfl) rfl rfl (Nat.le_of_ble_eq_true rfl) (fun _ h => List.mem_cons_of_mem _ (List.mem_append_right _ h)) (List.mem_of_getElem? (i := 2) rfl) rfl rfl dX10_worth_78 rfl ?_
        refine vv_iload (q := 83) X 6 dX10_worth_81 rfl rfl ?_
        refine vv_iconst (q := 84) X (1 : Int32) dX10_worth_83 (by decide) rfl ?_
        refine vv_iload_n (q := 85) X 2 dX10_worth_84 rfl rfl rfl ?_
        refine vv_ishl (q := 86) X dX10_worth_85 rfl ?_
        refine vv_ior (q := 87) X dX10_worth_86 rfl ?_
        obtain ⟨hin14, h⟩ := h
        refine vv_iald (q := 88) X 16 256 (Nat.le_of_ble_eq_true rfl) (fun _ => rfl) hin14 dX10_worth_87 rfl ?_
        refine vv_aload_n (q := 89) X 1 dX10_worth_88 rfl rfl rfl ?_
        refine vv_getf (q := 92) (ref := "HalfLaddersModel") (C := RX10) (T := TX10) (N := 27) X 0 10 22 (Nat.le_of_ble_eq_true rfl) rfl rfl (Nat.le_of_ble_eq_true rfl) (fun _ h => List.mem_cons_of_mem _ (List.mem_append_right _ h)) (List.mem_of_getElem? (i := 2) rfl) rfl rfl dX10_worth_89 rfl ?_
        refine vv_iload (q := 94) X 6 dX10_worth_92 rfl rfl ?_
        obtain ⟨hin15, h⟩ := h
        refine vv_iald (q := 95) X 16 256 (Nat.le_of_ble_eq_true rfl) (fun _ => rfl) hin15 dX10_worth_94 rfl ?_
        refine vv_isub (q := 96) X dX10_worth_95 rfl ?_
        refine vv_imul (q := 97) X dX10_worth_96 rfl ?_
        refine vv_iadd (q := 98) X dX10_worth_97 rfl ?_
        refine vv_topi (fun z16 hz16 => ?_)
        have h := h z16 hz16
        refine vv_istore (lv2 := [(4, .int z16), (6, .int r11), (0, .ref (ad 0)), (1, .int f1), (2, .int f2), (3, .int f3), (5, .int x5)]) (q := 100) X dX10_worth_98 (Nat.le_of_ble_eq_true rfl) rfl rfl ?_
        obtain ⟨z17, hz17⟩ : ∃ y : Int32, y = x5 + (1 : Int32) := ⟨_, rfl⟩
        have h := h z17 hz17
        refine vv_iinc (v := z17) (lv2 := [(5, .int z17), (4, .int z16), (6, .int r11), (0, .ref (ad 0)), (1, .int f1), (2, .int f2), (3, .int f3)]) (q := 103) X 6 dX10_worth_100 rfl (by rw [hz17]; rfl) (Nat.le_of_ble_eq_true rfl) rfl rfl ?_
        refine vv_goto X 36 dX10_worth_103 (by decide) ?_
        refine vv_sub (lv' := [(0, .ref (ad 0)), (1, .int f1), (2, .int f2), (3, .int f3), (4, .int z16), (5, .int z17)]) [3, 4, 5, 6, 1, 0] rfl ?_
        exact ih z16 z17 h

def wX10_worth (σ : St) (a1 : Int32) (a2 : Int32) (P : Int32 → St → Prop) : Prop :=
wX10_isOne σ a1 (fun r1 : Int32 =>
(r1 = 0 →
P (-1 : Int32) σ) ∧
(¬ r1 = 0 →
wX10_in σ a2 (0 : Int32) (1 : Int32) (fun r3 : Int32 =>
(¬ r3 = 0 →
wX10_findWholes σ  (fun σ5 : St =>
vp_in (0 : Int32) 2 ∧
∀ z7 : Int32, z7 = (σ5.1 2 (0 : Int32).toNatClampNeg) →
∃ n24 : Nat, wLX10_worth_36 a1 a2 z7 σ5 (fun (y18 : Int32) =>
wX10_orders σ5 z7 (fun r19 : Int32 =>
wX10_common σ5 y18 r19 (fun r20 : Int32 =>
(¬ a2 = 0 →
¬ r20 = 0 ∧
P (r19 / r20) σ5) ∧
(a2 = 0 →
¬ r20 = 0 ∧
P (y18 / r20) σ5)))) P n24 (0 : Int32) (0 : Int32))) ∧
(r3 = 0 →
P (-1 : Int32) σ))))

set_option maxHeartbeats 8000000 in
set_option maxRecDepth 100000 in
theorem kX10_worth (l : Launch) (D : va_G) {cy : Nat → ClassId} {ad : Nat → Nat} (hw : xOk (wM ad cy)) {σ : St} {a1 : Int32} {a2 : Int32} {P : Int32 → St → Prop} (h : wX10_worth σ a1 a2 P) : MI l yX10_worth wsX10_worth rmX10_worth D cy (wM ad cy) [.ref (ad 0), .int a1, .int a2] σ P := by
  unfold MI
  refine vv_met (cc := cX10_worth) (maxL := 7) (ret := (some .int)) hw (by decide +kernel) rfl [.ref (ad 0), .int a1, .int a2] (Nat.le_of_ble_eq_true rfl) ?_
  intro p e s m args below meth c X hr
  have X : XX p s m args meth c cX10_worth 7 D cy (wM ad cy) wsX10_worth RX10 := X
  refine vv_sub (lv' := [(0, .ref (ad 0)), (1, .int a1), (2, .int a2)]) [0, 1, 2] rfl ?_
  rw [wX10_worth] at h
  refine vv_aload_n (q := 1) X 0 dX10_worth_0 rfl rfl rfl ?_
  refine vv_iload_n (q := 2) X 1 dX10_worth_1 rfl rfl rfl ?_
  refine vv_cVi (q := 5) (C := RX10) X 0 10 [.int a1] (kX10_isOne l D X.2.2.1 h) (cwV 1 X.1.2.2.2.2 gX10_worth_X10_isOne rfl rfl rfl (by decide +kernel) ⟨Nat.le_of_ble_eq_true rfl, Nat.le_of_ble_eq_true rfl⟩) (Nat.le_of_ble_eq_true rfl) rfl rfl rfl rfl (Nat.le_of_ble_eq_true rfl) dX10_worth_2 rfl (fun r1 u9 h9 => ?_)
  obtain ⟨h9, hu9⟩ := h9
  subst u9
  have h := h9
  refine vv_if_eq (q := 8) X 17 dX10_worth_5 (by decide) rfl (fun c2 => ?_) (fun c2 => ?_)
  · have h := h.1 c2
    refine vv_iconst (q := 18) X (-1 : Int32) dX10_worth_17 (by decide) rfl ?_
    exact vv_iret X hr dX10_worth_18 h
  · have h := h.2 c2
    refine vv_iload_n (q := 9) X 2 dX10_worth_8 rfl rfl rfl ?_
    refine vv_iconst (q := 10) X (0 : Int32) dX10_worth_9 (by decide) rfl ?_
    refine vv_iconst (q := 11) X (1 : Int32) dX10_worth_10 (by decide) rfl ?_
    refine vv_cSi (q := 14) X [.int a2, .int (0 : Int32), .int (1 : Int32)] (kX10_in l D X.2.2.1 h) (va_cwS 3 X.1.2.2.2.2 gX10_worth_X10_in rfl rfl rfl (by decide +kernel) ⟨Nat.le_of_ble_eq_true rfl, Nat.le_of_ble_eq_true rfl⟩) rfl rfl (Nat.le_of_ble_eq_true rfl) dX10_worth_11 rfl (fun r3 u9 h9 => ?_)
    obtain ⟨h9, hu9⟩ := h9
    subst u9
    have h := h9
    refine vv_if_ne (q := 17) X 19 dX10_worth_14 (by decide) rfl (fun c4 => ?_) (fun c4 => ?_)
    · have h := h.1 c4
      refine vv_aload_n (q := 20) X 0 dX10_worth_19 rfl rfl rfl ?_
      refine vv_cVv (q := 23) (C := RX10) X 0 10 [] (kX10_findWholes l D X.2.2.1 h) (cwV 0 X.1.2.2.2.2 gX10_worth_X10_findWholes rfl rfl rfl (by decide +kernel) ⟨Nat.le_of_ble_eq_true rfl, Nat.le_of_ble_eq_true rfl⟩) (Nat.le_of_ble_eq_true rfl) rfl rfl rfl rfl (Nat.le_of_ble_eq_true rfl) dX10_worth_20 rfl (fun σ5 h => ?_)
      refine vv_aload_n (q := 24) X 0 dX10_worth_23 rfl rfl rfl ?_
      refine vv_getf (q := 27) (ref := "HalfLaddersModel") (C := RX10) (T := TX10) (N := 27) X 0 10 3 (Nat.le_of_ble_eq_true rfl) rfl rfl (Nat.le_of_ble_eq_true rfl) (fun _ h => List.mem_cons_of_mem _ (List.mem_append_right _ h)) (List.mem_of_getElem? (i := 1) rfl) rfl rfl dX10_worth_24 rfl ?_
      refine vv_iconst (q := 28) X (0 : Int32) dX10_worth_27 (by decide) rfl ?_
      obtain ⟨hin6, h⟩ := h
      refine vv_iald (q := 29) X 2 2 (Nat.le_of_ble_eq_true rfl) (fun _ => rfl) hin6 dX10_worth_28 rfl ?_
      refine vv_topi (fun z7 hz7 => ?_)
      have h := h z7 hz7
      refine vv_istore_n (lv2 := [(3, .int z7), (0, .ref (ad 0)), (1, .int a1), (2, .int a2)]) (q := 30) X dX10_worth_29 rfl (Nat.le_of_ble_eq_true rfl) rfl rfl ?_
      refine vv_iconst (q := 31) X (0 : Int32) dX10_worth_30 (by decide) rfl ?_
      refine vv_istore (lv2 := [(4, .int (0 : Int32)), (3, .int z7), (0, .ref (ad 0)), (1, .int a1), (2, .int a2)]) (q := 33) X dX10_worth_31 (Nat.le_of_ble_eq_true rfl) rfl rfl ?_
      refine vv_iconst (q := 34) X (0 : Int32) dX10_worth_33 (by decide) rfl ?_
      refine vv_istore (lv2 := [(5, .int (0 : Int32)), (4, .int (0 : Int32)), (3, .int z7), (0, .ref (ad 0)), (1, .int a1), (2, .int a2)]) (q := 36) X dX10_worth_34 (Nat.le_of_ble_eq_true rfl) rfl rfl ?_
      obtain ⟨n24, h⟩ := h
      refine vv_sub (lv' := [(0, .ref (ad 0)), (1, .int a1), (2, .int a2), (3, .int z7), (4, .int (0 : Int32)), (5, .int (0 : Int32))]) [3, 4, 5, 2, 1, 0] rfl ?_
      refine twLX10_worth_36 X hr a1 a2 z7  σ5 _ ?_ n24 (0 : Int32) (0 : Int32) h
      intro y18 h
      refine vv_iload_n (q := 107) X 1 dX10_worth_106 rfl rfl rfl ?_
      refine vv_cSi (q := 110) X [.int z7] (kX10_orders l D X.2.2.1 h) (va_cwS 1 X.1.2.2.2.2 gX10_worth_X10_orders rfl rfl rfl (by decide +kernel) ⟨Nat.le_of_ble_eq_true rfl, Nat.le_of_ble_eq_true rfl⟩) rfl rfl (Nat.le_of_ble_eq_true rfl) dX10_worth_107 rfl (fun r19 u9 h9 => ?_)
      obtain ⟨h9, hu9⟩ := h9
      subst u9
      have h := h9
      refine vv_istore (lv2 := [(5, .int r19), (2, .int a2), (3, .int z7), (4, .int y18)]) (q := 112) X dX10_worth_110 (Nat.le_of_ble_eq_true rfl) rfl rfl ?_
      refine vv_iload (q := 114) X 3 dX10_worth_112 rfl rfl ?_
      refine vv_iload (q := 116) X 0 dX10_worth_114 rfl rfl ?_
      refine vv_cSi (q := 119) X [.int y18, .int r19] (kX10_common l D X.2.2.1 h) (va_cwS 2 X.1.2.2.2.2 gX10_worth_X10_common rfl rfl rfl (by decide +kernel) ⟨Nat.le_of_ble_eq_true rfl, Nat.le_of_ble_eq_true rfl⟩) rfl rfl (Nat.le_of_ble_eq_true rfl) dX10_worth_116 rfl (fun r20 u9 h9 => ?_)
      obtain ⟨h9, hu9⟩ := h9
      subst u9
      have h := h9
      refine vv_istore (lv2 := [(6, .int r20), (5, .int r19), (2, .int a2), (3, .int z7), (4, .int y18)]) (q := 121) X dX10_worth_119 (Nat.le_of_ble_eq_true rfl) rfl rfl ?_
      refine vv_iload_n (q := 122) X 2 dX10_worth_121 rfl rfl rfl ?_
      refine vv_if_ne (q := 125) X 133 dX10_worth_122 (by decide) rfl (fun c21 => ?_) (fun c21 => ?_)
      · have h := h.1 c21
        refine vv_iload (q := 135) X 1 dX10_worth_133 rfl rfl ?_
        refine vv_iload (q := 137) X 0 dX10_worth_135 rfl rfl ?_
        obtain ⟨hn22, h⟩ := h
        refine vv_idiv (q := 138) X dX10_worth_137 hn22 rfl ?_
        exact vv_iret X hr dX10_worth_138 h
      · have h := h.2 c21
        refine vv_iload (q := 127) X 4 dX10_worth_125 rfl rfl ?_
        refine vv_iload (q := 129) X 0 dX10_worth_127 rfl rfl ?_
        obtain ⟨hn23, h⟩ := h
        refine vv_idiv (q := 130) X dX10_worth_129 hn23 rfl ?_
        refine vv_goto X 138 dX10_worth_130 (by decide) ?_
        exact vv_iret X hr dX10_worth_138 h
    · have h := h.2 c4
      refine vv_iconst (q := 18) X (-1 : Int32) dX10_worth_17 (by decide) rfl ?_
      exact vv_iret X hr dX10_worth_18 h

