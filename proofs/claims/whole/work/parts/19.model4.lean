/-! X10_cuts: cuts(I)I -/
def rmX10_cuts : Room := { frames := 1, cells := 0, slots := 0, locals := 26 }
def wLX10_cuts_13 (f1 : Int32)  (K43 : St → Prop) (P : Int32 → St → Prop) : Nat → St → Int32 → Prop
  | 0, _, _ => False
  | n + 1, σ, x2 =>
    ((1280 : Int32) ≤ x2 →
    K43 σ) ∧
    (¬ (1280 : Int32) ≤ x2 →
    jn (fun (v5 : Int32) =>
    vp_in x2 1280 ∧
    ∀ σ7 : St, σ7 = sI σ 19 x2.toNatClampNeg v5 →
    ∀ z8 : Int32, z8 = x2 + (1 : Int32) →
    wLX10_cuts_13 f1 K43 P n σ7 z8) (fun J4 : Int32 → Prop =>
    (¬ x2 = 0 →
    J4 (9999 : Int32)) ∧
    (x2 = 0 →
    J4 (0 : Int32))))

set_option maxHeartbeats 4000000 in
set_option maxRecDepth 100000 in
theorem twLX10_cuts_13 {p : Program} {l : Launch} {e : Env} {s : State} {m : MethodId} {args : Array Value} {below : List Frame} {meth : Method} {c : Code} {D : va_G} {cy : Nat → ClassId} {ad : Nat → Nat} (X : XX p s m args meth c cX10_cuts 4 D cy (wM ad cy) wsX10_cuts RX10) (hr : meth.sig.returnType = (some .int)) (f1 : Int32)   (K43 : St → Prop) {P : Int32 → St → Prop} (hK43 : ∀ (σ : St), K43 σ → VV p l e rmX10_cuts s m args below meth c (MQ below (va_Qi P (xPost D (wM ad cy)) (xA (wM ad cy))) args s 0 0 (xA (wM ad cy))) 4 D (wM ad cy) σ 43 [(0, .ref (ad 0)), (1, .int f1)] []) : ∀ (n : Nat) (σ : St) (x2 : Int32), wLX10_cuts_13 f1 K43 P n σ x2 → VV p l e rmX10_cuts s m args below meth c (MQ below (va_Qi P (xPost D (wM ad cy)) (xA (wM ad cy))) args s 0 0 (xA (wM ad cy))) 4 D (wM ad cy) σ 13 [(0, .ref (ad 0)), (1, .int f1), (2, .int x2)] [] := by
  intro n
  induction n with
  | zero => intro σ x2 h; exact h.elim
  | succ n ih =>
    intro σ x2 h
    rw [wLX10_cuts_13] at h
    refine vv_iload_n (q := 14) X 2 dX10_cuts_13 rfl rfl rfl ?_
    refine vv_sipush (q := 17) X (1280 : Int32) dX10_cuts_14 (by decide) rfl ?_
    refine vv_icmp_ge (q := 20) X 43 dX10_cuts_17 (by decide) rfl (fun c3 => ?_) (fun c3 => ?_)
    · have h := h.1 c3
      refine vv_sub (lv' := [(0, .ref (ad 0)), (1, .int f1)]) [0, 1] rfl ?_
      exact hK43 σ h
    · have h := h.2 c3
      refine vv_aload_n (q := 21) X 0 dX10_cuts_20 rfl rfl rfl ?_
      refine vv_getf (q := 24) (ref := "HalfLaddersModel") (C := RX10) (T := TX10) (N := 27) X 0 10 25 (Nat.le_of_ble_eq_true rfl) rfl rfl (Nat.le_of_ble_eq_true rfl) (fun _ h => List.mem_cons_of_mem _ (List.mem_append_right _ h)) (List.mem_of_getElem? (i := 1) rfl) rfl rfl dX10_cuts_21 rfl ?_
      refine vv_iload_n (q := 25) X 2 dX10_cuts_24 rfl rfl rfl ?_
      refine vv_iload_n (q := 26) X 2 dX10_cuts_25 rfl rfl rfl ?_
      obtain ⟨J4, hJ4, h⟩ := jn_el h
      have tJ4 : ∀ (v5 : Int32), J4 v5 → VV p l e rmX10_cuts s m args below meth c (MQ below (va_Qi P (xPost D (wM ad cy)) (xA (wM ad cy))) args s 0 0 (xA (wM ad cy))) 4 D (wM ad cy) σ 36 [(0, .ref (ad 0)), (1, .int f1), (2, .int x2)] [.int v5, .int x2, .ref (ad 19)] := by
        intro v5 h
        rw [hJ4] at h
        obtain ⟨hin6, h⟩ := h
        refine vv_iast (q := 37) X 19 1280 (Nat.le_of_ble_eq_true rfl) (fun _ => rfl) hin6 dX10_cuts_36 rfl ?_
        refine vv_nm (fun σ7 hσ7 => ?_)
        have h := h σ7 hσ7
        obtain ⟨z8, hz8⟩ : ∃ y : Int32, y = x2 + (1 : Int32) := ⟨_, rfl⟩
        have h := h z8 hz8
        refine vv_iinc (v := z8) (lv2 := [(2, .int z8), (0, .ref (ad 0)), (1, .int f1)]) (q := 40) X 2 dX10_cuts_37 rfl (by rw [hz8]; rfl) (Nat.le_of_ble_eq_true rfl) rfl rfl ?_
        refine vv_goto X 13 dX10_cuts_40 (by decide) ?_
        refine vv_sub (lv' := [(0, .ref (ad 0)), (1, .int f1), (2, .int z8)]) [1, 2, 0] rfl ?_
        exact ih σ7 z8 h
      refine vv_if_ne (q := 29) X 33 dX10_cuts_26 (by decide) rfl (fun c9 => ?_) (fun c9 => ?_)
      · have h := h.1 c9
        refine vv_sipush (q := 36) X (9999 : Int32) dX10_cuts_33 (by decide) rfl ?_
        exact tJ4 (9999 : Int32) h
      · have h := h.2 c9
        refine vv_iconst (q := 30) X (0 : Int32) dX10_cuts_29 (by decide) rfl ?_
        refine vv_goto X 36 dX10_cuts_30 (by decide) ?_
        exact tJ4 (0 : Int32) h

def wLX10_cuts_66 (f1 : Int32) (f2 : Int32)  (K91 : St → Prop) (P : Int32 → St → Prop) : Nat → St → Int32 → Prop
  | 0, _, _ => False
  | n + 1, σ, x3 =>
    ((1280 : Int32) ≤ x3 →
    K91 σ) ∧
    (¬ (1280 : Int32) ≤ x3 →
    vp_in x3 1280 ∧
    vp_in x3 1280 ∧
    ∀ σ19 : St, σ19 = sI σ 20 x3.toNatClampNeg (σ.1 19 x3.toNatClampNeg) →
    ∀ z20 : Int32, z20 = x3 + (1 : Int32) →
    wLX10_cuts_66 f1 f2 K91 P n σ19 z20)

set_option maxHeartbeats 4000000 in
set_option maxRecDepth 100000 in
theorem twLX10_cuts_66 {p : Program} {l : Launch} {e : Env} {s : State} {m : MethodId} {args : Array Value} {below : List Frame} {meth : Method} {c : Code} {D : va_G} {cy : Nat → ClassId} {ad : Nat → Nat} (X : XX p s m args meth c cX10_cuts 4 D cy (wM ad cy) wsX10_cuts RX10) (hr : meth.sig.returnType = (some .int)) (f1 : Int32) (f2 : Int32)   (K91 : St → Prop) {P : Int32 → St → Prop} (hK91 : ∀ (σ : St), K91 σ → VV p l e rmX10_cuts s m args below meth c (MQ below (va_Qi P (xPost D (wM ad cy)) (xA (wM ad cy))) args s 0 0 (xA (wM ad cy))) 4 D (wM ad cy) σ 91 [(0, .ref (ad 0)), (1, .int f1), (2, .int f2)] []) : ∀ (n : Nat) (σ : St) (x3 : Int32), wLX10_cuts_66 f1 f2 K91 P n σ x3 → VV p l e rmX10_cuts s m args below meth c (MQ below (va_Qi P (xPost D (wM ad cy)) (xA (wM ad cy))) args s 0 0 (xA (wM ad cy))) 4 D (wM ad cy) σ 66 [(0, .ref (ad 0)), (1, .int f1), (2, .int f2), (3, .int x3)] [] := by
  intro n
  induction n with
  | zero => intro σ x3 h; exact h.elim
  | succ n ih =>
    intro σ x3 h
    rw [wLX10_cuts_66] at h
    refine vv_iload_n (q := 67) X 3 dX10_cuts_66 rfl rfl rfl ?_
    refine vv_sipush (q := 70) X (1280 : Int32) dX10_cuts_67 (by decide) rfl ?_
    refine vv_icmp_ge (q := 73) X 91 dX10_cuts_70 (by decide) rfl (fun c16 => ?_) (fun c16 => ?_)
    · have h := h.1 c16
      refine vv_sub (lv' := [(0, .ref (ad 0)), (1, .int f1), (2, .int f2)]) [0, 1, 2] rfl ?_
      exact hK91 σ h
    · have h := h.2 c16
      refine vv_aload_n (q := 74) X 0 dX10_cuts_73 rfl rfl rfl ?_
      refine vv_getf (q := 77) (ref := "HalfLaddersModel") (C := RX10) (T := TX10) (N := 27) X 0 10 26 (Nat.le_of_ble_eq_true rfl) rfl rfl (Nat.le_of_ble_eq_true rfl) (fun _ h => List.mem_cons_of_mem _ (List.mem_append_right _ h)) (List.mem_of_getElem? (i := 4) rfl) rfl rfl dX10_cuts_74 rfl ?_
      refine vv_iload_n (q := 78) X 3 dX10_cuts_77 rfl rfl rfl ?_
      refine vv_aload_n (q := 79) X 0 dX10_cuts_78 rfl rfl rfl ?_
      refine vv_getf (q := 82) (ref := "HalfLaddersModel") (C := RX10) (T := TX10) (N := 27) X 0 10 25 (Nat.le_of_ble_eq_true rfl) rfl rfl (Nat.le_of_ble_eq_true rfl) (fun _ h => List.mem_cons_of_mem _ (List.mem_append_right _ h)) (List.mem_of_getElem? (i := 1) rfl) rfl rfl dX10_cuts_79 rfl ?_
      refine vv_iload_n (q := 83) X 3 dX10_cuts_82 rfl rfl rfl ?_
      obtain ⟨hin17, h⟩ := h
      refine vv_iald (q := 84) X 19 1280 (Nat.le_of_ble_eq_true rfl) (fun _ => rfl) hin17 dX10_cuts_83 rfl ?_
      obtain ⟨hin18, h⟩ := h
      refine vv_iast (q := 85) X 20 1280 (Nat.le_of_ble_eq_true rfl) (fun _ => rfl) hin18 dX10_cuts_84 rfl ?_
      refine vv_nm (fun σ19 hσ19 => ?_)
      have h := h σ19 hσ19
      obtain ⟨z20, hz20⟩ : ∃ y : Int32, y = x3 + (1 : Int32) := ⟨_, rfl⟩
      have h := h z20 hz20
      refine vv_iinc (v := z20) (lv2 := [(3, .int z20), (0, .ref (ad 0)), (1, .int f1), (2, .int f2)]) (q := 88) X 3 dX10_cuts_85 rfl (by rw [hz20]; rfl) (Nat.le_of_ble_eq_true rfl) rfl rfl ?_
      refine vv_goto X 66 dX10_cuts_88 (by decide) ?_
      refine vv_sub (lv' := [(0, .ref (ad 0)), (1, .int f1), (2, .int f2), (3, .int z20)]) [1, 2, 3, 0] rfl ?_
      exact ih σ19 z20 h

def wLX10_cuts_93 (f1 : Int32) (f2 : Int32)  (K112 : St → Prop) (P : Int32 → St → Prop) : Nat → St → Int32 → Prop
  | 0, _, _ => False
  | n + 1, σ, x3 =>
    ((1024 : Int32) ≤ x3 →
    K112 σ) ∧
    (¬ (1024 : Int32) ≤ x3 →
    wX10_cutOne σ f2 x3 (fun σ23 : St =>
    ∀ z24 : Int32, z24 = x3 + (1 : Int32) →
    wLX10_cuts_93 f1 f2 K112 P n σ23 z24))

set_option maxHeartbeats 4000000 in
set_option maxRecDepth 100000 in
theorem twLX10_cuts_93 {p : Program} {l : Launch} {e : Env} {s : State} {m : MethodId} {args : Array Value} {below : List Frame} {meth : Method} {c : Code} {D : va_G} {cy : Nat → ClassId} {ad : Nat → Nat} (X : XX p s m args meth c cX10_cuts 4 D cy (wM ad cy) wsX10_cuts RX10) (hr : meth.sig.returnType = (some .int)) (f1 : Int32) (f2 : Int32)   (K112 : St → Prop) {P : Int32 → St → Prop} (hK112 : ∀ (σ : St), K112 σ → VV p l e rmX10_cuts s m args below meth c (MQ below (va_Qi P (xPost D (wM ad cy)) (xA (wM ad cy))) args s 0 0 (xA (wM ad cy))) 4 D (wM ad cy) σ 112 [(0, .ref (ad 0)), (1, .int f1), (2, .int f2)] []) : ∀ (n : Nat) (σ : St) (x3 : Int32), wLX10_cuts_93 f1 f2 K112 P n σ x3 → VV p l e rmX10_cuts s m args below meth c (MQ below (va_Qi P (xPost D (wM ad cy)) (xA (wM ad cy))) args s 0 0 (xA (wM ad cy))) 4 D (wM ad cy) σ 93 [(0, .ref (ad 0)), (1, .int f1), (2, .int f2), (3, .int x3)] [] := by
  intro n
  induction n with
  | zero => intro σ x3 h; exact h.elim
  | succ n ih =>
    intro σ x3 h
    rw [wLX10_cuts_93] at h
    refine vv_iload_n (q := 94) X 3 dX10_cuts_93 rfl rfl rfl ?_
    refine vv_sipush (q := 97) X (1024 : Int32) dX10_cuts_94 (by decide) rfl ?_
    refine vv_icmp_ge (q := 100) X 112 dX10_cuts_97 (by decide) rfl (fun c22 => ?_) (fun c22 => ?_)
    · have h := h.1 c22
      refine vv_sub (lv' := [(0, .ref (ad 0)), (1, .int f1), (2, .int f2)]) [0, 1, 2] rfl ?_
      exact hK112 σ h
    · have h := h.2 c22
      refine vv_aload_n (q := 101) X 0 dX10_cuts_100 rfl rfl rfl ?_
      refine vv_iload_n (q := 102) X 2 dX10_cuts_101 rfl rfl rfl ?_
      refine vv_iload_n (q := 103) X 3 dX10_cuts_102 rfl rfl rfl ?_
      refine vv_cVv (q := 106) (C := RX10) X 0 10 [.int f2, .int x3] (kX10_cutOne l D X.2.2.1 h) (cwV 2 X.1.2.2.2.2 gX10_cuts_X10_cutOne rfl rfl rfl (by decide +kernel) ⟨Nat.le_of_ble_eq_true rfl, Nat.le_of_ble_eq_true rfl⟩) (Nat.le_of_ble_eq_true rfl) rfl rfl rfl rfl (Nat.le_of_ble_eq_true rfl) dX10_cuts_103 rfl (fun σ23 h => ?_)
      obtain ⟨z24, hz24⟩ : ∃ y : Int32, y = x3 + (1 : Int32) := ⟨_, rfl⟩
      have h := h z24 hz24
      refine vv_iinc (v := z24) (lv2 := [(3, .int z24), (0, .ref (ad 0)), (1, .int f1), (2, .int f2)]) (q := 109) X 3 dX10_cuts_106 rfl (by rw [hz24]; rfl) (Nat.le_of_ble_eq_true rfl) rfl rfl ?_
      refine vv_goto X 93 dX10_cuts_109 (by decide) ?_
      refine vv_sub (lv' := [(0, .ref (ad 0)), (1, .int f1), (2, .int f2), (3, .int z24)]) [1, 2, 3, 0] rfl ?_
      exact ih σ23 z24 h

def wLX10_cuts_114 (f1 : Int32) (f2 : Int32)  (K139 : St → Prop) (P : Int32 → St → Prop) : Nat → St → Int32 → Prop
  | 0, _, _ => False
  | n + 1, σ, x3 =>
    ((1280 : Int32) ≤ x3 →
    K139 σ) ∧
    (¬ (1280 : Int32) ≤ x3 →
    vp_in x3 1280 ∧
    vp_in x3 1280 ∧
    ∀ σ29 : St, σ29 = sI σ 19 x3.toNatClampNeg (σ.1 20 x3.toNatClampNeg) →
    ∀ z30 : Int32, z30 = x3 + (1 : Int32) →
    wLX10_cuts_114 f1 f2 K139 P n σ29 z30)

set_option maxHeartbeats 4000000 in
set_option maxRecDepth 100000 in
theorem twLX10_cuts_114 {p : Program} {l : Launch} {e : Env} {s : State} {m : MethodId} {args : Array Value} {below : List Frame} {meth : Method} {c : Code} {D : va_G} {cy : Nat → ClassId} {ad : Nat → Nat} (X : XX p s m args meth c cX10_cuts 4 D cy (wM ad cy) wsX10_cuts RX10) (hr : meth.sig.returnType = (some .int)) (f1 : Int32) (f2 : Int32)   (K139 : St → Prop) {P : Int32 → St → Prop} (hK139 : ∀ (σ : St), K139 σ → VV p l e rmX10_cuts s m args below meth c (MQ below (va_Qi P (xPost D (wM ad cy)) (xA (wM ad cy))) args s 0 0 (xA (wM ad cy))) 4 D (wM ad cy) σ 139 [(0, .ref (ad 0)), (1, .int f1), (2, .int f2)] []) : ∀ (n : Nat) (σ : St) (x3 : Int32), wLX10_cuts_114 f1 f2 K139 P n σ x3 → VV p l e rmX10_cuts s m args below meth c (MQ below (va_Qi P (xPost D (wM ad cy)) (xA (wM ad cy))) args s 0 0 (xA (wM ad cy))) 4 D (wM ad cy) σ 114 [(0, .ref (ad 0)), (1, .int f1), (2, .int f2), (3, .int x3)] [] := by
  intro n
  induction n with
  | zero => intro σ x3 h; exact h.elim
  | succ n ih =>
    intro σ x3 h
    rw [wLX10_cuts_114] at h
    refine vv_iload_n (q := 115) X 3 dX10_cuts_114 rfl rfl rfl ?_
    refine vv_sipush (q := 118) X (1280 : Int32) dX10_cuts_115 (by decide) rfl ?_
    refine vv_icmp_ge (q := 121) X 139 dX10_cuts_118 (by decide) rfl (fun c26 => ?_) (fun c26 => ?_)
    · have h := h.1 c26
      refine vv_sub (lv' := [(0, .ref (ad 0)), (1, .int f1), (2, .int f2)]) [0, 1, 2] rfl ?_
      exact hK139 σ h
    · have h := h.2 c26
      refine vv_aload_n (q := 122) X 0 dX10_cuts_121 rfl rfl rfl ?_
      refine vv_getf (q := 125) (ref := "HalfLaddersModel") (C := RX10) (T := TX10) (N := 27) X 0 10 25 (Nat.le_of_ble_eq_true rfl) rfl rfl (Nat.le_of_ble_eq_true rfl) (fun _ h => List.mem_cons_of_mem _ (List.mem_append_right _ h)) (List.mem_of_getElem? (i := 1) rfl) rfl rfl dX10_cuts_122 rfl ?_
      refine vv_iload_n (q := 126) X 3 dX10_cuts_125 rfl rfl rfl ?_
      refine vv_aload_n (q := 127) X 0 dX10_cuts_126 rfl rfl rfl ?_
      refine vv_getf (q := 130) (ref := "HalfLaddersModel") (C := RX10) (T := TX10) (N := 27) X 0 10 26 (Nat.le_of_ble_eq_true rfl) rfl rfl (Nat.le_of_ble_eq_true rfl) (fun _ h => List.mem_cons_of_mem _ (List.mem_append_right _ h)) (List.mem_of_getElem? (i := 4) rfl) rfl rfl dX10_cuts_127 rfl ?_
      refine vv_iload_n (q := 131) X 3 dX10_cuts_130 rfl rfl rfl ?_
      obtain ⟨hin27, h⟩ := h
      refine vv_iald (q := 132) X 20 1280 (Nat.le_of_ble_eq_true rfl) (fun _ => rfl) hin27 dX10_cuts_131 rfl ?_
      obtain ⟨hin28, h⟩ := h
      refine vv_iast (q := 133) X 19 1280 (Nat.le_of_ble_eq_true rfl) (fun _ => rfl) hin28 dX10_cuts_132 rfl ?_
      refine vv_nm (fun σ29 hσ29 => ?_)
      have h := h σ29 hσ29
      obtain ⟨z30, hz30⟩ : ∃ y : Int32, y = x3 + (1 : Int32) := ⟨_, rfl⟩
      have h := h z30 hz30
      refine vv_iinc (v := z30) (lv2 := [(3, .int z30), (0, .ref (ad 0)), (1, .int f1), (2, .int f2)]) (q := 136) X 3 dX10_cuts_133 rfl (by rw [hz30]; rfl) (Nat.le_of_ble_eq_true rfl) rfl rfl ?_
      refine vv_goto X 114 dX10_cuts_136 (by decide) ?_
      refine vv_sub (lv' := [(0, .ref (ad 0)), (1, .int f1), (2, .int f2), (3, .int z30)]) [1, 2, 3, 0] rfl ?_
      exact ih σ29 z30 h

def wLX10_cuts_45 (f1 : Int32)  (K145 : St → Prop) (P : Int32 → St → Prop) : Nat → St → Int32 → Prop
  | 0, _, _ => False
  | n + 1, σ, x2 =>
    vp_in (0 : Int32) 2 ∧
    ((σ.1 2 (0 : Int32).toNatClampNeg) ≤ x2 →
    K145 σ) ∧
    (¬ (σ.1 2 (0 : Int32).toNatClampNeg) ≤ x2 →
    vp_in x2 16 ∧
    (¬ (σ.1 3 x2.toNatClampNeg) = 0 →
    ∀ z15 : Int32, z15 = x2 + (1 : Int32) →
    wLX10_cuts_45 f1 K145 P n σ z15) ∧
    ((σ.1 3 x2.toNatClampNeg) = 0 →
    ∃ n35 : Nat, wLX10_cuts_66 f1 x2 (fun (σ21 : St) =>
    ∃ n34 : Nat, wLX10_cuts_93 f1 x2 (fun (σ25 : St) =>
    ∃ n33 : Nat, wLX10_cuts_114 f1 x2 (fun (σ31 : St) =>
    ∀ z32 : Int32, z32 = x2 + (1 : Int32) →
    wLX10_cuts_45 f1 K145 P n σ31 z32) P n33 σ25 (0 : Int32)) P n34 σ21 (0 : Int32)) P n35 σ (0 : Int32)))

set_option maxHeartbeats 4000000 in
set_option maxRecDepth 100000 in
theorem twLX10_cuts_45 {p : Program} {l : Launch} {e : Env} {s : State} {m : MethodId} {args : Array Value} {below : List Frame} {meth : Method} {c : Code} {D : va_G} {cy : Nat → ClassId} {ad : Nat → Nat} (X : XX p s m args meth c cX10_cuts 4 D cy (wM ad cy) wsX10_cuts RX10) (hr : meth.sig.returnType = (some .int)) (f1 : Int32)   (K145 : St → Prop) {P : Int32 → St → Prop} (hK145 : ∀ (σ : St), K145 σ → VV p l e rmX10_cuts s m args below meth c (MQ below (va_Qi P (xPost D (wM ad cy)) (xA (wM ad cy))) args s 0 0 (xA (wM ad cy))) 4 D (wM ad cy) σ 145 [(0, .ref (ad 0)), (1, .int f1)] []) : ∀ (n : Nat) (σ : St) (x2 : Int32), wLX10_cuts_45 f1 K145 P n σ x2 → VV p l e rmX10_cuts s m args below meth c (MQ below (va_Qi P (xPost D (wM ad cy)) (xA (wM ad cy))) args s 0 0 (xA (wM ad cy))) 4 D (wM ad cy) σ 45 [(0, .ref (ad 0)), (1, .int f1), (2, .int x2)] [] := by
  intro n
  induction n with
  | zero => intro σ x2 h; exact h.elim
  | succ n ih =>
    intro σ x2 h
    rw [wLX10_cuts_45] at h
    refine vv_iload_n (q := 46) X 2 dX10_cuts_45 rfl rfl rfl ?_
    refine vv_aload_n (q := 47) X 0 dX10_cuts_46 rfl rfl rfl ?_
    refine vv_getf (q := 50) (ref := "HalfLaddersModel") (C := RX10) (T := TX10) (N := 27) X 0 10 3 (Nat.le_of_ble_eq_true rfl) rfl rfl (Nat.le_of_ble_eq_true rfl) (fun _ h => List.mem_cons_of_mem _ (List.mem_append_right _ h)) (List.mem_of_getElem? (i := 2) rfl) rfl rfl dX10_cuts_47 rfl ?_
    refine vv_iconst (q := 51) X (0 : Int32) dX10_cuts_50 (by decide) rfl ?_
    obtain ⟨hin11, h⟩ := h
    refine vv_iald (q := 52) X 2 2 (Nat.le_of_ble_eq_true rfl) (fun _ => rfl) hin11 dX10_cuts_51 rfl ?_
    refine vv_icmp_ge (q := 55) X 145 dX10_cuts_52 (by decide) rfl (fun c12 => ?_) (fun c12 => ?_)
    · have h := h.1 c12
      refine vv_sub (lv' := [(0, .ref (ad 0)), (1, .int f1)]) [0, 1] rfl ?_
      exact hK145 σ h
    · have h := h.2 c12
      refine vv_aload_n (q := 56) X 0 dX10_cuts_55 rfl rfl rfl ?_
      refine vv_getf (q := 59) (ref := "HalfLaddersModel") (C := RX10) (T := TX10) (N := 27) X 0 10 4 (Nat.le_of_ble_eq_true rfl) rfl rfl (Nat.le_of_ble_eq_true rfl) (fun _ h => List.mem_cons_of_mem _ (List.mem_append_right _ h)) (List.mem_of_getElem? (i := 3) rfl) rfl rfl dX10_cuts_56 rfl ?_
      refine vv_iload_n (q := 60) X 2 dX10_cuts_59 rfl rfl rfl ?_
      obtain ⟨hin13, h⟩ := h
      refine vv_iald (q := 61) X 3 16 (Nat.le_of_ble_eq_true rfl) (fun _ => rfl) hin13 dX10_cuts_60 rfl ?_
      refine vv_if_ne (q := 64) X 139 dX10_cuts_61 (by decide) rfl (fun c14 => ?_) (fun c14 => ?_)
      · have h := h.1 c14
        obtain ⟨z15, hz15⟩ : ∃ y : Int32, y = x2 + (1 : Int32) := ⟨_, rfl⟩
        have h := h z15 hz15
        refine vv_iinc (v := z15) (lv2 := [(2, .int z15), (0, .ref (ad 0)), (1, .int f1)]) (q := 142) X 2 dX10_cuts_139 rfl (by rw [hz15]; rfl) (Nat.le_of_ble_eq_true rfl) rfl rfl ?_
        refine vv_goto X 45 dX10_cuts_142 (by decide) ?_
        refine vv_sub (lv' := [(0, .ref (ad 0)), (1, .int f1), (2, .int z15)]) [1, 2, 0] rfl ?_
        exact ih σ z15 h
      · have h := h.2 c14
        refine vv_iconst (q := 65) X (0 : Int32) dX10_cuts_64 (by decide) rfl ?_
        refine vv_istore_n (lv2 := [(3, .int (0 : Int32)), (0, .ref (ad 0)), (1, .int f1), (2, .int x2)]) (q := 66) X dX10_cuts_65 rfl (Nat.le_of_ble_eq_true rfl) rfl rfl ?_
        obtain ⟨n35, h⟩ := h
        refine vv_sub (lv' := [(0, .ref (ad 0)), (1, .int f1), (2, .int x2), (3, .int (0 : Int32))]) [1, 2, 3, 0] rfl ?_
        refine twLX10_cuts_66 X hr f1 x2  _ ?_ n35 σ (0 : Int32) h
        intro σ21 h
        refine vv_iconst (q := 92) X (0 : Int32) dX10_cuts_91 (by decide) rfl ?_
        refine vv_istore_n (lv2 := [(3, .int (0 : Int32)), (0, .ref (ad 0)), (1, .int f1), (2, .int x2)]) (q := 93) X dX10_cuts_92 rfl (Nat.le_of_ble_eq_true rfl) rfl rfl ?_
        obtain ⟨n34, h⟩ := h
        refine vv_sub (lv' := [(0, .ref (ad 0)), (1, .int f1), (2, .int x2), (3, .int (0 : Int32))]) [1, 2, 3, 0] rfl ?_
        refine twLX10_cuts_93 X hr f1 x2  _ ?_ n34 σ21 (0 : Int32) h
        intro σ25 h
        refine vv_iconst (q := 113) X (0 : Int32) dX10_cuts_112 (by decide) rfl ?_
        refine vv_istore_n (lv2 := [(3, .int (0 : Int32)), (0, .ref (ad 0)), (1, .int f1), (2, .int x2)]) (q := 114) X dX10_cuts_113 rfl (Nat.le_of_ble_eq_true rfl) rfl rfl ?_
        obtain ⟨n33, h⟩ := h
        refine vv_sub (lv' := [(0, .ref (ad 0)), (1, .int f1), (2, .int x2), (3, .int (0 : Int32))]) [1, 2, 3, 0] rfl ?_
        refine twLX10_cuts_114 X hr f1 x2  _ ?_ n33 σ25 (0 : Int32) h
        intro σ31 h
        obtain ⟨z32, hz32⟩ : ∃ y : Int32, y = x2 + (1 : Int32) := ⟨_, rfl⟩
        have h := h z32 hz32
        refine vv_iinc (v := z32) (lv2 := [(2, .int z32), (0, .ref (ad 0)), (1, .int f1)]) (q := 142) X 2 dX10_cuts_139 rfl (by rw [hz32]; rfl) (Nat.le_of_ble_eq_true rfl) rfl rfl ?_
        refine vv_goto X 45 dX10_cuts_142 (by decide) ?_
        refine vv_sub (lv' := [(0, .ref (ad 0)), (1, .int f1), (2, .int z32)]) [1, 2, 0] rfl ?_
        exact ih σ31 z32 h

def wLX10_cuts_151 (f1 : Int32) (σ : St) (K197 : Int32 → Prop) (P : Int32 → St → Prop) : Nat → Int32 → Int32 → Prop
  | 0, _, _ => False
  | n + 1, x2, x3 =>
    ((256 : Int32) ≤ x3 →
    K197 x2) ∧
    (¬ (256 : Int32) ≤ x3 →
    vp_in (((256 : Int32) * f1) + x3) 1280 ∧
    (x2 ≤ (σ.1 19 (((256 : Int32) * f1) + x3).toNatClampNeg) →
    ∀ z40 : Int32, z40 = x3 + (1 : Int32) →
    wLX10_cuts_151 f1 σ K197 P n x2 z40) ∧
    (¬ x2 ≤ (σ.1 19 (((256 : Int32) * f1) + x3).toNatClampNeg) →
    vp_in (((256 : Int32) * f1) + x3) 1280 ∧
    ∀ z42 : Int32, z42 = (σ.1 19 (((256 : Int32) * f1) + x3).toNatClampNeg) →
    ∀ z43 : Int32, z43 = x3 + (1 : Int32) →
    wLX10_cuts_151 f1 σ K197 P n z42 z43))

set_option maxHeartbeats 4000000 in
set_option maxRecDepth 100000 in
theorem twLX10_cuts_151 {p : Program} {l : Launch} {e : Env} {s : State} {m : MethodId} {args : Array Value} {below : List Frame} {meth : Method} {c : Code} {D : va_G} {cy : Nat → ClassId} {ad : Nat → Nat} (X : XX p s m args meth c cX10_cuts 4 D cy (wM ad cy) wsX10_cuts RX10) (hr : meth.sig.returnType = (some .int)) (f1 : Int32)  (σ : St) (K197 : Int32 → Prop) {P : Int32 → St → Prop} (hK197 : ∀ (x2 : Int32), K197 x2 → VV p l e rmX10_cuts s m args below meth c (MQ below (va_Qi P (xPost D (wM ad cy)) (xA (wM ad cy))) args s 0 0 (xA (wM ad cy))) 4 D (wM ad cy) σ 197 [(2, .int x2)] []) : ∀ (n : Nat) (x2 : Int32) (x3 : Int32), wLX10_cuts_151 f1 σ K197 P n x2 x3 → VV p l e rmX10_cuts s m args below meth c (MQ below (va_Qi P (xPost D (wM ad cy)) (xA (wM ad cy))) args s 0 0 (xA (wM ad cy))) 4 D (wM ad cy) σ 151 [(0, .ref (ad 0)), (1, .int f1), (2, .int x2), (3, .int x3)] [] := by
  intro n
  induction n with
  | zero => intro x2 x3 h; exact h.elim
  | succ n ih =>
    intro x2 x3 h
    rw [wLX10_cuts_151] at h
    refine vv_iload_n (q := 152) X 3 dX10_cuts_151 rfl rfl rfl ?_
    refine vv_sipush (q := 155) X (256 : Int32) dX10_cuts_152 (by decide) rfl ?_
    refine vv_icmp_ge (q := 158) X 197 dX10_cuts_155 (by decide) rfl (fun c37 => ?_) (fun c37 => ?_)
    · have h := h.1 c37
      refine vv_sub (lv' := [(2, .int x2)]) [2] rfl ?_
      exact hK197 x2 h
    · have h := h.2 c37
      refine vv_aload_n (q := 159) X 0 dX10_cuts_158 rfl rfl rfl ?_
      refine vv_getf (q := 162) (ref := "HalfLaddersModel") (C := RX10) (T := TX10) (N := 27) X 0 10 25 (Nat.le_of_ble_eq_true rfl) rfl rfl (Nat.le_of_ble_eq_true rfl) (fun _ h => List.mem_cons_of_mem _ (List.mem_append_right _ h)) (List.mem_of_getElem? (i := 1) rfl) rfl rfl dX10_cuts_159 rfl ?_
      refine vv_sipush (q := 165) X (256 : Int32) dX10_cuts_162 (by decide) rfl ?_
      refine vv_iload_n (q := 166) X 1 dX10_cuts_165 rfl rfl rfl ?_
      refine vv_imul (q := 167) X dX10_cuts_166 rfl ?_
      refine vv_iload_n (q := 168) X 3 dX10_cuts_167 rfl rfl rfl ?_
      refine vv_iadd (q := 169) X dX10_cuts_168 rfl ?_
      obtain ⟨hin38, h⟩ := h
      refine vv_iald (q := 170) X 19 1280 (Nat.le_of_ble_eq_true rfl) (fun _ => rfl) hin38 dX10_cuts_169 rfl ?_
      refine vv_iload_n (q := 171) X 2 dX10_cuts_170 rfl rfl rfl ?_
      refine vv_icmp_ge (q := 174) X 189 dX10_cuts_171 (by decide) rfl (fun c39 => ?_) (fun c39 => ?_)
      · have h := h.1 c39
        refine vv_iload_n (q := 190) X 2 dX10_cuts_189 rfl rfl rfl ?_
        refine vv_istore_n (lv2 := [(2, .int x2), (0, .ref (ad 0)), (1, .int f1), (3, .int x3)]) (q := 191) X dX10_cuts_190 rfl (Nat.le_of_ble_eq_true rfl) rfl rfl ?_
        obtain ⟨z40, hz40⟩ : ∃ y : Int32, y = x3 + (1 : Int32) := ⟨_, rfl⟩
        have h := h z40 hz40
        refine vv_iinc (v := z40) (lv2 := [(3, .int z40), (2, .int x2), (0, .ref (ad 0)), (1, .int f1)]) (q := 194) X 3 dX10_cuts_191 rfl (by rw [hz40]; rfl) (Nat.le_of_ble_eq_true rfl) rfl rfl ?_
        refine vv_goto X 151 dX10_cuts_194 (by decide) ?_
        refine vv_sub (lv' := [(0, .ref (ad 0)), (1, .int f1), (2, .int x2), (3, .int z40)]) [2, 3, 1, 0] rfl ?_
        exact ih x2 z40 h
      · have h := h.2 c39
        refine vv_aload_n (q := 175) X 0 dX10_cuts_174 rfl rfl rfl ?_
        refine vv_getf (q := 178) (ref := "HalfLaddersModel") (C := RX10) (T := TX10) (N := 27) X 0 10 25 (Nat.le_of_ble_eq_true rfl) rfl rfl (Nat.le_of_ble_eq_true rfl) (fun _ h => List.mem_cons_of_mem _ (List.mem_append_right _ h)) (List.mem_of_getElem? (i := 1) rfl) rfl rfl dX10_cuts_175 rfl ?_
        refine vv_sipush (q := 181) X (256 : Int32) dX10_cuts_178 (by decide) rfl ?_
        refine vv_iload_n (q := 182) X 1 dX10_cuts_181 rfl rfl rfl ?_
        refine vv_imul (q := 183) X dX10_cuts_182 rfl ?_
        refine vv_iload_n (q := 184) X 3 dX10_cuts_183 rfl rfl rfl ?_
        refine vv_iadd (q := 185) X dX10_cuts_184 rfl ?_
        obtain ⟨hin41, h⟩ := h
        refine vv_iald (q := 186) X 19 1280 (Nat.le_of_ble_eq_true rfl) (fun _ => rfl) hin41 dX10_cuts_185 rfl ?_
        refine vv_goto X 190 dX10_cuts_186 (by decide) ?_
        refine vv_topi (fun z42 hz42 => ?_)
        have h := h z42 hz42
        refine vv_istore_n (lv2 := [(2, .int z42), (0, .ref (ad 0)), (1, .int f1), (3, .int x3)]) (q := 191) X dX10_cuts_190 rfl (Nat.le_of_ble_eq_true rfl) rfl rfl ?_
        obtain ⟨z43, hz43⟩ : ∃ y : Int32, y = x3 + (1 : Int32) := ⟨_, rfl⟩
        have h := h z43 hz43
        refine vv_iinc (v := z43) (lv2 := [(3, .int z43), (2, .int z42), (0, .ref (ad 0)), (1, .int f1)]) (q := 194) X 3 dX10_cuts_191 rfl (by rw [hz43]; rfl) (Nat.le_of_ble_eq_true rfl) rfl rfl ?_
        refine vv_goto X 151 dX10_cuts_194 (by decide) ?_
        refine vv_sub (lv' := [(0, .ref (ad 0)), (1, .int f1), (2, .int z42), (3, .int z43)]) [2, 3, 1, 0] rfl ?_
        exact ih z42 z43 h

def wX10_cuts (σ : St) (a1 : Int32) (P : Int32 → St → Prop) : Prop :=
wX10_in σ a1 (1 : Int32) (4 : Int32) (fun r1 : Int32 =>
(¬ r1 = 0 →
∃ n48 : Nat, wLX10_cuts_13 a1 (fun (σ10 : St) =>
∃ n47 : Nat, wLX10_cuts_45 a1 (fun (σ36 : St) =>
∃ n46 : Nat, wLX10_cuts_151 a1 σ36 (fun (y44 : Int32) =>
(¬ y44 = (9999 : Int32) →
P y44 σ36) ∧
(y44 = (9999 : Int32) →
P (-9 : Int32) σ36)) P n46 (9999 : Int32) (0 : Int32)) P n47 σ10 (0 : Int32)) P n48 σ (0 : Int32)) ∧
(r1 = 0 →
P (-1 : Int32) σ))

set_option maxHeartbeats 8000000 in
set_option maxRecDepth 100000 in
theorem kX10_cuts (l : Launch) (D : va_G) {cy : Nat → ClassId} {ad : Nat → Nat} (hw : xOk (wM ad cy)) {σ : St} {a1 : Int32} {P : Int32 → St → Prop} (h : wX10_cuts σ a1 P) : MI l yX10_cuts wsX10_cuts rmX10_cuts D cy (wM ad cy) [.ref (ad 0), .int a1] σ P := by
  unfold MI
  refine vv_met (cc := cX10_cuts) (maxL := 4) (ret := (some .int)) hw (by decide +kernel) rfl [.ref (ad 0), .int a1] (Nat.le_of_ble_eq_true rfl) ?_
  intro p e s m args below meth c X hr
  have X : XX p s m args meth c cX10_cuts 4 D cy (wM ad cy) wsX10_cuts RX10 := X
  refine vv_sub (lv' := [(0, .ref (ad 0)), (1, .int a1)]) [0, 1] rfl ?_
  rw [wX10_cuts] at h
  refine vv_iload_n (q := 1) X 1 dX10_cuts_0 rfl rfl rfl ?_
  refine vv_iconst (q := 2) X (1 : Int32) dX10_cuts_1 (by decide) rfl ?_
  refine vv_iconst (q := 3) X (4 : Int32) dX10_cuts_2 (by decide) rfl ?_
  refine vv_cSi (q := 6) X [.int a1, .int (1 : Int32), .int (4 : Int32)] (kX10_in l D X.2.2.1 h) (va_cwS 3 X.1.2.2.2.2 gX10_cuts_X10_in rfl rfl rfl (by decide +kernel) ⟨Nat.le_of_ble_eq_true rfl, Nat.le_of_ble_eq_true rfl⟩) rfl rfl (Nat.le_of_ble_eq_true rfl) dX10_cuts_3 rfl (fun r1 u9 h9 => ?_)
  obtain ⟨h9, hu9⟩ := h9
  subst u9
  have h := h9
  refine vv_if_ne (q := 9) X 11 dX10_cuts_6 (by decide) rfl (fun c2 => ?_) (fun c2 => ?_)
  · have h := h.1 c2
    refine vv_iconst (q := 12) X (0 : Int32) dX10_cuts_11 (by decide) rfl ?_
    refine vv_istore_n (lv2 := [(2, .int (0 : Int32)), (0, .ref (ad 0)), (1, .int a1)]) (q := 13) X dX10_cuts_12 rfl (Nat.le_of_ble_eq_true rfl) rfl rfl ?_
    obtain ⟨n48, h⟩ := h
    refine vv_sub (lv' := [(0, .ref (ad 0)), (1, .int a1), (2, .int (0 : Int32))]) [1, 2, 0] rfl ?_
    refine twLX10_cuts_13 X hr a1  _ ?_ n48 σ (0 : Int32) h
    intro σ10 h
    refine vv_iconst (q := 44) X (0 : Int32) dX10_cuts_43 (by decide) rfl ?_
    refine vv_istore_n (lv2 := [(2, .int (0 : Int32)), (0, .ref (ad 0)), (1, .int a1)]) (q := 45) X dX10_cuts_44 rfl (Nat.le_of_ble_eq_true rfl) rfl rfl ?_
    obtain ⟨n47, h⟩ := h
    refine vv_sub (lv' := [(0, .ref (ad 0)), (1, .int a1), (2, .int (0 : Int32))]) [1, 2, 0] rfl ?_
    refine twLX10_cuts_45 X hr a1  _ ?_ n47 σ10 (0 : Int32) h
    intro σ36 h
    refine vv_sipush (q := 148) X (9999 : Int32) dX10_cuts_145 (by decide) rfl ?_
    refine vv_istore_n (lv2 := [(2, .int (9999 : Int32)), (0, .ref (ad 0)), (1, .int a1)]) (q := 149) X dX10_cuts_148 rfl (Nat.le_of_ble_eq_true rfl) rfl rfl ?_
    refine vv_iconst (q := 150) X (0 : Int32) dX10_cuts_149 (by decide) rfl ?_
    refine vv_istore_n (lv2 := [(3, .int (0 : Int32)), (2, .int (9999 : Int32)), (0, .ref (ad 0)), (1, .int a1)]) (q := 151) X dX10_cuts_150 rfl (Nat.le_of_ble_eq_true rfl) rfl rfl ?_
    obtain ⟨n46, h⟩ := h
    refine vv_sub (lv' := [(0, .ref (ad 0)), (1, .int a1), (2, .int (9999 : Int32)), (3, .int (0 : Int32))]) [2, 3, 1, 0] rfl ?_
    refine twLX10_cuts_151 X hr a1  σ36 _ ?_ n46 (9999 : Int32) (0 : Int32) h
    intro y44 h
    refine vv_iload_n (q := 198) X 0 dX10_cuts_197 rfl rfl rfl ?_
    refine vv_sipush (q := 201) X (9999 : Int32) dX10_cuts_198 (by decide) rfl ?_
    refine vv_icmp_ne (q := 204) X 209 dX10_cuts_201 (by decide) rfl (fun c45 => ?_) (fun c45 => ?_)
    · have h := h.1 c45
      refine vv_iload_n (q := 210) X 0 dX10_cuts_209 rfl rfl rfl ?_
      exact vv_iret X hr dX10_cuts_210 h
    · have h := h.2 c45
      refine vv_bipush (q := 206) X (-9 : Int32) dX10_cuts_204 (by decide) rfl ?_
      refine vv_goto X 210 dX10_cuts_206 (by decide) ?_
      exact vv_iret X hr dX10_cuts_210 h
  · have h := h.2 c2
    refine vv_iconst (q := 10) X (-1 : Int32) dX10_cuts_9 (by decide) rfl ?_
    exact vv_iret X hr dX10_cuts_10 h

/-! X10_whose: whose(III)I -/
def rmX10_whose : Room := { frames := 1, cells := 0, slots := 0, locals := 22 }
def wLX10_whose_55 (f1 : Int32) (f2 : Int32) (f3 : Int32) (f6 : Int32) (σ : St) (K150 : Int32 → Int32 → Prop) (P : Int32 → Prop) : Nat → Int32 → Int32 → Int32 → Prop
  | 0, _, _, _ => False
  | n + 1, x4, x5, x7 =>
    vp_in (0 : Int32) 2 ∧
    ((σ.1 2 (0 : Int32).toNatClampNeg) ≤ x7 →
    K150 x4 x5) ∧
    (¬ (σ.1 2 (0 : Int32).toNatClampNeg) ≤ x7 →
    vp_in f6 16 ∧
    (¬ (σ.1 3 f6.toNatClampNeg) = 0 →
    ∀ z13 : Int32, z13 = x7 + (1 : Int32) →
    wLX10_whose_55 f1 f2 f3 f6 σ K150 P n x4 x5 z13) ∧
    ((σ.1 3 f6.toNatClampNeg) = 0 →
    vp_in x7 16 ∧
    (¬ (σ.1 3 x7.toNatClampNeg) = (1 : Int32) →
    ∀ z16 : Int32, z16 = x7 + (1 : Int32) →
    wLX10_whose_55 f1 f2 f3 f6 σ K150 P n x4 x5 z16) ∧
    ((σ.1 3 x7.toNatClampNeg) = (1 : Int32) →
    wX10_fits σ f6 x7 (fun r17 : Int32 =>
    (r17 = 0 →
    ∀ z19 : Int32, z19 = x7 + (1 : Int32) →
    wLX10_whose_55 f1 f2 f3 f6 σ K150 P n x4 x5 z19) ∧
    (¬ r17 = 0 →
    vp_in f6 16 ∧
    (¬ (σ.1 4 f6.toNatClampNeg) = f1 →
    ∀ z22 : Int32, z22 = x7 + (1 : Int32) →
    wLX10_whose_55 f1 f2 f3 f6 σ K150 P n x4 x5 z22) ∧
    ((σ.1 4 f6.toNatClampNeg) = f1 →
    wX10_ladder σ f6 x7 (fun r23 : Int32 =>
    (r23 < f2 →
    ∀ z25 : Int32, z25 = x7 + (1 : Int32) →
    wLX10_whose_55 f1 f2 f3 f6 σ K150 P n x4 x5 z25) ∧
    (¬ r23 < f2 →
    (¬ x4 = 0 →
    ∀ z27 : Int32, z27 = x4 + (1 : Int32) →
    ∀ z28 : Int32, z28 = x7 + (1 : Int32) →
    wLX10_whose_55 f1 f2 f3 f6 σ K150 P n z27 x5 z28) ∧
    (x4 = 0 →
    ∀ z29 : Int32, z29 = (((10 : Int32) * f6) + x7) →
    ∀ z30 : Int32, z30 = x4 + (1 : Int32) →
    ∀ z31 : Int32, z31 = x7 + (1 : Int32) →
    wLX10_whose_55 f1 f2 f3 f6 σ K150 P n z30 z29 z31)))))))))

set_option maxHeartbeats 4000000 in
set_option maxRecDepth 100000 in
theorem twLX10_whose_55 {p : Program} {l : Launch} {e : Env} {s : State} {m : MethodId} {args : Array Value} {below : List Frame} {meth : Method} {c : Code} {D : va_G} {cy : Nat → ClassId} {ad : Nat → Nat} (X : XX p s m args meth c cX10_whose 8 D cy (wM ad cy) wsX10_whose RX10) (hr : meth.sig.returnType = (some .int)) (f1 : Int32) (f2 : Int32) (f3 : Int32) (f6 : Int32)  (σ : St) (K150 : Int32 → Int32 → Prop) {P : Int32 → Prop} (hK150 : ∀ (x4 : Int32) (x5 : Int32), K150 x4 x5 → VV p l e rmX10_whose s m args below meth c (MQ below (va_Qi (fun r u => P r ∧ u = σ) (xPost D (wM ad cy)) (xA (wM ad cy))) args s 0 0 (xA (wM ad cy))) 8 D (wM ad cy) σ 150 [(0, .ref (ad 0)), (1, .int f1), (2, .int f2), (3, .int f3), (4, .int x4), (5, .int x5), (6, .int f6)] []) : ∀ (n : Nat) (x4 : Int32) (x5 : Int32) (x7 : Int32), wLX10_whose_55 f1 f2 f3 f6 σ K150 P n x4 x5 x7 → VV p l e rmX10_whose s m args below meth c (MQ below (va_Qi (fun r u => P r ∧ u = σ) (xPost D (wM ad cy)) (xA (wM ad cy))) args s 0 0 (xA (wM ad cy))) 8 D (wM ad cy) σ 55 [(0, .ref (ad 0)), (1, .int f1), (2, .int f2), (3, .int f3), (4, .int x4), (5, .int x5), (6, .int f6), (7, .int x7)] [] := by
  intro n
  induction n with
  | zero => intro x4 x5 x7 h; exact h.elim
  | succ n ih =>
    intro x4 x5 x7 h
    rw [wLX10_whose_55] at h
    refine vv_iload (q := 57) X 7 dX10_whose_55 rfl rfl ?_
    refine vv_aload_n (q := 58) X 0 dX10_whose_57 rfl rfl rfl ?_
    refine vv_getf (q := 61) (ref := "HalfLaddersModel") (C := RX10) (T := TX10) (N := 27) X 0 10 3 (Nat.le_of_ble_eq_true rfl) rfl rfl (Nat.le_of_ble_eq_true rfl) (fun _ h => List.mem_cons_of_mem _ (List.mem_append_right _ h)) (List.mem_of_getElem? (i := 1) rfl) rfl rfl dX10_whose_58 rfl ?_
    refine vv_iconst (q := 62) X (0 : Int32) dX10_whose_61 (by decide) rfl ?_
    obtain ⟨hin9, h⟩ := h
    refine vv_iald (q := 63) X 2 2 (Nat.le_of_ble_eq_true rfl) (fun _ => rfl) hin9 dX10_whose_62 rfl ?_
    refine vv_icmp_ge (q := 66) X 150 dX10_whose_63 (by decide) rfl (fun c10 => ?_) (fun c10 => ?_)
    · have h := h.1 c10
      refine vv_sub (lv' := [(0, .ref (ad 0)), (1, .int f1), (2, .int f2), (3, .int f3), (4, .int x4), (5, .int x5), (6, .int f6)]) [0, 1, 2, 3, 4, 5, 6] rfl ?_
      exact hK150 x4 x5 h
    · have h := h.2 c10
      refine vv_aload_n (q := 67) X 0 dX10_whose_66 rfl rfl rfl ?_
      refine vv_getf (q := 70) (ref := "HalfLaddersModel") (C := RX10) (T := TX10) (N := 27) X 0 10 4 (Nat.le_of_ble_eq_true rfl) rfl rfl (Nat.le_of_ble_eq_true rfl) (fun _ h => List.mem_cons_of_mem _ (List.mem_append_right _ h)) (List.mem_of_getElem? (i := 2) rfl) rfl rfl dX10_whose_67 rfl ?_
      refine vv_iload (q := 72) X 6 dX10_whose_70 rfl rfl ?_
      obtain ⟨hin11, h⟩ := h
      refine vv_iald (q := 73) X 3 16 (Nat.le_of_ble_eq_true rfl) (fun _ => rfl) hin11 dX10_whose_72 rfl ?_
      refine vv_if_ne (q := 76) X 144 dX10_whose_73 (by decide) rfl (fun c12 => ?_) (fun c12 => ?_)
      · have h := h.1 c12
        obtain ⟨z13, hz13⟩ : ∃ y : Int32, y = x7 + (1 : Int32) := ⟨_, rfl⟩
        have h := h z13 hz13
        refine vv_iinc (v := z13) (lv2 := [(7, .int z13), (0, .ref (ad 0)), (1, .int f1), (2, .int f2), (3, .int f3), (4, .int x4), (5, .int x5), (6, .int f6)]) (q := 147) X 7 dX10_whose_144 rfl (by rw [hz13]; rfl) (Nat.le_of_ble_eq_true rfl) rfl rfl ?_
        refine vv_goto X 55 dX10_whose_147 (by decide) ?_
        refine vv_sub (lv' := [(0, .ref (ad 0)), (1, .int f1), (2, .int f2), (3, .int f3), (4, .int x4), (5, .int x5), (6, .int f6), (7, .int z13)]) [1, 2, 3, 4, 5, 6, 7, 0] rfl ?_
        exact ih x4 x5 z13 h
      · have h := h.2 c12
        refine vv_aload_n (q := 77) X 0 dX10_whose_76 rfl rfl rfl ?_
        refine vv_getf (q := 80) (ref := "HalfLaddersModel") (C := RX10) (T := TX10) (N := 27) X 0 10 4 (Nat.le_of_ble_eq_true rfl) rfl rfl (Nat.le_of_ble_eq_true rfl) (fun _ h => List.mem_cons_of_mem _ (List.mem_append_right _ h)) (List.mem_of_getElem? (i := 2) rfl) rfl rfl dX10_whose_77 rfl ?_
        refine vv_iload (q := 82) X 7 dX10_whose_80 rfl rfl ?_
        obtain ⟨hin14, h⟩ := h
        refine vv_iald (q := 83) X 3 16 (Nat.le_of_ble_eq_true rfl) (fun _ => rfl) hin14 dX10_whose_82 rfl ?_
        refine vv_iconst (q := 84) X (1 : Int32) dX10_whose_83 (by decide) rfl ?_
        refine vv_icmp_ne (q := 87) X 144 dX10_whose_84 (by decide) rfl (fun c15 => ?_) (fun c15 => ?_)
        · have h := h.1 c15
          obtain ⟨z16, hz16⟩ : ∃ y : Int32, y = x7 + (1 : Int32) := ⟨_, rfl⟩
          have h := h z16 hz16
          refine vv_iinc (v := z16) (lv2 := [(7, .int z16), (0, .ref (ad 0)), (1, .int f1), (2, .int f2), (3, .int f3), (4, .int x4), (5, .int x5), (6, .int f6)]) (q := 147) X 7 dX10_whose_144 rfl (by rw [hz16]; rfl) (Nat.le_of_ble_eq_true rfl) rfl rfl ?_
          refine vv_goto X 55 dX10_whose_147 (by decide) ?_
          refine vv_sub (lv' := [(0, .ref (ad 0)), (1, .int f1), (2, .int f2), (3, .int f3), (4, .int x4), (5, .int x5), (6, .int f6), (7, .int z16)]) [1, 2, 3, 4, 5, 6, 7, 0] rfl ?_
          exact ih x4 x5 z16 h
        · have h := h.2 c15
          refine vv_aload_n (q := 88) X 0 dX10_whose_87 rfl rfl rfl ?_
          refine vv_iload (q := 90) X 6 dX10_whose_88 rfl rfl ?_
          refine vv_iload (q := 92) X 7 dX10_whose_90 rfl rfl ?_
          refine vv_cVi (q := 95) (C := RX10) X 0 10 [.int f6, .int x7] (kX10_fits l D X.2.2.1 h) (cwV 2 X.1.2.2.2.2 gX10_whose_X10_fits rfl rfl rfl (by decide +kernel) ⟨Nat.le_of_ble_eq_true rfl, Nat.le_of_ble_eq_true rfl⟩) (Nat.le_of_ble_eq_true rfl) rfl rfl rfl rfl (Nat.le_of_ble_eq_true rfl) dX10_whose_92 rfl (fun r17 u9 h9 => ?_)
          obtain ⟨h9, hu9⟩ := h9
          subst u9
          have h := h9
          refine vv_if_eq (q := 98) X 144 dX10_whose_95 (by decide) rfl (fun c18 => ?_) (fun c18 => ?_)
          · have h := h.1 c18
            obtain ⟨z19, hz19⟩ : ∃ y : Int32, y = x7 + (1 : Int32) := ⟨_, rfl⟩
            have h := h z19 hz19
            refine vv_iinc (v := z19) (lv2 := [(7, .int z19), (0, .ref (ad 0)), (1, .int f1), (2, .int f2), (3, .int f3), (4, .int x4), (5, .int x5), (6, .int f6)]) (q := 147) X 7 dX10_whose_144 rfl (by rw [hz19]; rfl) (Nat.le_of_ble_eq_true rfl) rfl rfl ?_
            refine vv_goto X 55 dX10_whose_147 (by decide) ?_
            refine vv_sub (lv' := [(0, .ref (ad 0)), (1, .int f1), (2, .int f2), (3, .int f3), (4, .int x4), (5, .int x5), (6, .int f6), (7, .int z19)]) [1, 2, 3, 4, 5, 6, 7, 0] rfl ?_
            exact ih x4 x5 z19 h
          · have h := h.2 c18
            refine vv_aload_n (q := 99) X 0 dX10_whose_98 rfl rfl rfl ?_
            refine vv_getf (q := 102) (ref := "HalfLaddersModel") (C := RX10) (T := TX10) (N := 27) X 0 10 5 (Nat.le_of_ble_eq_true rfl) rfl rfl (Nat.le_of_ble_eq_true rfl) (fun _ h => List.mem_cons_of_mem _ (List.mem_append_right _ h)) (List.mem_of_getElem? (i := 3) rfl) rfl rfl dX10_whose_99 rfl ?_
            refine vv_iload (q := 104) X 6 dX10_whose_102 rfl rfl ?_
            obtain ⟨hin20, h⟩ := h
            refine vv_iald (q := 105) X 4 16 (Nat.le_of_ble_eq_true rfl) (fun _ => rfl) hin20 dX10_whose_104 rfl ?_
            refine vv_iload_n (q := 106) X 1 dX10_whose_105 rfl rfl rfl ?_
            refine vv_icmp_ne (q := 109) X 144 dX10_whose_106 (by decide) rfl (fun c21 => ?_) (fun c21 => ?_)
            · have h := h.1 c21
              obtain ⟨z22, hz22⟩ : ∃ y : Int32, y = x7 + (1 : Int32) := ⟨_, rfl⟩
              have h := h z22 hz22
              refine vv_iinc (v := z22) (lv2 := [(7, .int z22), (0, .ref (ad 0)), (1, .int f1), (2, .int f2), (3, .int f3), (4, .int x4), (5, .int x5), (6, .int f6)]) (q := 147) X 7 dX10_whose_144 rfl (by rw [hz22]; rfl) (Nat.le_of_ble_eq_true rfl) rfl rfl ?_
              refine vv_goto X 55 dX10_whose_147 (by decide) ?_
              refine vv_sub (lv' := [(0, .ref (ad 0)), (1, .int f1), (2, .int f2), (3, .int f3), (4, .int x4), (5, .int x5), (6, .int f6), (7, .int z22)]) [1, 2, 3, 4, 5, 6, 7, 0] rfl ?_
              exact ih x4 x5 z22 h
            · have h := h.2 c21
              refine vv_aload_n (q := 110) X 0 dX10_whose_109 rfl rfl rfl ?_
              refine vv_iload (q := 112) X 6 dX10_whose_110 rfl rfl ?_
              refine vv_iload (q := 114) X 7 dX10_whose_112 rfl rfl ?_
              refine vv_cVi (q := 117) (C := RX10) X 0 10 [.int f6, .int x7] (kX10_ladder l D X.2.2.1 h) (cwV 2 X.1.2.2.2.2 gX10_whose_X10_ladder rfl rfl rfl (by decide +kernel) ⟨Nat.le_of_ble_eq_true rfl, Nat.le_of_ble_eq_true rfl⟩) (Nat.le_of_ble_eq_true rfl) rfl rfl rfl rfl (Nat.le_of_ble_eq_true rfl) dX10_whose_114 rfl (fun r23 u9 h9 => ?_)
              obtain ⟨h9, hu9⟩ := h9
              subst u9
              have h := h9
              refine vv_iload_n (q := 118) X 2 dX10_whose_117 rfl rfl rfl ?_
              refine vv_icmp_lt (q := 121) X 144 dX10_whose_118 (by decide) rfl (fun c24 => ?_) (fun c24 => ?_)
              · have h := h.1 c24
                obtain ⟨z25, hz25⟩ : ∃ y : Int32, y = x7 + (1 : Int32) := ⟨_, rfl⟩
                have h := h z25 hz25
                refine vv_iinc (v := z25) (lv2 := [(7, .int z25), (0, .ref (ad 0)), (1, .int f1), (2, .int f2), (3, .int f3), (4, .int x4), (5, .int x5), (6, .int f6)]) (q := 147) X 7 dX10_whose_144 rfl (by rw [hz25]; rfl) (Nat.le_of_ble_eq_true rfl) rfl rfl ?_
                refine vv_goto X 55 dX10_whose_147 (by decide) ?_
                refine vv_sub (lv' := [(0, .ref (ad 0)), (1, .int f1), (2, .int f2), (3, .int f3), (4, .int x4), (5, .int x5), (6, .int f6), (7, .int z25)]) [1, 2, 3, 4, 5, 6, 7, 0] rfl ?_
                exact ih x4 x5 z25 h
              · have h := h.2 c24
                refine vv_iload (q := 123) X 4 dX10_whose_121 rfl rfl ?_
                refine vv_if_ne (q := 126) X 137 dX10_whose_123 (by decide) rfl (fun c26 => ?_) (fun c26 => ?_)
                · have h := h.1 c26
                  refine vv_iload (q := 139) X 5 dX10_whose_137 rfl rfl ?_
                  refine vv_istore (lv2 := [(5, .int x5), (0, .ref (ad 0)), (1, .int f1), (2, .int f2), (3, .int f3), (4, .int x4), (6, .int f6), (7, .int x7)]) (q := 141) X dX10_whose_139 (Nat.le_of_ble_eq_true rfl) rfl rfl ?_
                  obtain ⟨z27, hz27⟩ : ∃ y : Int32, y = x4 + (1 : Int32) := ⟨_, rfl⟩
                  have h := h z27 hz27
                  refine vv_iinc (v := z27) (lv2 := [(4, .int z27), (5, .int x5), (0, .ref (ad 0)), (1, .int f1), (2, .int f2), (3, .int f3), (6, .int f6), (7, .int x7)]) (q := 144) X 5 dX10_whose_141 rfl (by rw [hz27]; rfl) (Nat.le_of_ble_eq_true rfl) rfl rfl ?_
                  obtain ⟨z28, hz28⟩ : ∃ y : Int32, y = x7 + (1 : Int32) := ⟨_, rfl⟩
                  have h := h z28 hz28
                  refine vv_iinc (v := z28) (lv2 := [(7, .int z28), (4, .int z27), (5, .int x5), (0, .ref (ad 0)), (1, .int f1), (2, .int f2), (3, .int f3), (6, .int f6)]) (q := 147) X 7 dX10_whose_144 rfl (by rw [hz28]; rfl) (Nat.le_of_ble_eq_true rfl) rfl rfl ?_
                  refine vv_goto X 55 dX10_whose_147 (by decide) ?_
                  refine vv_sub (lv' := [(0, .ref (ad 0)), (1, .int f1), (2, .int f2), (3, .int f3), (4, .int z27), (5, .int x5), (6, .int f6), (7, .int z28)]) [3, 4, 5, 6, 1, 2, 7, 0] rfl ?_
                  exact ih z27 x5 z28 h
                · have h := h.2 c26
                  refine vv_bipush (q := 128) X (10 : Int32) dX10_whose_126 (by decide) rfl ?_
                  refine vv_iload (q := 130) X 6 dX10_whose_128 rfl rfl ?_
                  refine vv_imul (q := 131) X dX10_whose_130 rfl ?_
                  refine vv_iload (q := 133) X 7 dX10_whose_131 rfl rfl ?_
                  refine vv_iadd (q := 134) X dX10_whose_133 rfl ?_
                  refine vv_goto X 139 dX10_whose_134 (by decide) ?_
                  refine vv_topi (fun z29 hz29 => ?_)
                  have h := h z29 hz29
                  refine vv_istore (lv2 := [(5, .int z29), (0, .ref (ad 0)), (1, .int f1), (2, .int f2), (3, .int f3), (4, .int x4), (6, .int f6), (7, .int x7)]) (q := 141) X dX10_whose_139 (Nat.le_of_ble_eq_true rfl) rfl rfl ?_
                  obtain ⟨z30, hz30⟩ : ∃ y : Int32, y = x4 + (1 : Int32) := ⟨_, rfl⟩
                  have h := h z30 hz30
                  refine vv_iinc (v := z30) (lv2 := [(4, .int z30), (5, .int z29), (0, .ref (ad 0)), (1, .int f1), (2, .int f2), (3, .int f3), (6, .int f6), (7, .int x7)]) (q := 144) X 5 dX10_whose_141 rfl (by rw [hz30]; rfl) (Nat.le_of_ble_eq_true rfl) rfl rfl ?_
                  obtain ⟨z31, hz31⟩ : ∃ y : Int32, y = x7 + (1 : Int32) := ⟨_, rfl⟩
                  have h := h z31 hz31
                  refine vv_iinc (v := z31) (lv2 := [(7, .int z31), (4, .int z30), (5, .int z29), (0, .ref (ad 0)), (1, .int f1), (2, .int f2), (3, .int f3), (6, .int f6)]) (q := 147) X 7 dX10_whose_144 rfl (by rw [hz31]; rfl) (Nat.le_of_ble_eq_true rfl) rfl rfl ?_
                  refine vv_goto X 55 dX10_whose_147 (by decide) ?_
                  refine vv_sub (lv' := [(0, .ref (ad 0)), (1, .int f1), (2, .int f2), (3, .int f3), (4, .int z30), (5, .int z29), (6, .int f6), (7, .int z31)]) [3, 4, 5, 6, 1, 2, 7, 0] rfl ?_
                  exact ih z30 z29 z31 h

def wLX10_whose_41 (f1 : Int32) (f2 : Int32) (f3 : Int32) (σ : St) (K156 : Int32 → Int32 → Prop) (P : Int32 → Prop) : Nat → Int32 → Int32 → Int32 → Prop
  | 0, _, _, _ => False
  | n + 1, x4, x5, x6 =>
    vp_in (0 : Int32) 2 ∧
    ((σ.1 2 (0 : Int32).toNatClampNeg) ≤ x6 →
    K156 x4 x5) ∧
    (¬ (σ.1 2 (0 : Int32).toNatClampNeg) ≤ x6 →
    ∃ n35 : Nat, wLX10_whose_55 f1 f2 f3 x6 σ (fun (y32 : Int32) (y33 : Int32) =>
    ∀ z34 : Int32, z34 = x6 + (1 : Int32) →
    wLX10_whose_41 f1 f2 f3 σ K156 P n y32 y33 z34) P n35 x4 x5 (0 : Int32))

set_option maxHeartbeats 4000000 in
set_option maxRecDepth 100000 in
theorem twLX10_whose_41 {p : Program} {l : Launch} {e : Env} {s : State} {m : MethodId} {args : Array Value} {below : List Frame} {meth : Method} {c : Code} {D : va_G} {cy : Nat → ClassId} {ad : Nat → Nat} (X : XX p s m args meth c cX10_whose 8 D cy (wM ad cy) wsX10_whose RX10) (hr : meth.sig.returnType = (some .int)) (f1 : Int32) (f2 : Int32) (f3 : Int32)  (σ : St) (K156 : Int32 → Int32 → Prop) {P : Int32 → Prop} (hK156 : ∀ (x4 : Int32) (x5 : Int32), K156 x4 x5 → VV p l e rmX10_whose s m args below meth c (MQ below (va_Qi (fun r u => P r ∧ u = σ) (xPost D (wM ad cy)) (xA (wM ad cy))) args s 0 0 (xA (wM ad cy))) 8 D (wM ad cy) σ 156 [(3, .int f3), (4, .int x4), (5, .int x5)] []) : ∀ (n : Nat) (x4 : Int32) (x5 : Int32) (x6 : Int32), wLX10_whose_41 f1 f2 f3 σ K156 P n x4 x5 x6 → VV p l e rmX10_whose s m args below meth c (MQ below (va_Qi (fun r u => P r ∧ u = σ) (xPost D (wM ad cy)) (xA (wM ad cy))) args s 0 0 (xA (wM ad cy))) 8 D (wM ad cy) σ 41 [(0, .ref (ad 0)), (1, .int f1), (2, .int f2), (3, .int f3), (4, .int x4), (5, .int x5), (6, .int x6)] [] := by
  intro n
  induction n with
  | zero => intro x4 x5 x6 h; exact h.elim
  | succ n ih =>
    intro x4 x5 x6 h
    rw [wLX10_whose_41] at h
    refine vv_iload (q := 43) X 6 dX10_whose_41 rfl rfl ?_
    refine vv_aload_n (q := 44) X 0 dX10_whose_43 rfl rfl rfl ?_
    refine vv_getf (q := 47) (ref := "HalfLaddersModel") (C := RX10) (T := TX10) (N := 27) X 0 10 3 (Nat.le_of_ble_eq_true rfl) rfl rfl (Nat.le_of_ble_eq_true rfl) (fun _ h => List.mem_cons_of_mem _ (List.mem_append_right _ h)) (List.mem_of_getElem? (i := 1) rfl) rfl rfl dX10_whose_44 rfl ?_
    refine vv_iconst (q := 48) X (0 : Int32) dX10_whose_47 (by decide) rfl ?_
    obtain ⟨hin7, h⟩ := h
    refine vv_iald (q := 49) X 2 2 (Nat.le_of_ble_eq_true rfl) (fun _ => rfl) hin7 dX10_whose_48 rfl ?_
    refine vv_icmp_ge (q := 52) X 156 dX10_whose_49 (by decide) rfl (fun c8 => ?_) (fun c8 => ?_)
    · have h := h.1 c8
      refine vv_sub (lv' := [(3, .int f3), (4, .int x4), (5, .int x5)]) [3, 4, 5] rfl ?_
      exact hK156 x4 x5 h
    · have h := h.2 c8
      refine vv_iconst (q := 53) X (0 : Int32) dX10_whose_52 (by decide) rfl ?_
      refine vv_istore (lv2 := [(7, .int (0 : Int32)), (0, .ref (ad 0)), (1, .int f1), (2, .int f2), (3, .int f3), (4, .int x4), (5, .int x5), (6, .int x6)]) (q := 55) X dX10_whose_53 (Nat.le_of_ble_eq_true rfl) rfl rfl ?_
      obtain ⟨n35, h⟩ := h
      refine vv_sub (lv' := [(0, .ref (ad 0)), (1, .int f1), (2, .int f2), (3, .int f3), (4, .int x4), (5, .int x5), (6, .int x6), (7, .int (0 : Int32))]) [1, 2, 3, 4, 5, 6, 7, 0] rfl ?_
      refine twLX10_whose_55 X hr f1 f2 f3 x6  σ _ ?_ n35 x4 x5 (0 : Int32) h
      intro y32 y33 h
      obtain ⟨z34, hz34⟩ : ∃ y : Int32, y = x6 + (1 : Int32) := ⟨_, rfl⟩
      have h := h z34 hz34
      refine vv_iinc (v := z34) (lv2 := [(6, .int z34), (0, .ref (ad 0)), (1, .int f1), (2, .int f2), (3, .int f3), (4, .int y32), (5, .int y33)]) (q := 153) X 6 dX10_whose_150 rfl (by rw [hz34]; rfl) (Nat.le_of_ble_eq_true rfl) rfl rfl ?_
      refine vv_goto X 41 dX10_whose_153 (by decide) ?_
      refine vv_sub (lv' := [(0, .ref (ad 0)), (1, .int f1), (2, .int f2), (3, .int f3), (4, .int y32), (5, .int y33), (6, .int z34)]) [1, 2, 3, 4, 5, 6, 0] rfl ?_
      exact ih y32 y33 z34 h

def wX10_whose (σ : St) (a1 : Int32) (a2 : Int32) (a3 : Int32) (P : Int32 → Prop) : Prop :=
wX10_in σ a1 (1 : Int32) (9 : Int32) (fun r1 : Int32 =>
(r1 = 0 →
P (-1 : Int32)) ∧
(¬ r1 = 0 →
wX10_in σ a2 (1 : Int32) (9 : Int32) (fun r3 : Int32 =>
(r3 = 0 →
P (-1 : Int32)) ∧
(¬ r3 = 0 →
wX10_in σ a3 (0 : Int32) (1 : Int32) (fun r5 : Int32 =>
(¬ r5 = 0 →
∃ n39 : Nat, wLX10_whose_41 a1 a2 a3 σ (fun (y36 : Int32) (y37 : Int32) =>
(¬ a3 = 0 →
P y37) ∧
(a3 = 0 →
P y36)) P n39 (0 : Int32) (-9 : Int32) (0 : Int32)) ∧
(r5 = 0 →
P (-1 : Int32)))))))

set_option maxHeartbeats 8000000 in
set_option maxRecDepth 100000 in
theorem kX10_whose (l : Launch) (D : va_G) {cy : Nat → ClassId} {ad : Nat → Nat} (hw : xOk (wM ad cy)) {σ : St} {a1 : Int32} {a2 : Int32} {a3 : Int32} {P : Int32 → Prop} (h : wX10_whose σ a1 a2 a3 P) : MI l yX10_whose wsX10_whose rmX10_whose D cy (wM ad cy) [.ref (ad 0), .int a1, .int a2, .int a3] σ (fun r u => P r ∧ u = σ) := by
  unfold MI
  refine vv_met (cc := cX10_whose) (maxL := 8) (ret := (some .int)) hw (by decide +kernel) rfl [.ref (ad 0), .int a1, .int a2, .int a3] (Nat.le_of_ble_eq_true rfl) ?_
  intro p e s m args below meth c X hr
  have X : XX p s m args meth c cX10_whose 8 D cy (wM ad cy) wsX10_whose RX10 := X
  refine vv_sub (lv' := [(0, .ref (ad 0)), (1, .int a1), (2, .int a2), (3, .int a3)]) [0, 1, 2, 3] rfl ?_
  rw [wX10_whose] at h
  refine vv_iload_n (q := 1) X 1 dX10_whose_0 rfl rfl rfl ?_
  refine vv_iconst (q := 2) X (1 : Int32) dX10_whose_1 (by decide) rfl ?_
  refine vv_bipush (q := 4) X (9 : Int32) dX10_whose_2 (by decide) rfl ?_
  refine vv_cSi (q := 7) X [.int a1, .int (1 : Int32), .int (9 : Int32)] (kX10_in l D X.2.2.1 h) (va_cwS 3 X.1.2.2.2.2 gX10_whose_X10_in rfl rfl rfl (by decide +kernel) ⟨Nat.le_of_ble_eq_true rfl, Nat.le_of_ble_eq_true rfl⟩) rfl rfl (Nat.le_of_ble_eq_true rfl) dX10_whose_4 rfl (fun r1 u9 h9 => ?_)
  obtain ⟨h9, hu9⟩ := h9
  subst u9
  have h := h9
  refine vv_if_eq (q := 10) X 29 dX10_whose_7 (by decide) rfl (fun c2 => ?_) (fun c2 => ?_)
  · have h := h.1 c2
    refine vv_iconst (q := 30) X (-1 : Int32) dX10_whose_29 (by decide) rfl ?_
    exact vv_iret X hr dX10_whose_30 ⟨h, rfl⟩
  · have h := h.2 c2
    refine vv_iload_n (q := 11) X 2 dX10_whose_10 rfl rfl rfl ?_
    refine vv_iconst (q := 12) X (1 : Int32) dX10_whose_11 (by decide) rfl ?_
    refine vv_bipush (q := 14) X (9 : Int32) dX10_whose_12 (by decide) rfl ?_
    refine vv_cSi (q := 17) X [.int a2, .int (1 : Int32), .int (9 : Int32)] (kX10_in l D X.2.2.1 h) (va_cwS 3 X.1.2.2.2.2 gX10_whose_X10_in rfl rfl rfl (by decide +kernel) ⟨Nat.le_of_ble_eq_true rfl, Nat.le_of_ble_eq_true rfl⟩) rfl rfl (Nat.le_of_ble_eq_true rfl) dX10_whose_14 rfl (fun r3 u9 h9 => ?_)
    obtain ⟨h9, hu9⟩ := h9
    subst u9
    have h := h9
    refine vv_if_eq (q := 20) X 29 dX10_whose_17 (by decide) rfl (fun c4 => ?_) (fun c4 => ?_)
    · have h := h.1 c4
      refine vv_iconst (q := 30) X (-1 : Int32) dX10_whose_29 (by decide) rfl ?_
      exact vv_iret X hr dX10_whose_30 ⟨h, rfl⟩
    · have h := h.2 c4
      refine vv_iload_n (q := 21) X 3 dX10_whose_20 rfl rfl rfl ?_
      refine vv_iconst (q := 22) X (0 : Int32) dX10_whose_21 (by decide) rfl ?_
      refine vv_iconst (q := 23) X (1 : Int32) dX10_whose_22 (by decide) rfl ?_
      refine vv_cSi (q := 26) X [.int a3, .int (0 : Int32), .int (1 : Int32)] (kX10_in l D X.2.2.1 h) (va_cwS 3 X.1.2.2.2.2 gX10_whose_X10_in rfl rfl rfl (by decide +kernel) ⟨Nat.le_of_ble_eq_true rfl, Nat.le_of_ble_eq_true rfl⟩) rfl rfl (Nat.le_of_ble_eq_true rfl) dX10_whose_23 rfl (fun r5 u9 h9 => ?_)
      obtain ⟨h9, hu9⟩ := h9
      subst u9
      have h := h9
      refine vv_if_ne (q := 29) X 31 dX10_whose_26 (by decide) rfl (fun c6 => ?_) (fun c6 => ?_)
      · have h := h.1 c6
        refine vv_iconst (q := 32) X (0 : Int32) dX10_whose_31 (by decide) rfl ?_
        refine vv_istore (lv2 := [(4, .int (0 : Int32)), (0, .ref (ad 0)), (1, .int a1), (2, .int a2), (3, .int a3)]) (q := 34) X dX10_whose_32 (Nat.le_of_ble_eq_true rfl) rfl rfl ?_
        refine vv_bipush (q := 36) X (-9 : Int32) dX10_whose_34 (by decide) rfl ?_
        refine vv_istore (lv2 := [(5, .int (-9 : Int32)), (4, .int (0 : Int32)), (0, .ref (ad 0)), (1, .int a1), (2, .int a2), (3, .int a3)]) (q := 38) X dX10_whose_36 (Nat.le_of_ble_eq_true rfl) rfl rfl ?_
        refine vv_iconst (q := 39) X (0 : Int32) dX10_whose_38 (by decide) rfl ?_
        refine vv_istore (lv2 := [(6, .int (0 : Int32)), (5, .int (-9 : Int32)), (4, .int (0 : Int32)), (0, .ref (ad 0)), (1, .int a1), (2, .int a2), (3, .int a3)]) (q := 41) X dX10_whose_39 (Nat.le_of_ble_eq_true rfl) rfl rfl ?_
        obtain ⟨n39, h⟩ := h
        refine vv_sub (lv' := [(0, .ref (ad 0)), (1, .int a1), (2, .int a2), (3, .int a3), (4, .int (0 : Int32)), (5, .int (-9 : Int32)), (6, .int (0 : Int32))]) [3, 4, 5, 6, 2, 1, 0] rfl ?_
        refine twLX10_whose_41 X hr a1 a2 a3  σ _ ?_ n39 (0 : Int32) (-9 : Int32) (0 : Int32) h
        intro y36 y37 h
        refine vv_iload_n (q := 157) X 0 dX10_whose_156 rfl rfl rfl ?_
        refine vv_if_ne (q := 160) X 165 dX10_whose_157 (by decide) rfl (fun c38 => ?_) (fun c38 => ?_)
        · have h := h.1 c38
          refine vv_iload (q := 167) X 2 dX10_whose_165 rfl rfl ?_
          exact vv_iret X hr dX10_whose_167 ⟨h, rfl⟩
        · have h := h.2 c38
          refine vv_iload (q := 162) X 1 dX10_whose_160 rfl rfl ?_
          refine vv_goto X 167 dX10_whose_162 (by decide) ?_
          exact vv_iret X hr dX10_whose_167 ⟨h, rfl⟩
      · have h := h.2 c6
        refine vv_iconst (q := 30) X (-1 : Int32) dX10_whose_29 (by decide) rfl ?_
        exact vv_iret X hr dX10_whose_30 ⟨h, rfl⟩

/-! X10_mark: mark(II)I -/
def rmX10_mark : Room := { frames := 2, cells := 0, slots := 0, locals := 43 }
def wLX10_mark_25 (f1 : Int32) (f2 : Int32) (σ : St) (K66 : Int32 → Prop) (P : Int32 → St → Prop) : Nat → Int32 → Int32 → Prop
  | 0, _, _ => False
  | n + 1, x3, x4 =>
    vp_in (0 : Int32) 2 ∧
    ((σ.1 2 (0 : Int32).toNatClampNeg) ≤ x4 →
    K66 x3) ∧
    (¬ (σ.1 2 (0 : Int32).toNatClampNeg) ≤ x4 →
    (x4 = f2 →
    ∀ z8 : Int32, z8 = (x3 + (0 : Int32)) →
    ∀ z9 : Int32, z9 = x4 + (1 : Int32) →
    wLX10_mark_25 f1 f2 σ K66 P n z8 z9) ∧
    (¬ x4 = f2 →
    wX10_fits σ f2 x4 (fun r10 : Int32 =>
    (r10 = 0 →
    ∀ z12 : Int32, z12 = (x3 + (0 : Int32)) →
    ∀ z13 : Int32, z13 = x4 + (1 : Int32) →
    wLX10_mark_25 f1 f2 σ K66 P n z12 z13) ∧
    (¬ r10 = 0 →
    ∀ z14 : Int32, z14 = (x3 + (1 : Int32)) →
    ∀ z15 : Int32, z15 = x4 + (1 : Int32) →
    wLX10_mark_25 f1 f2 σ K66 P n z14 z15))))

set_option maxHeartbeats 4000000 in
set_option maxRecDepth 100000 in
theorem twLX10_mark_25 {p : Program} {l : Launch} {e : Env} {s : State} {m : MethodId} {args : Array Value} {below : List Frame} {meth : Method} {c : Code} {D : va_G} {cy : Nat → ClassId} {ad : Nat → Nat} (X : XX p s m args meth c cX10_mark 5 D cy (wM ad cy) wsX10_mark RX10) (hr : meth.sig.returnType = (some .int)) (f1 : Int32) (f2 : Int32)  (σ : St) (K66 : Int32 → Prop) {P : Int32 → St → Prop} (hK66 : ∀ (x3 : Int32), K66 x3 → VV p l e rmX10_mark s m args below meth c (MQ below (va_Qi P (xPost D (wM ad cy)) (xA (wM ad cy))) args s 0 0 (xA (wM ad cy))) 5 D (wM ad cy) σ 66 [(0, .ref (ad 0)), (1, .int f1), (2, .int f2), (3, .int x3)] []) : ∀ (n : Nat) (x3 : Int32) (x4 : Int32), wLX10_mark_25 f1 f2 σ K66 P n x3 x4 → VV p l e rmX10_mark s m args below meth c (MQ below (va_Qi P (xPost D (wM ad cy)) (xA (wM ad cy))) args s 0 0 (xA (wM ad cy))) 5 D (wM ad cy) σ 25 [(0, .ref (ad 0)), (1, .int f1), (2, .int f2), (3, .int x3), (4, .int x4)] [] := by
  intro n
  induction n with
  | zero => intro x3 x4 h; exact h.elim
  | succ n ih =>
    intro x3 x4 h
    rw [wLX10_mark_25] at h
    refine vv_iload (q := 27) X 4 dX10_mark_25 rfl rfl ?_
    refine vv_aload_n (q := 28) X 0 dX10_mark_27 rfl rfl rfl ?_
    refine vv_getf (q := 31) (ref := "HalfLaddersModel") (C := RX10) (T := TX10) (N := 27) X 0 10 3 (Nat.le_of_ble_eq_true rfl) rfl rfl (Nat.le_of_ble_eq_true rfl) (fun _ h => List.mem_cons_of_mem _ (List.mem_append_right _ h)) (List.mem_of_getElem? (i := 2) rfl) rfl rfl dX10_mark_28 rfl ?_
    refine vv_iconst (q := 32) X (0 : Int32) dX10_mark_31 (by decide) rfl ?_
    obtain ⟨hin5, h⟩ := h
    refine vv_iald (q := 33) X 2 2 (Nat.le_of_ble_eq_true rfl) (fun _ => rfl) hin5 dX10_mark_32 rfl ?_
    refine vv_icmp_ge (q := 36) X 66 dX10_mark_33 (by decide) rfl (fun c6 => ?_) (fun c6 => ?_)
    · have h := h.1 c6
      refine vv_sub (lv' := [(0, .ref (ad 0)), (1, .int f1), (2, .int f2), (3, .int x3)]) [0, 1, 2, 3] rfl ?_
      exact hK66 x3 h
    · have h := h.2 c6
      refine vv_iload_n (q := 37) X 3 dX10_mark_36 rfl rfl rfl ?_
      refine vv_iload (q := 39) X 4 dX10_mark_37 rfl rfl ?_
      refine vv_iload_n (q := 40) X 2 dX10_mark_39 rfl rfl rfl ?_
      refine vv_icmp_eq (q := 43) X 57 dX10_mark_40 (by decide) rfl (fun c7 => ?_) (fun c7 => ?_)
      · have h := h.1 c7
        refine vv_iconst (q := 58) X (0 : Int32) dX10_mark_57 (by decide) rfl ?_
        refine vv_iadd (q := 59) X dX10_mark_58 rfl ?_
        refine vv_topi (fun z8 hz8 => ?_)
        have h := h z8 hz8
        refine vv_istore_n (lv2 := [(3, .int z8), (0, .ref (ad 0)), (1, .int f1), (2, .int f2), (4, .int x4)]) (q := 60) X dX10_mark_59 rfl (Nat.le_of_ble_eq_true rfl) rfl rfl ?_
        obtain ⟨z9, hz9⟩ : ∃ y : Int32, y = x4 + (1 : Int32) := ⟨_, rfl⟩
        have h := h z9 hz9
        refine vv_iinc (v := z9) (lv2 := [(4, .int z9), (3, .int z8), (0, .ref (ad 0)), (1, .int f1), (2, .int f2)]) (q := 63) X 4 dX10_mark_60 rfl (by rw [hz9]; rfl) (Nat.le_of_ble_eq_true rfl) rfl rfl ?_
        refine vv_goto X 25 dX10_mark_63 (by decide) ?_
        refine vv_sub (lv' := [(0, .ref (ad 0)), (1, .int f1), (2, .int f2), (3, .int z8), (4, .int z9)]) [2, 3, 4, 1, 0] rfl ?_
        exact ih z8 z9 h
      · have h := h.2 c7
        refine vv_aload_n (q := 44) X 0 dX10_mark_43 rfl rfl rfl ?_
        refine vv_iload_n (q := 45) X 2 dX10_mark_44 rfl rfl rfl ?_
        refine vv_iload (q := 47) X 4 dX10_mark_45 rfl rfl ?_
        refine vv_cVi (q := 50) (C := RX10) X 0 10 [.int f2, .int x4] (kX10_fits l D X.2.2.1 h) (cwV 2 X.1.2.2.2.2 gX10_mark_X10_fits rfl rfl rfl (by decide +kernel) ⟨Nat.le_of_ble_eq_true rfl, Nat.le_of_ble_eq_true rfl⟩) (Nat.le_of_ble_eq_true rfl) rfl rfl rfl rfl (Nat.le_of_ble_eq_true rfl) dX10_mark_47 rfl (fun r10 u9 h9 => ?_)
        obtain ⟨h9, hu9⟩ := h9
        subst u9
        have h := h9
        refine vv_if_eq (q := 53) X 57 dX10_mark_50 (by decide) rfl (fun c11 => ?_) (fun c11 => ?_)
        · have h := h.1 c11
          refine vv_iconst (q := 58) X (0 : Int32) dX10_mark_57 (by decide) rfl ?_
          refine vv_iadd (q := 59) X dX10_mark_58 rfl ?_
          refine vv_topi (fun z12 hz12 => ?_)
          have h := h z12 hz12
          refine vv_istore_n (lv2 := [(3, .int z12), (0, .ref (ad 0)), (1, .int f1), (2, .int f2), (4, .int x4)]) (q := 60) X dX10_mark_59 rfl (Nat.le_of_ble_eq_true rfl) rfl rfl ?_
          obtain ⟨z13, hz13⟩ : ∃ y : Int32, y = x4 + (1 : Int32) := ⟨_, rfl⟩
          have h := h z13 hz13
          refine vv_iinc (v := z13) (lv2 := [(4, .int z13), (3, .int z12), (0, .ref (ad 0)), (1, .int f1), (2, .int f2)]) (q := 63) X 4 dX10_mark_60 rfl (by rw [hz13]; rfl) (Nat.le_of_ble_eq_true rfl) rfl rfl ?_
          refine vv_goto X 25 dX10_mark_63 (by decide) ?_
          refine vv_sub (lv' := [(0, .ref (ad 0)), (1, .int f1), (2, .int f2), (3, .int z12), (4, .int z13)]) [2, 3, 4, 1, 0] rfl ?_
          exact ih z12 z13 h
        · have h := h.2 c11
          refine vv_iconst (q := 54) X (1 : Int32) dX10_mark_53 (by decide) rfl ?_
          refine vv_goto X 58 dX10_mark_54 (by decide) ?_
          refine vv_iadd (q := 59) X dX10_mark_58 rfl ?_
          refine vv_topi (fun z14 hz14 => ?_)
          have h := h z14 hz14
          refine vv_istore_n (lv2 := [(3, .int z14), (0, .ref (ad 0)), (1, .int f1), (2, .int f2), (4, .int x4)]) (q := 60) X dX10_mark_59 rfl (Nat.le_of_ble_eq_true rfl) rfl rfl ?_
          obtain ⟨z15, hz15⟩ : ∃ y : Int32, y = x4 + (1 : Int32) := ⟨_, rfl⟩
          have h := h z15 hz15
          refine vv_iinc (v := z15) (lv2 := [(4, .int z15), (3, .int z14), (0, .ref (ad 0)), (1, .int f1), (2, .int f2)]) (q := 63) X 4 dX10_mark_60 rfl (by rw [hz15]; rfl) (Nat.le_of_ble_eq_true rfl) rfl rfl ?_
          refine vv_goto X 25 dX10_mark_63 (by decide) ?_
          refine vv_sub (lv' := [(0, .ref (ad 0)), (1, .int f1), (2, .int f2), (3, .int z14), (4, .int z15)]) [2, 3, 4, 1, 0] rfl ?_
          exact ih z14 z15 h

def wX10_mark (σ : St) (a1 : Int32) (a2 : Int32) (P : Int32 → St → Prop) : Prop :=
wX10_in σ a1 (0 : Int32) (5 : Int32) (fun r1 : Int32 =>
(r1 = 0 →
P (-1000000 : Int32) σ) ∧
(¬ r1 = 0 →
wX10_isOne σ a2 (fun r3 : Int32 =>
(¬ r3 = 0 →
∃ n38 : Nat, wLX10_mark_25 a1 a2 σ (fun (y16 : Int32) =>
(a1 = (0 : Int32) →
∀ σ18 : St, σ18 = (σ.1, ((σ.2.1) + (1 : Int64), σ.2.2.1, σ.2.2.2)) →
vp_in a2 16 ∧
P (σ18.1 5 a2.toNatClampNeg) σ18) ∧
(¬ a1 = (0 : Int32) →
(a1 = (1 : Int32) →
∀ σ21 : St, σ21 = (σ.1, ((σ.2.1) + (11 : Int64), σ.2.2.1, σ.2.2.2)) →
vp_in a2 16 ∧
vp_in a2 16 ∧
P ((σ21.1 5 a2.toNatClampNeg) - (σ21.1 4 a2.toNatClampNeg)) σ21) ∧
(¬ a1 = (1 : Int32) →
(a1 = (2 : Int32) →
∀ σ25 : St, σ25 = (σ.1, ((σ.2.1) + (101 : Int64), σ.2.2.1, σ.2.2.2)) →
vp_in a2 16 ∧
P ((2 : Int32) * (σ25.1 5 a2.toNatClampNeg)) σ25) ∧
(¬ a1 = (2 : Int32) →
(a1 = (3 : Int32) →
∀ σ28 : St, σ28 = (σ.1, ((σ.2.1) + (1011 : Int64), σ.2.2.1, σ.2.2.2)) →
vp_in a2 16 ∧
vp_in a2 16 ∧
vp_in a2 16 ∧
P (((σ28.1 5 a2.toNatClampNeg) - (σ28.1 4 a2.toNatClampNeg)) + (σ28.1 6 a2.toNatClampNeg)) σ28) ∧
(¬ a1 = (3 : Int32) →
(a1 = (4 : Int32) →
∀ σ33 : St, σ33 = (σ.1, ((σ.2.1) + (10101 : Int64), σ.2.2.1, σ.2.2.2)) →
vp_in a2 16 ∧
P (((2 : Int32) * (σ33.1 5 a2.toNatClampNeg)) + y16) σ33) ∧
(¬ a1 = (4 : Int32) →
∀ σ35 : St, σ35 = (σ.1, ((σ.2.1) + (100001 : Int64), σ.2.2.1, σ.2.2.2)) →
vp_in a2 16 ∧
vp_in (0 : Int32) 48 ∧
P ((σ35.1 5 a2.toNatClampNeg) + (σ35.1 12 (0 : Int32).toNatClampNeg)) σ35)))))) P n38 (0 : Int32) (0 : Int32)) ∧
(r3 = 0 →
P (-1000000 : Int32) σ))))

set_option maxHeartbeats 8000000 in
set_option maxRecDepth 100000 in
theorem kX10_mark (l : Launch) (D : va_G) {cy : Nat → ClassId} {ad : Nat → Nat} (hw : xOk (wM ad cy)) {σ : St} {a1 : Int32} {a2 : Int32} {P : Int32 → St → Prop} (h : wX10_mark σ a1 a2 P) : MI l yX10_mark wsX10_mark rmX10_mark D cy (wM ad cy) [.ref (ad 0), .int a1, .int a2] σ P := by
  unfold MI
  refine vv_met (cc := cX10_mark) (maxL := 5) (ret := (some .int)) hw (by decide +kernel) rfl [.ref (ad 0), .int a1, .int a2] (Nat.le_of_ble_eq_true rfl) ?_
  intro p e s m args below meth c X hr
  have X : XX p s m args meth c cX10_mark 5 D cy (wM ad cy) wsX10_mark RX10 := X
  refine vv_sub (lv' := [(0, .ref (ad 0)), (1, .int a1), (2, .int a2)]) [0, 1, 2] rfl ?_
  rw [wX10_mark] at h
  refine vv_iload_n (q := 1) X 1 dX10_mark_0 rfl rfl rfl ?_
  refine vv_iconst (q := 2) X (0 : Int32) dX10_mark_1 (by decide) rfl ?_
  refine vv_iconst (q := 3) X (5 : Int32) dX10_mark_2 (by decide) rfl ?_
  refine vv_cSi (q := 6) X [.int a1, .int (0 : Int32), .int (5 : Int32)] (kX10_in l D X.2.2.1 h) (va_cwS 3 X.1.2.2.2.2 gX10_mark_X10_in rfl rfl rfl (by decide +kernel) ⟨Nat.le_of_ble_eq_true rfl, Nat.le_of_ble_eq_true rfl⟩) rfl rfl (Nat.le_of_ble_eq_true rfl) dX10_mark_3 rfl (fun r1 u9 h9 => ?_)
  obtain ⟨h9, hu9⟩ := h9
  subst u9
  have h := h9
  refine vv_if_eq (q := 9) X 17 dX10_mark_6 (by decide) rfl (fun c2 => ?_) (fun c2 => ?_)
  · have h := h.1 c2
    refine vv_ldc (q := 19) X (-1000000 : Int32) dX10_mark_17 (List.mem_of_getElem? (i := 1) rfl) rfl ?_
    exact vv_iret X hr dX10_mark_19 h
  · have h := h.2 c2
    refine vv_aload_n (q := 10) X 0 dX10_mark_9 rfl rfl rfl ?_
    refine vv_iload_n (q := 11) X 2 dX10_mark_10 rfl rfl rfl ?_
    refine vv_cVi (q := 14) (C := RX10) X 0 10 [.int a2] (kX10_isOne l D X.2.2.1 h) (cwV 1 X.1.2.2.2.2 gX10_mark_X10_isOne rfl rfl rfl (by decide +kernel) ⟨Nat.le_of_ble_eq_true rfl, Nat.le_of_ble_eq_true rfl⟩) (Nat.le_of_ble_eq_true rfl) rfl rfl rfl rfl (Nat.le_of_ble_eq_true rfl) dX10_mark_11 rfl (fun r3 u9 h9 => ?_)
    obtain ⟨h9, hu9⟩ := h9
    subst u9
    have h := h9
    refine vv_if_ne (q := 17) X 20 dX10_mark_14 (by decide) rfl (fun c4 => ?_) (fun c4 => ?_)
    · have h := h.1 c4
      refine vv_iconst (q := 21) X (0 : Int32) dX10_mark_20 (by decide) rfl ?_
      refine vv_istore_n (lv2 := [(3, .int (0 : Int32)), (0, .ref (ad 0)), (1, .int a1), (2, .int a2)]) (q := 22) X dX10_mark_21 rfl (Nat.le_of_ble_eq_true rfl) rfl rfl ?_
      refine vv_iconst (q := 23) X (0 : Int32) dX10_mark_22 (by decide) rfl ?_
      refine vv_istore (lv2 := [(4, .int (0 : Int32)), (3, .int (0 : Int32)), (0, .ref (ad 0)), (1, .int a1), (2, .int a2)]) (q := 25) X dX10_mark_23 (Nat.le_of_ble_eq_true rfl) rfl rfl ?_
      obtain ⟨n38, h⟩ := h
      refine vv_sub (lv' := [(0, .ref (ad 0)), (1, .int a1), (2, .int a2), (3, .int (0 : Int32)), (4, .int (0 : Int32))]) [2, 3, 4, 1, 0] rfl ?_
      refine twLX10_mark_25 X hr a1 a2  σ _ ?_ n38 (0 : Int32) (0 : Int32) h
      intro y16 h
      refine vv_iload_n (q := 67) X 1 dX10_mark_66 rfl rfl rfl ?_
      by_cases c17 : a1 = (0 : Int32)
      · have h := h.1 c17
        refine vv_tabIn (off := 33) X 100 dX10_mark_67 (by rw [c17]; decide) (by rw [c17]; decide) (by rw [c17]; rfl) (by decide) ?_
        refine vv_aload_n (q := 101) X 0 dX10_mark_100 rfl rfl rfl ?_
        refine vv_dup (q := 102) X dX10_mark_101 rfl rfl ?_
        refine vv_getf (q := 105) (ref := "HalfLaddersModel") (C := RX10) (T := TX10) (N := 27) X 0 10 0 (Nat.le_of_ble_eq_true rfl) rfl rfl (Nat.le_of_ble_eq_true rfl) (fun _ h => List.mem_cons_of_mem _ (List.mem_append_right _ h)) (List.mem_of_getElem? (i := 3) rfl) rfl rfl dX10_mark_102 rfl ?_
        refine vv_lconst (q := 106) X (1 : Int64) dX10_mark_105 (by decide) rfl ?_
        refine vv_ladd (q := 107) X dX10_mark_106 rfl ?_
        refine vv_putT (q := 110) (ref := "HalfLaddersModel") (C := RX10) (T := TX10) (N := 27) X 10 0 ((σ.2.1) + (1 : Int64), σ.2.2.1, σ.2.2.2) tyX10 tyX10_ok nmX10 (Nat.le_of_ble_eq_true rfl) rfl eM_T rfl rfl (Nat.le_of_ble_eq_true rfl) rfl (fun _ h => List.mem_cons_of_mem _ (List.mem_append_right _ h)) (List.mem_of_getElem? (i := 3) rfl) rfl rfl (ty := .long) rfl rfl rfl dX10_mark_107 rfl ?_
        refine vv_nm (fun σ18 hσ18 => ?_)
        have h := h σ18 hσ18
        refine vv_aload_n (q := 111) X 0 dX10_mark_110 rfl rfl rfl ?_
        refine vv_getf (q := 114) (ref := "HalfLaddersModel") (C := RX10) (T := TX10) (N := 27) X 0 10 6 (Nat.le_of_ble_eq_true rfl) rfl rfl (Nat.le_of_ble_eq_true rfl) (fun _ h => List.mem_cons_of_mem _ (List.mem_append_right _ h)) (List.mem_of_getElem? (i := 4) rfl) rfl rfl dX10_mark_111 rfl ?_
        refine vv_iload_n (q := 115) X 2 dX10_mark_114 rfl rfl rfl ?_
        obtain ⟨hin19, h⟩ := h
        refine vv_iald (q := 116) X 5 16 (Nat.le_of_ble_eq_true rfl) (fun _ => rfl) hin19 dX10_mark_115 rfl ?_
        exact vv_iret X hr dX10_mark_116 h
      · have h := h.2 c17
        by_cases c20 : a1 = (1 : Int32)
        · have h := h.1 c20
          refine vv_tabIn (off := 50) X 117 dX10_mark_67 (by rw [c20]; decide) (by rw [c20]; decide) (by rw [c20]; rfl) (by decide) ?_
          refine vv_aload_n (q := 118) X 0 dX10_mark_117 rfl rfl rfl ?_
          refine vv_dup (q := 119) X dX10_mark_118 rfl rfl ?_
          refine vv_getf (q := 122) (ref := "HalfLaddersModel") (C := RX10) (T := TX10) (N := 27) X 0 10 0 (Nat.le_of_ble_eq_true rfl) rfl rfl (Nat.le_of_ble_eq_true rfl) (fun _ h => List.mem_cons_of_mem _ (List.mem_append_right _ h)) (List.mem_of_getElem? (i := 3) rfl) rfl rfl dX10_mark_119 rfl ?_
          refine vv_ldc2 (q := 125) X (11 : Int64) dX10_mark_122 (List.mem_of_getElem? (i := 5) rfl) rfl ?_
          refine vv_ladd (q := 126) X dX10_mark_125 rfl ?_
          refine vv_putT (q := 129) (ref := "HalfLaddersModel") (C := RX10) (T := TX10) (N := 27) X 10 0 ((σ.2.1) + (11 : Int64), σ.2.2.1, σ.2.2.2) tyX10 tyX10_ok nmX10 (Nat.le_of_ble_eq_true rfl) rfl eM_T rfl rfl (Nat.le_of_ble_eq_true rfl) rfl (fun _ h => List.mem_cons_of_mem _ (List.mem_append_right _ h)) (List.mem_of_getElem? (i := 3) rfl) rfl rfl (ty := .long) rfl rfl rfl dX10_mark_126 rfl ?_
          refine vv_nm (fun σ21 hσ21 => ?_)
          have h := h σ21 hσ21
          refine vv_aload_n (q := 130) X 0 dX10_mark_129 rfl rfl rfl ?_
          refine vv_getf (q := 133) (ref := "HalfLaddersModel") (C := RX10) (T := TX10) (N := 27) X 0 10 6 (Nat.le_of_ble_eq_true rfl) rfl rfl (Nat.le_of_ble_eq_true rfl) (fun _ h => List.mem_cons_of_mem _ (List.mem_append_right _ h)) (List.mem_of_getElem? (i := 4) rfl) rfl rfl dX10_mark_130 rfl ?_
          refine vv_iload_n (q := 134) X 2 dX10_mark_133 rfl rfl rfl ?_
          obtain ⟨hin22, h⟩ := h
          refine vv_iald (q := 135) X 5 16 (Nat.le_of_ble_eq_true rfl) (fun _ => rfl) hin22 dX10_mark_134 rfl ?_
          refine vv_aload_n (q := 136) X 0 dX10_mark_135 rfl rfl rfl ?_
          refine vv_getf (q := 139) (ref := "HalfLaddersModel") (C := RX10) (T := TX10) (N := 27) X 0 10 5 (Nat.le_of_ble_eq_true rfl) rfl rfl (Nat.le_of_ble_eq_true rfl) (fun _ h => List.mem_cons_of_mem _ (List.mem_append_right _ h)) (List.mem_of_getElem? (i := 6) rfl) rfl rfl dX10_mark_136 rfl ?_
          refine vv_iload_n (q := 140) X 2 dX10_mark_139 rfl rfl rfl ?_
          obtain ⟨hin23, h⟩ := h
          refine vv_iald (q := 141) X 4 16 (Nat.le_of_ble_eq_true rfl) (fun _ => rfl) hin23 dX10_mark_140 rfl ?_
          refine vv_isub (q := 142) X dX10_mark_141 rfl ?_
          exact vv_iret X hr dX10_mark_142 h
        · have h := h.2 c20
          by_cases c24 : a1 = (2 : Int32)
          · have h := h.1 c24
            refine vv_tabIn (off := 76) X 143 dX10_mark_67 (by rw [c24]; decide) (by rw [c24]; decide) (by rw [c24]; rfl) (by decide) ?_
            refine vv_aload_n (q := 144) X 0 dX10_mark_143 rfl rfl rfl ?_
            refine vv_dup (q := 145) X dX10_mark_144 rfl rfl ?_
            refine vv_getf (q := 148) (ref := "HalfLaddersModel") (C := RX10) (T := TX10) (N := 27) X 0 10 0 (Nat.le_of_ble_eq_true rfl) rfl rfl (Nat.le_of_ble_eq_true rfl) (fun _ h => List.mem_cons_of_mem _ (List.mem_append_right _ h)) (List.mem_of_getElem? (i := 3) rfl) rfl rfl dX10_mark_145 rfl ?_
            refine vv_ldc2 (q := 151) X (101 : Int64) dX10_mark_148 (List.mem_of_getElem? (i := 7) rfl) rfl ?_
            refine vv_ladd (q := 152) X dX10_mark_151 rfl ?_
            refine vv_putT (q := 155) (ref := "HalfLaddersModel") (C := RX10) (T := TX10) (N := 27) X 10 0 ((σ.2.1) + (101 : Int64), σ.2.2.1, σ.2.2.2) tyX10 tyX10_ok nmX10 (Nat.le_of_ble_eq_true rfl) rfl eM_T rfl rfl (Nat.le_of_ble_eq_true rfl) rfl (fun _ h => List.mem_cons_of_mem _ (List.mem_append_right _ h)) (List.mem_of_getElem? (i := 3) rfl) rfl rfl (ty := .long) rfl rfl rfl dX10_mark_152 rfl ?_
            refine vv_nm (fun σ25 hσ25 => ?_)
            have h := h σ25 hσ25
            refine vv_iconst (q := 156) X (2 : Int32) dX10_mark_155 (by decide) rfl ?_
            refine vv_aload_n (q := 157) X 0 dX10_mark_156 rfl rfl rfl ?_
            refine vv_getf (q := 160) (ref := "HalfLaddersModel") (C := RX10) (T := TX10) (N := 27) X 0 10 6 (Nat.le_of_ble_eq_true rfl) rfl rfl (Nat.le_of_ble_eq_true rfl) (fun _ h => List.mem_cons_of_mem _ (List.mem_append_right _ h)) (List.mem_of_getElem? (i := 4) rfl) rfl rfl dX10_mark_157 rfl ?_
            refine vv_iload_n (q := 161) X 2 dX10_mark_160 rfl rfl rfl ?_
            obtain ⟨hin26, h⟩ := h
            refine vv_iald (q := 162) X 5 16 (Nat.le_of_ble_eq_true rfl) (fun _ => rfl) hin26 dX10_mark_161 rfl ?_
            refine vv_imul (q := 163) X dX10_mark_162 rfl ?_
            exact vv_iret X hr dX10_mark_163 h
          · have h := h.2 c24
            by_cases c27 : a1 = (3 : Int32)
            · have h := h.1 c27
              refine vv_tabIn (off := 97) X 164 dX10_mark_67 (by rw [c27]; decide) (by rw [c27]; decide) (by rw [c27]; rfl) (by decide) ?_
              refine vv_aload_n (q := 165) X 0 dX10_mark_164 rfl rfl rfl ?_
              refine vv_dup (q := 166) X dX10_mark_165 rfl rfl ?_
              refine vv_getf (q := 169) (ref := "HalfLaddersModel") (C := RX10) (T := TX10) (N := 27) X 0 10 0 (Nat.le_of_ble_eq_true rfl) rfl rfl (Nat.le_of_ble_eq_true rfl) (fun _ h => List.mem_cons_of_mem _ (List.mem_append_right _ h)) (List.mem_of_getElem? (i := 3) rfl) rfl rfl dX10_mark_166 rfl ?_
              refine vv_ldc2 (q := 172) X (1011 : Int64) dX10_mark_169 (List.mem_of_getElem? (i := 8) rfl) rfl ?_
              refine vv_ladd (q := 173) X dX10_mark_172 rfl ?_
              refine vv_putT (q := 176) (ref := "HalfLaddersModel") (C := RX10) (T := TX10) (N := 27) X 10 0 ((σ.2.1) + (1011 : Int64), σ.2.2.1, σ.2.2.2) tyX10 tyX10_ok nmX10 (Nat.le_of_ble_eq_true rfl) rfl eM_T rfl rfl (Nat.le_of_ble_eq_true rfl) rfl (fun _ h => List.mem_cons_of_mem _ (List.mem_append_right _ h)) (List.mem_of_getElem? (i := 3) rfl) rfl rfl (ty := .long) rfl rfl rfl dX10_mark_173 rfl ?_
              refine vv_nm (fun σ28 hσ28 => ?_)
              have h := h σ28 hσ28
              refine vv_aload_n (q := 177) X 0 dX10_mark_176 rfl rfl rfl ?_
              refine vv_getf (q := 180) (ref := "HalfLaddersModel") (C := RX10) (T := TX10) (N := 27) X 0 10 6 (Nat.le_of_ble_eq_true rfl) rfl rfl (Nat.le_of_ble_eq_true rfl) (fun _ h => List.mem_cons_of_mem _ (List.mem_append_right _ h)) (List.mem_of_getElem? (i := 4) rfl) rfl rfl dX10_mark_177 rfl ?_
              refine vv_iload_n (q := 181) X 2 dX10_mark_180 rfl rfl rfl ?_
              obtain ⟨hin29, h⟩ := h
              refine vv_iald (q := 182) X 5 16 (Nat.le_of_ble_eq_true rfl) (fun _ => rfl) hin29 dX10_mark_181 rfl ?_
              refine vv_aload_n (q := 183) X 0 dX10_mark_182 rfl rfl rfl ?_
              refine vv_getf (q := 186) (ref := "HalfLaddersModel") (C := RX10) (T := TX10) (N := 27) X 0 10 5 (Nat.le_of_ble_eq_true rfl) rfl rfl (Nat.le_of_ble_eq_true rfl) (fun _ h => List.mem_cons_of_mem _ (List.mem_append_right _ h)) (List.mem_of_getElem? (i := 6) rfl) rfl rfl dX10_mark_183 rfl ?_
              refine vv_iload_n (q := 187) X 2 dX10_mark_186 rfl rfl rfl ?_
              obtain ⟨hin30, h⟩ := h
              refine vv_iald (q := 188) X 4 16 (Nat.le_of_ble_eq_true rfl) (fun _ => rfl) hin30 dX10_mark_187 rfl ?_
              refine vv_isub (q := 189) X dX10_mark_188 rfl ?_
              refine vv_aload_n (q := 190) X 0 dX10_mark_189 rfl rfl rfl ?_
              refine vv_getf (q := 193) (ref := "HalfLaddersModel") (C := RX10) (T := TX10) (N := 27) X 0 10 7 (Nat.le_of_ble_eq_true rfl) rfl rfl (Nat.le_of_ble_eq_true rfl) (fun _ h => List.mem_cons_of_mem _ (List.mem_append_right _ h)) (List.mem_of_getElem? (i := 9) rfl) rfl rfl dX10_mark_190 rfl ?_
              refine vv_iload_n (q := 194) X 2 dX10_mark_193 rfl rfl rfl ?_
              obtain ⟨hin31, h⟩ := h
              refine vv_iald (q := 195) X 6 16 (Nat.le_of_ble_eq_true rfl) (fun _ => rfl) hin31 dX10_mark_194 rfl ?_
              refine vv_iadd (q := 196) X dX10_mark_195 rfl ?_
              exact vv_iret X hr dX10_mark_196 h
            · have h := h.2 c27
              by_cases c32 : a1 = (4 : Int32)
              · have h := h.1 c32
                refine vv_tabIn (off := 130) X 197 dX10_mark_67 (by rw [c32]; decide) (by rw [c32]; decide) (by rw [c32]; rfl) (by decide) ?_
                refine vv_aload_n (q := 198) X 0 dX10_mark_197 rfl rfl rfl ?_
                refine vv_dup (q := 199) X dX10_mark_198 rfl rfl ?_
                refine vv_getf (q := 202) (ref := "HalfLaddersModel") (C := RX10) (T := TX10) (N := 27) X 0 10 0 (Nat.le_of_ble_eq_true rfl) rfl rfl (Nat.le_of_ble_eq_true rfl) (fun _ h => List.mem_cons_of_mem _ (List.mem_append_right _ h)) (List.mem_of_getElem? (i := 3) rfl) rfl rfl dX10_mark_199 rfl ?_
                refine vv_ldc2 (q := 205) X (10101 : Int64) dX10_mark_202 (List.mem_of_getElem? (i := 10) rfl) rfl ?_
                refine vv_ladd (q := 206) X dX10_mark_205 rfl ?_
                refine vv_putT (q := 209) (ref := "HalfLaddersModel") (C := RX10) (T := TX10) (N := 27) X 10 0 ((σ.2.1) + (10101 : Int64), σ.2.2.1, σ.2.2.2) tyX10 tyX10_ok nmX10 (Nat.le_of_ble_eq_true rfl) rfl eM_T rfl rfl (Nat.le_of_ble_eq_true rfl) rfl (fun _ h => List.mem_cons_of_mem _ (List.mem_append_right _ h)) (List.mem_of_getElem? (i := 3) rfl) rfl rfl (ty := .long) rfl rfl rfl dX10_mark_206 rfl ?_
                refine vv_nm (fun σ33 hσ33 => ?_)
                have h := h σ33 hσ33
                refine vv_iconst (q := 210) X (2 : Int32) dX10_mark_209 (by decide) rfl ?_
                refine vv_aload_n (q := 211) X 0 dX10_mark_210 rfl rfl rfl ?_
                refine vv_getf (q := 214) (ref := "HalfLaddersModel") (C := RX10) (T := TX10) (N := 27) X 0 10 6 (Nat.le_of_ble_eq_true rfl) rfl rfl (Nat.le_of_ble_eq_true rfl) (fun _ h => List.mem_cons_of_mem _ (List.mem_append_right _ h)) (List.mem_of_getElem? (i := 4) rfl) rfl rfl dX10_mark_211 rfl ?_
                refine vv_iload_n (q := 215) X 2 dX10_mark_214 rfl rfl rfl ?_
                obtain ⟨hin34, h⟩ := h
                refine vv_iald (q := 216) X 5 16 (Nat.le_of_ble_eq_true rfl) (fun _ => rfl) hin34 dX10_mark_215 rfl ?_
                refine vv_imul (q := 217) X dX10_mark_216 rfl ?_
                refine vv_iload_n (q := 218) X 3 dX10_mark_217 rfl rfl rfl ?_
                refine vv_iadd (q := 219) X dX10_mark_218 rfl ?_
                exact vv_iret X hr dX10_mark_219 h
              · have h := h.2 c32
                refine vv_tabOut X 220 dX10_mark_67 (by have n0 : ¬ a1.toInt = 0 := i32_ne c17; have n1 : ¬ a1.toInt = 1 := i32_ne c20; have n2 : ¬ a1.toInt = 2 := i32_ne c24; have n3 : ¬ a1.toInt = 3 := i32_ne c27; have n4 : ¬ a1.toInt = 4 := i32_ne c32; omega) (by decide) ?_
                refine vv_aload_n (q := 221) X 0 dX10_mark_220 rfl rfl rfl ?_
                refine vv_dup (q := 222) X dX10_mark_221 rfl rfl ?_
                refine vv_getf (q := 225) (ref := "HalfLaddersModel") (C := RX10) (T := TX10) (N := 27) X 0 10 0 (Nat.le_of_ble_eq_true rfl) rfl rfl (Nat.le_of_ble_eq_true rfl) (fun _ h => List.mem_cons_of_mem _ (List.mem_append_right _ h)) (List.mem_of_getElem? (i := 3) rfl) rfl rfl dX10_mark_222 rfl ?_
                refine vv_ldc2 (q := 228) X (100001 : Int64) dX10_mark_225 (List.mem_of_getElem? (i := 11) rfl) rfl ?_
                refine vv_ladd (q := 229) X dX10_mark_228 rfl ?_
                refine vv_putT (q := 232) (ref := "HalfLaddersModel") (C := RX10) (T := TX10) (N := 27) X 10 0 ((σ.2.1) + (100001 : Int64), σ.2.2.1, σ.2.2.2) tyX10 tyX10_ok nmX10 (Nat.le_of_ble_eq_true rfl) rfl eM_T rfl rfl (Nat.le_of_ble_eq_true rfl) rfl (fun _ h => List.mem_cons_of_mem _ (List.mem_append_right _ h)) (List.mem_of_getElem? (i := 3) rfl) rfl rfl (ty := .long) rfl rfl rfl dX10_mark_229 rfl ?_
                refine vv_nm (fun σ35 hσ35 => ?_)
                have h := h σ35 hσ35
                refine vv_aload_n (q := 233) X 0 dX10_mark_232 rfl rfl rfl ?_
                refine vv_getf (q := 236) (ref := "HalfLaddersModel") (C := RX10) (T := TX10) (N := 27) X 0 10 6 (Nat.le_of_ble_eq_true rfl) rfl rfl (Nat.le_of_ble_eq_true rfl) (fun _ h => List.mem_cons_of_mem _ (List.mem_append_right _ h)) (List.mem_of_getElem? (i := 4) rfl) rfl rfl dX10_mark_233 rfl ?_
                refine vv_iload_n (q := 237) X 2 dX10_mark_236 rfl rfl rfl ?_
                obtain ⟨hin36, h⟩ := h
                refine vv_iald (q := 238) X 5 16 (Nat.le_of_ble_eq_true rfl) (fun _ => rfl) hin36 dX10_mark_237 rfl ?_
                refine vv_aload_n (q := 239) X 0 dX10_mark_238 rfl rfl rfl ?_
                refine vv_getf (q := 242) (ref := "HalfLaddersModel") (C := RX10) (T := TX10) (N := 27) X 0 10 18 (Nat.le_of_ble_eq_true rfl) rfl rfl (Nat.le_of_ble_eq_true rfl) (fun _ h => List.mem_cons_of_mem _ (List.mem_append_right _ h)) (List.mem_of_getElem? (i := 12) rfl) rfl rfl dX10_mark_239 rfl ?_
                refine vv_iconst (q := 243) X (0 : Int32) dX10_mark_242 (by decide) rfl ?_
                obtain ⟨hin37, h⟩ := h
                refine vv_iald (q := 244) X 12 48 (Nat.le_of_ble_eq_true rfl) (fun _ => rfl) hin37 dX10_mark_243 rfl ?_
                refine vv_iadd (q := 245) X dX10_mark_244 rfl ?_
                exact vv_iret X hr dX10_mark_245 h
    · have h := h.2 c4
      refine vv_ldc (q := 19) X (-1000000 : Int32) dX10_mark_17 (List.mem_of_getElem? (i := 1) rfl) rfl ?_
      exact vv_iret X hr dX10_mark_19 h

/-! X10_keep: keep(I)I -/
def rmX10_keep : Room := { frames := 1, cells := 0, slots := 0, locals := 23 }
def wX10_keep (σ : St) (a1 : Int32) (P : Int32 → St → Prop) : Prop :=
wX10_in σ a1 (0 : Int32) (1 : Int32) (fun r1 : Int32 =>
(¬ r1 = 0 →
wX10_copy σ (0 : Int32) ((12 : Int32) * ((2 : Int32) + a1)) (fun σ3 : St =>
vp_in a1 2 ∧
∀ σ5 : St, σ5 = sI σ3 13 a1.toNatClampNeg (vp_nar .boolean (1 : Int32)) →
vp_in (0 : Int32) 48 ∧
P (σ5.1 12 (0 : Int32).toNatClampNeg) σ5)) ∧
(r1 = 0 →
P (-1 : Int32) σ))

set_option maxHeartbeats 8000000 in
set_option maxRecDepth 100000 in
theorem kX10_keep (l : Launch) (D : va_G) {cy : Nat → ClassId} {ad : Nat → Nat} (hw : xOk (wM ad cy)) {σ : St} {a1 : Int32} {P : Int32 → St → Prop} (h : wX10_keep σ a1 P) : MI l yX10_keep wsX10_keep rmX10_keep D cy (wM ad cy) [.ref (ad 0), .int a1] σ P := by
  unfold MI
  refine vv_met (cc := cX10_keep) (maxL := 2) (ret := (some .int)) hw (by decide +kernel) rfl [.ref (ad 0), .int a1] (Nat.le_of_ble_eq_true rfl) ?_
  intro p e s m args below meth c X hr
  have X : XX p s m args meth c cX10_keep 2 D cy (wM ad cy) wsX10_keep RX10 := X
  refine vv_sub (lv' := [(0, .ref (ad 0)), (1, .int a1)]) [0, 1] rfl ?_
  rw [wX10_keep] at h
  refine vv_iload_n (q := 1) X 1 dX10_keep_0 rfl rfl rfl ?_
  refine vv_iconst (q := 2) X (0 : Int32) dX10_keep_1 (by decide) rfl ?_
  refine vv_iconst (q := 3) X (1 : Int32) dX10_keep_2 (by decide) rfl ?_
  refine vv_cSi (q := 6) X [.int a1, .int (0 : Int32), .int (1 : Int32)] (kX10_in l D X.2.2.1 h) (va_cwS 3 X.1.2.2.2.2 gX10_keep_X10_in rfl rfl rfl (by decide +kernel) ⟨Nat.le_of_ble_eq_true rfl, Nat.le_of_ble_eq_true rfl⟩) rfl rfl (Nat.le_of_ble_eq_true rfl) dX10_keep_3 rfl (fun r1 u9 h9 => ?_)
  obtain ⟨h9, hu9⟩ := h9
  subst u9
  have h := h9
  refine vv_if_ne (q := 9) X 11 dX10_keep_6 (by decide) rfl (fun c2 => ?_) (fun c2 => ?_)
  · have h := h.1 c2
    refine vv_aload_n (q := 12) X 0 dX10_keep_11 rfl rfl rfl ?_
    refine vv_iconst (q := 13) X (0 : Int32) dX10_keep_12 (by decide) rfl ?_
    refine vv_bipush (q := 15) X (12 : Int32) dX10_keep_13 (by decide) rfl ?_
    refine vv_iconst (q := 16) X (2 : Int32) dX10_keep_15 (by decide) rfl ?_
    refine vv_iload_n (q := 17) X 1 dX10_keep_16 rfl rfl rfl ?_
    refine vv_iadd (q := 18) X dX10_keep_17 rfl ?_
    refine vv_imul (q := 19) X dX10_keep_18 rfl ?_
    refine vv_cVv (q := 22) (C := RX10) X 0 10 [.int (0 : Int32), .int ((12 : Int32) * ((2 : Int32) + a1))] (kX10_copy l D X.2.2.1 h) (cwV 2 X.1.2.2.2.2 gX10_keep_X10_copy rfl rfl rfl (by decide +kernel) ⟨Nat.le_of_ble_eq_true rfl, Nat.le_of_ble_eq_true rfl⟩) (Nat.le_of_ble_eq_true rfl) rfl rfl rfl rfl (Nat.le_of_ble_eq_true rfl) dX10_keep_19 rfl (fun σ3 h => ?_)
    refine vv_aload_n (q := 23) X 0 dX10_keep_22 rfl rfl rfl ?_
    refine vv_getf (q := 26) (ref := "HalfLaddersModel") (C := RX10) (T := TX10) (N := 27) X 0 10 19 (Nat.le_of_ble_eq_true rfl) rfl rfl (Nat.le_of_ble_eq_true rfl) (fun _ h => List.mem_cons_of_mem _ (List.mem_append_right _ h)) (List.mem_of_getElem? (i := 1) rfl) rfl rfl dX10_keep_23 rfl ?_
    refine vv_iload_n (q := 27) X 1 dX10_keep_26 rfl rfl rfl ?_
    refine vv_iconst (q := 28) X (1 : Int32) dX10_keep_27 (by decide) rfl ?_
    obtain ⟨hin4, h⟩ := h
    refine vv_zast (q := 29) X 13 2 (Nat.le_of_ble_eq_true rfl) (fun _ => rfl) hin4 dX10_keep_28 rfl ?_
    refine vv_nm (fun σ5 hσ5 => ?_)
    have h := h σ5 hσ5
    refine vv_aload_n (q := 30) X 0 dX10_keep_29 rfl rfl rfl ?_
    refine vv_getf (q := 33) (ref := "HalfLaddersModel") (C := RX10) (T := TX10) (N := 27) X 0 10 18 (Nat.le_of_ble_eq_true rfl) rfl rfl (Nat.le_of_ble_eq_true rfl) (fun _ h => List.mem_cons_of_mem _ (List.mem_append_right _ h)) (List.mem_of_getElem? (i := 2) rfl) rfl rfl dX10_keep_30 rfl ?_
    refine vv_iconst (q := 34) X (0 : Int32) dX10_keep_33 (by decide) rfl ?_
    obtain ⟨hin6, h⟩ := h
    refine vv_iald (q := 35) X 12 48 (Nat.le_of_ble_eq_true rfl) (fun _ => rfl) hin6 dX10_keep_34 rfl ?_
    exact vv_iret X hr dX10_keep_35 h
  · have h := h.2 c2
    refine vv_iconst (q := 10) X (-1 : Int32) dX10_keep_9 (by decide) rfl ?_
    exact vv_iret X hr dX10_keep_10 h

/-! X10_back: back(I)I -/
def rmX10_back : Room := { frames := 1, cells := 0, slots := 0, locals := 23 }
def wX10_back (σ : St) (a1 : Int32) (P : Int32 → St → Prop) : Prop :=
wX10_in σ a1 (0 : Int32) (1 : Int32) (fun r1 : Int32 =>
(¬ r1 = 0 →
vp_in a1 2 ∧
(¬ (σ.1 13 a1.toNatClampNeg) = 0 →
wX10_copy σ ((12 : Int32) * ((2 : Int32) + a1)) (0 : Int32) (fun σ5 : St =>
vp_in (0 : Int32) 48 ∧
P (σ5.1 12 (0 : Int32).toNatClampNeg) σ5)) ∧
((σ.1 13 a1.toNatClampNeg) = 0 →
P (-2 : Int32) σ)) ∧
(r1 = 0 →
P (-1 : Int32) σ))

set_option maxHeartbeats 8000000 in
set_option maxRecDepth 100000 in
theorem kX10_back (l : Launch) (D : va_G) {cy : Nat → ClassId} {ad : Nat → Nat} (hw : xOk (wM ad cy)) {σ : St} {a1 : Int32} {P : Int32 → St → Prop} (h : wX10_back σ a1 P) : MI l yX10_back wsX10_back rmX10_back D cy (wM ad cy) [.ref (ad 0), .int a1] σ P := by
  unfold MI
  refine vv_met (cc := cX10_back) (maxL := 2) (ret := (some .int)) hw (by decide +kernel) rfl [.ref (ad 0), .int a1] (Nat.le_of_ble_eq_true rfl) ?_
  intro p e s m args below meth c X hr
  have X : XX p s m args meth c cX10_back 2 D cy (wM ad cy) wsX10_back RX10 := X
  refine vv_sub (lv' := [(0, .ref (ad 0)), (1, .int a1)]) [0, 1] rfl ?_
  rw [wX10_back] at h
  refine vv_iload_n (q := 1) X 1 dX10_back_0 rfl rfl rfl ?_
  refine vv_iconst (q := 2) X (0 : Int32) dX10_back_1 (by decide) rfl ?_
  refine vv_iconst (q := 3) X (1 : Int32) dX10_back_2 (by decide) rfl ?_
  refine vv_cSi (q := 6) X [.int a1, .int (0 : Int32), .int (1 : Int32)] (kX10_in l D X.2.2.1 h) (va_cwS 3 X.1.2.2.2.2 gX10_back_X10_in rfl rfl rfl (by decide +kernel) ⟨Nat.le_of_ble_eq_true rfl, Nat.le_of_ble_eq_true rfl⟩) rfl rfl (Nat.le_of_ble_eq_true rfl) dX10_back_3 rfl (fun r1 u9 h9 => ?_)
  obtain ⟨h9, hu9⟩ := h9
  subst u9
  have h := h9
  refine vv_if_ne (q := 9) X 11 dX10_back_6 (by decide) rfl (fun c2 => ?_) (fun c2 => ?_)
  · have h := h.1 c2
    refine vv_aload_n (q := 12) X 0 dX10_back_11 rfl rfl rfl ?_
    refine vv_getf (q := 15) (ref := "HalfLaddersModel") (C := RX10) (T := TX10) (N := 27) X 0 10 19 (Nat.le_of_ble_eq_true rfl) rfl rfl (Nat.le_of_ble_eq_true rfl) (fun _ h => List.mem_cons_of_mem _ (List.mem_append_right _ h)) (List.mem_of_getElem? (i := 1) rfl) rfl rfl dX10_back_12 rfl ?_
    refine vv_iload_n (q := 16) X 1 dX10_back_15 rfl rfl rfl ?_
    obtain ⟨hin3, h⟩ := h
    refine vv_zald (q := 17) X 13 2 (Nat.le_of_ble_eq_true rfl) (fun _ => rfl) hin3 dX10_back_16 rfl ?_
    refine vv_if_ne (q := 20) X 23 dX10_back_17 (by decide) rfl (fun c4 => ?_) (fun c4 => ?_)
    · have h := h.1 c4
      refine vv_aload_n (q := 24) X 0 dX10_back_23 rfl rfl rfl ?_
      refine vv_bipush (q := 26) X (12 : Int32) dX10_back_24 (by decide) rfl ?_
      refine vv_iconst (q := 27) X (2 : Int32) dX10_back_26 (by decide) rfl ?_
      refine vv_iload_n (q := 28) X 1 dX10_back_27 rfl rfl rfl ?_
      refine vv_iadd (q := 29) X dX10_back_28 rfl ?_
      refine vv_imul (q := 30) X dX10_back_29 rfl ?_
      refine vv_iconst (q := 31) X (0 : Int32) dX10_back_30 (by decide) rfl ?_
      refine vv_cVv (q := 34) (C := RX10) X 0 10 [.int ((12 : Int32) * ((2 : Int32) + a1)), .int (0 : Int32)] (kX10_copy l D X.2.2.1 h) (cwV 2 X.1.2.2.2.2 gX10_back_X10_copy rfl rfl rfl (by decide +kernel) ⟨Nat.le_of_ble_eq_true rfl, Nat.le_of_ble_eq_true rfl⟩) (Nat.le_of_ble_eq_true rfl) rfl rfl rfl rfl (Nat.le_of_ble_eq_true rfl) dX10_back_31 rfl (fun σ5 h => ?_)
      refine vv_aload_n (q := 35) X 0 dX10_back_34 rfl rfl rfl ?_
      refine vv_getf (q := 38) (ref := "HalfLaddersModel") (C := RX10) (T := TX10) (N := 27) X 0 10 18 (Nat.le_of_ble_eq_true rfl) rfl rfl (Nat.le_of_ble_eq_true rfl) (fun _ h => List.mem_cons_of_mem _ (List.mem_append_right _ h)) (List.mem_of_getElem? (i := 2) rfl) rfl rfl dX10_back_35 rfl ?_
      refine vv_iconst (q := 39) X (0 : Int32) dX10_back_38 (by decide) rfl ?_
      obtain ⟨hin6, h⟩ := h
      refine vv_iald (q := 40) X 12 48 (Nat.le_of_ble_eq_true rfl) (fun _ => rfl) hin6 dX10_back_39 rfl ?_
      exact vv_iret X hr dX10_back_40 h
    · have h := h.2 c4
      refine vv_bipush (q := 22) X (-2 : Int32) dX10_back_20 (by decide) rfl ?_
      exact vv_iret X hr dX10_back_22 h
  · have h := h.2 c2
    refine vv_iconst (q := 10) X (-1 : Int32) dX10_back_9 (by decide) rfl ?_
    exact vv_iret X hr dX10_back_10 h

/-! X10_count: count(I)I -/
def rmX10_count : Room := { frames := 0, cells := 0, slots := 0, locals := 0 }
def wLX10_count_4 (f1 : Int32) (σ : St) (K33 : Int32 → Prop) (P : Int32 → Prop) : Nat → Int32 → Int32 → Prop
  | 0, _, _ => False
  | n + 1, x2, x3 =>
    ((64 : Int32) ≤ x3 →
    K33 x2) ∧
    (¬ (64 : Int32) ≤ x3 →
    vp_in x3 128 ∧
    ((σ.1 7 x3.toNatClampNeg) = 0 →
    ∀ z4 : Int32, z4 = (x2 + (0 : Int32)) →
    ∀ z5 : Int32, z5 = x3 + (1 : Int32) →
    wLX10_count_4 f1 σ K33 P n z4 z5) ∧
    (¬ (σ.1 7 x3.toNatClampNeg) = 0 →
    ∀ z6 : Int32, z6 = (x2 + (1 : Int32)) →
    ∀ z7 : Int32, z7 = x3 + (1 : Int32) →
    wLX10_count_4 f1 σ K33 P n z6 z7))

set_option maxHeartbeats 4000000 in
set_option maxRecDepth 100000 in
theorem twLX10_count_4 {p : Program} {l : Launch} {e : Env} {s : State} {m : MethodId} {args : Array Value} {below : List Frame} {meth : Method} {c : Code} {D : va_G} {cy : Nat → ClassId} {ad : Nat → Nat} (X : XX p s m args meth c cX10_count 4 D cy (wM ad cy) wsX10_count RX10) (hr : meth.sig.returnType = (some .int)) (f1 : Int32)  (σ : St) (K33 : Int32 → Prop) {P : Int32 → Prop} (hK33 : ∀ (x2 : Int32), K33 x2 → VV p l e rmX10_count s m args below meth c (MQ below (va_Qi (fun r u => P r ∧ u = σ) (xPost D (wM ad cy)) (xA (wM ad cy))) args s 0 0 (xA (wM ad cy))) 4 D (wM ad cy) σ 33 [(0, .ref (ad 0)), (1, .int f1), (2, .int x2)] []) : ∀ (n : Nat) (x2 : Int32) (x3 : Int32), wLX10_count_4 f1 σ K33 P n x2 x3 → VV p l e rmX10_count s m args below meth c (MQ below (va_Qi (fun r u => P r ∧ u = σ) (xPost D (wM ad cy)) (xA (wM ad cy))) args s 0 0 (xA (wM ad cy))) 4 D (wM ad cy) σ 4 [(0, .ref (ad 0)), (1, .int f1), (2, .int x2), (3, .int x3)] [] := by
  intro n
  induction n with
  | zero => intro x2 x3 h; exact h.elim
  | succ n ih =>
    intro x2 x3 h
    rw [wLX10_count_4] at h
    refine vv_iload_n (q := 5) X 3 dX10_count_4 rfl rfl rfl ?_
    refine vv_bipush (q := 7) X (64 : Int32) dX10_count_5 (by decide) rfl ?_
    refine vv_icmp_ge (q := 10) X 33 dX10_count_7 (by decide) rfl (fun c1 => ?_) (fun c1 => ?_)
    · have h := h.1 c1
      refine vv_sub (lv' := [(0, .ref (ad 0)), (1, .int f1), (2, .int x2)]) [0, 1, 2] rfl ?_
      exact hK33 x2 h
    · have h := h.2 c1
      refine vv_iload_n (q := 11) X 2 dX10_count_10 rfl rfl rfl ?_
      refine vv_aload_n (q := 12) X 0 dX10_count_11 rfl rfl rfl ?_
      refine vv_getf (q := 15) (ref := "HalfLaddersModel") (C := RX10) (T := TX10) (N := 27) X 0 10 8 (Nat.le_of_ble_eq_true rfl) rfl rfl (Nat.le_of_ble_eq_true rfl) (fun _ h => List.mem_cons_of_mem _ (List.mem_append_right _ h)) (List.mem_of_getElem? (i := 1) rfl) rfl rfl dX10_count_12 rfl ?_
      refine vv_iload_n (q := 16) X 3 dX10_count_15 rfl rfl rfl ?_
      obtain ⟨hin2, h⟩ := h
      refine vv_zald (q := 17) X 7 128 (Nat.le_of_ble_eq_true rfl) (fun _ => rfl) hin2 dX10_count_16 rfl ?_
      refine vv_if_eq (q := 20) X 24 dX10_count_17 (by decide) rfl (fun c3 => ?_) (fun c3 => ?_)
      · have h := h.1 c3
        refine vv_iconst (q := 25) X (0 : Int32) dX10_count_24 (by decide) rfl ?_
        refine vv_iadd (q := 26) X dX10_count_25 rfl ?_
        refine vv_topi (fun z4 hz4 => ?_)
        have h := h z4 hz4
        refine vv_istore_n (lv2 := [(2, .int z4), (0, .ref (ad 0)), (1, .int f1), (3, .int x3)]) (q := 27) X dX10_count_26 rfl (Nat.le_of_ble_eq_true rfl) rfl rfl ?_
        obtain ⟨z5, hz5⟩ : ∃ y : Int32, y = x3 + (1 : Int32) := ⟨_, rfl⟩
        have h := h z5 hz5
        refine vv_iinc (v := z5) (lv2 := [(3, .int z5), (2, .int z4), (0, .ref (ad 0)), (1, .int f1)]) (q := 30) X 3 dX10_count_27 rfl (by rw [hz5]; rfl) (Nat.le_of_ble_eq_true rfl) rfl rfl ?_
        refine vv_goto X 4 dX10_count_30 (by decide) ?_
        refine vv_sub (lv' := [(0, .ref (ad 0)), (1, .int f1), (2, .int z4), (3, .int z5)]) [2, 3, 1, 0] rfl ?_
        exact ih z4 z5 h
      · have h := h.2 c3
        refine vv_iconst (q := 21) X (1 : Int32) dX10_count_20 (by decide) rfl ?_
        refine vv_goto X 25 dX10_count_21 (by decide) ?_
        refine vv_iadd (q := 26) X dX10_count_25 rfl ?_
        refine vv_topi (fun z6 hz6 => ?_)
        have h := h z6 hz6
        refine vv_istore_n (lv2 := [(2, .int z6), (0, .ref (ad 0)), (1, .int f1), (3, .int x3)]) (q := 27) X dX10_count_26 rfl (Nat.le_of_ble_eq_true rfl) rfl rfl ?_
        obtain ⟨z7, hz7⟩ : ∃ y : Int32, y = x3 + (1 : Int32) := ⟨_, rfl⟩
        have h := h z7 hz7
        refine vv_iinc (v := z7) (lv2 := [(3, .int z7), (2, .int z6), (0, .ref (ad 0)), (1, .int f1)]) (q := 30) X 3 dX10_count_27 rfl (by rw [hz7]; rfl) (Nat.le_of_ble_eq_true rfl) rfl rfl ?_
        refine vv_goto X 4 dX10_count_30 (by decide) ?_
        refine vv_sub (lv' := [(0, .ref (ad 0)), (1, .int f1), (2, .int z6), (3, .int z7)]) [2, 3, 1, 0] rfl ?_
        exact ih z6 z7 h

def wX10_count (σ : St) (a1 : Int32) (P : Int32 → Prop) : Prop :=
∃ n15 : Nat, wLX10_count_4 a1 σ (fun (y8 : Int32) =>
(¬ a1 = 0 →
(¬ a1 = (1 : Int32) →
(¬ a1 = (2 : Int32) →
(¬ a1 = (3 : Int32) →
P (-1 : Int32)) ∧
(a1 = (3 : Int32) →
P (σ.1 0 2))) ∧
(a1 = (2 : Int32) →
P (y8 / (2 : Int32)))) ∧
(a1 = (1 : Int32) →
vp_in (0 : Int32) 2 ∧
P (σ.1 8 (0 : Int32).toNatClampNeg))) ∧
(a1 = 0 →
vp_in (0 : Int32) 2 ∧
P (σ.1 2 (0 : Int32).toNatClampNeg))) P n15 (0 : Int32) (0 : Int32)

set_option maxHeartbeats 8000000 in
set_option maxRecDepth 100000 in
theorem kX10_count (l : Launch) (D : va_G) {cy : Nat → ClassId} {ad : Nat → Nat} (hw : xOk (wM ad cy)) {σ : St} {a1 : Int32} {P : Int32 → Prop} (h : wX10_count σ a1 P) : MI l yX10_count wsX10_count rmX10_count D cy (wM ad cy) [.ref (ad 0), .int a1] σ (fun r u => P r ∧ u = σ) := by
  unfold MI
  refine vv_met (cc := cX10_count) (maxL := 4) (ret := (some .int)) hw (by decide +kernel) rfl [.ref (ad 0), .int a1] (Nat.le_of_ble_eq_true rfl) ?_
  intro p e s m args below meth c X hr
  have X : XX p s m args meth c cX10_count 4 D cy (wM ad cy) wsX10_count RX10 := X
  refine vv_sub (lv' := [(0, .ref (ad 0)), (1, .int a1)]) [0, 1] rfl ?_
  rw [wX10_count] at h
  refine vv_iconst (q := 1) X (0 : Int32) dX10_count_0 (by decide) rfl ?_
  refine vv_istore_n (lv2 := [(2, .int (0 : Int32)), (0, .ref (ad 0)), (1, .int a1)]) (q := 2) X dX10_count_1 rfl (Nat.le_of_ble_eq_true rfl) rfl rfl ?_
  refine vv_iconst (q := 3) X (0 : Int32) dX10_count_2 (by decide) rfl ?_
  refine vv_istore_n (lv2 := [(3, .int (0 : Int32)), (2, .int (0 : Int32)), (0, .ref (ad 0)), (1, .int a1)]) (q := 4) X dX10_count_3 rfl (Nat.le_of_ble_eq_true rfl) rfl rfl ?_
  obtain ⟨n15, h⟩ := h
  refine vv_sub (lv' := [(0, .ref (ad 0)), (1, .int a1), (2, .int (0 : Int32)), (3, .int (0 : Int32))]) [2, 3, 1, 0] rfl ?_
  refine twLX10_count_4 X hr a1  σ _ ?_ n15 (0 : Int32) (0 : Int32) h
  intro y8 h
  refine vv_iload_n (q := 34) X 1 dX10_count_33 rfl rfl rfl ?_
  refine vv_if_ne (q := 37) X 46 dX10_count_34 (by decide) rfl (fun c9 => ?_) (fun c9 => ?_)
  · have h := h.1 c9
    refine vv_iload_n (q := 47) X 1 dX10_count_46 rfl rfl rfl ?_
    refine vv_iconst (q := 48) X (1 : Int32) dX10_count_47 (by decide) rfl ?_
    refine vv_icmp_ne (q := 51) X 60 dX10_count_48 (by decide) rfl (fun c10 => ?_) (fun c10 => ?_)
    · have h := h.1 c10
      refine vv_iload_n (q := 61) X 1 dX10_count_60 rfl rfl rfl ?_
      refine vv_iconst (q := 62) X (2 : Int32) dX10_count_61 (by decide) rfl ?_
      refine vv_icmp_ne (q := 65) X 71 dX10_count_62 (by decide) rfl (fun c11 => ?_) (fun c11 => ?_)
      · have h := h.1 c11
        refine vv_iload_n (q := 72) X 1 dX10_count_71 rfl rfl rfl ?_
        refine vv_iconst (q := 73) X (3 : Int32) dX10_count_72 (by decide) rfl ?_
        refine vv_icmp_ne (q := 76) X 83 dX10_count_73 (by decide) rfl (fun c12 => ?_) (fun c12 => ?_)
        · have h := h.1 c12
          refine vv_iconst (q := 84) X (-1 : Int32) dX10_count_83 (by decide) rfl ?_
          exact vv_iret X hr dX10_count_84 ⟨h, rfl⟩
        · have h := h.2 c12
          refine vv_aload_n (q := 77) X 0 dX10_count_76 rfl rfl rfl ?_
          refine vv_getf (q := 80) (ref := "HalfLaddersModel") (C := RX10) (T := TX10) (N := 27) X 0 10 2 (Nat.le_of_ble_eq_true rfl) rfl rfl (Nat.le_of_ble_eq_true rfl) (fun _ h => List.mem_cons_of_mem _ (List.mem_append_right _ h)) (List.mem_of_getElem? (i := 4) rfl) rfl rfl dX10_count_77 rfl ?_
          refine vv_goto X 84 dX10_count_80 (by decide) ?_
          exact vv_iret X hr dX10_count_84 ⟨h, rfl⟩
      · have h := h.2 c11
        refine vv_iload_n (q := 66) X 2 dX10_count_65 rfl rfl rfl ?_
        refine vv_iconst (q := 67) X (2 : Int32) dX10_count_66 (by decide) rfl ?_
        refine vv_idiv (q := 68) X dX10_count_67 (by decide) rfl ?_
        refine vv_goto X 84 dX10_count_68 (by decide) ?_
        exact vv_iret X hr dX10_count_84 ⟨h, rfl⟩
    · have h := h.2 c10
      refine vv_aload_n (q := 52) X 0 dX10_count_51 rfl rfl rfl ?_
      refine vv_getf (q := 55) (ref := "HalfLaddersModel") (C := RX10) (T := TX10) (N := 27) X 0 10 9 (Nat.le_of_ble_eq_true rfl) rfl rfl (Nat.le_of_ble_eq_true rfl) (fun _ h => List.mem_cons_of_mem _ (List.mem_append_right _ h)) (List.mem_of_getElem? (i := 3) rfl) rfl rfl dX10_count_52 rfl ?_
      refine vv_iconst (q := 56) X (0 : Int32) dX10_count_55 (by decide) rfl ?_
      obtain ⟨hin13, h⟩ := h
      refine vv_iald (q := 57) X 8 2 (Nat.le_of_ble_eq_true rfl) (fun _ => rfl) hin13 dX10_count_56 rfl ?_
      refine vv_goto X 84 dX10_count_57 (by decide) ?_
      exact vv_iret X hr dX10_count_84 ⟨h, rfl⟩
  · have h := h.2 c9
    refine vv_aload_n (q := 38) X 0 dX10_count_37 rfl rfl rfl ?_
    refine vv_getf (q := 41) (ref := "HalfLaddersModel") (C := RX10) (T := TX10) (N := 27) X 0 10 3 (Nat.le_of_ble_eq_true rfl) rfl rfl (Nat.le_of_ble_eq_true rfl) (fun _ h => List.mem_cons_of_mem _ (List.mem_append_right _ h)) (List.mem_of_getElem? (i := 2) rfl) rfl rfl dX10_count_38 rfl ?_
    refine vv_iconst (q := 42) X (0 : Int32) dX10_count_41 (by decide) rfl ?_
    obtain ⟨hin14, h⟩ := h
    refine vv_iald (q := 43) X 2 2 (Nat.le_of_ble_eq_true rfl) (fun _ => rfl) hin14 dX10_count_42 rfl ?_
    refine vv_goto X 84 dX10_count_43 (by decide) ?_
    exact vv_iret X hr dX10_count_84 ⟨h, rfl⟩

/-! X10_trace: trace()J -/
def rmX10_trace : Room := { frames := 0, cells := 0, slots := 0, locals := 0 }
def wX10_trace (σ : St)  (P : Int64 → Prop) : Prop :=
P (σ.2.1)

set_option maxHeartbeats 8000000 in
set_option maxRecDepth 100000 in
theorem kX10_trace (l : Launch) (D : va_G) {cy : Nat → ClassId} {ad : Nat → Nat} (hw : xOk (wM ad cy)) {σ : St}  {P : Int64 → Prop} (h : wX10_trace σ  P) : ML l yX10_trace wsX10_trace rmX10_trace D cy (wM ad cy) [.ref (ad 0)] σ (fun r u => P r ∧ u = σ) := by
  unfold ML
  refine vv_met (cc := cX10_trace) (maxL := 1) (ret := (some .long)) hw (by decide +kernel) rfl [.ref (ad 0)] (Nat.le_of_ble_eq_true rfl) ?_
  intro p e s m args below meth c X hr
  have X : XX p s m args meth c cX10_trace 1 D cy (wM ad cy) wsX10_trace RX10 := X
  refine vv_sub (lv' := [(0, .ref (ad 0))]) [0] rfl ?_
  rw [wX10_trace] at h
  refine vv_aload_n (q := 1) X 0 dX10_trace_0 rfl rfl rfl ?_
  refine vv_getf (q := 4) (ref := "HalfLaddersModel") (C := RX10) (T := TX10) (N := 27) X 0 10 0 (Nat.le_of_ble_eq_true rfl) rfl rfl (Nat.le_of_ble_eq_true rfl) (fun _ h => List.mem_cons_of_mem _ (List.mem_append_right _ h)) (List.mem_of_getElem? (i := 1) rfl) rfl rfl dX10_trace_1 rfl ?_
  exact vv_lret X hr dX10_trace_4 ⟨h, rfl⟩

