/-! X8_at: at(I)I -/
def rmX8_at : Room := { frames := 0, cells := 0, slots := 0, locals := 0 }
def wX8_at (σ : St) (a1 : Int32) (P : Int32 → Prop) : Prop :=
(a1 < 0 →
P (-1 : Int32)) ∧
(¬ a1 < 0 →
((σ.1 1 1) ≤ a1 →
P (-1 : Int32)) ∧
(¬ (σ.1 1 1) ≤ a1 →
vp_in a1 300 ∧
P ((σ.1 2 a1.toNatClampNeg) &&& (255 : Int32))))

set_option maxHeartbeats 8000000 in
set_option maxRecDepth 100000 in
theorem kX8_at (l : Launch) (D : va_G) {cy : Nat → ClassId} {ad : Nat → Nat} {zb : Nat → Nat} (hw : xOk (wC ad cy zb)) {σ : St} {a1 : Int32} {P : Int32 → Prop} (h : wX8_at σ a1 P) : MI l yX8_at wsX8_at rmX8_at D cy (wC ad cy zb) [.ref (ad 1), .int a1] σ (fun r u => P r ∧ u = σ) := by
  unfold MI
  refine vv_met (cc := cX8_at) (maxL := 2) (ret := (some .int)) hw (by decide +kernel) rfl [.ref (ad 1), .int a1] (Nat.le_of_ble_eq_true rfl) ?_
  intro p e s m args below meth c X hr
  have X : XX p s m args meth c cX8_at 2 D cy (wC ad cy zb) wsX8_at RX8 := X
  refine vv_sub (lv' := [(0, .ref (ad 1)), (1, .int a1)]) [0, 1] rfl ?_
  rw [wX8_at] at h
  refine vv_iload_n (q := 1) X 1 dX8_at_0 rfl rfl rfl ?_
  refine vv_if_lt (q := 4) X 25 dX8_at_1 (by decide) rfl (fun c1 => ?_) (fun c1 => ?_)
  · have h := h.1 c1
    refine vv_iconst (q := 26) X (-1 : Int32) dX8_at_25 (by decide) rfl ?_
    exact vv_iret X hr dX8_at_26 ⟨h, rfl⟩
  · have h := h.2 c1
    refine vv_iload_n (q := 5) X 1 dX8_at_4 rfl rfl rfl ?_
    refine vv_aload_n (q := 6) X 0 dX8_at_5 rfl rfl rfl ?_
    refine vv_getf (q := 9) (ref := "HalfLadders$Text") (C := RX8) (T := TX8) (N := 5) X 1 8 1 (Nat.le_of_ble_eq_true rfl) rfl rfl (Nat.le_of_ble_eq_true rfl) (fun _ h => List.mem_cons_of_mem _ (List.mem_append_right _ h)) (List.mem_of_getElem? (i := 1) rfl) rfl rfl dX8_at_6 rfl ?_
    refine vv_icmp_ge (q := 12) X 25 dX8_at_9 (by decide) rfl (fun c2 => ?_) (fun c2 => ?_)
    · have h := h.1 c2
      refine vv_iconst (q := 26) X (-1 : Int32) dX8_at_25 (by decide) rfl ?_
      exact vv_iret X hr dX8_at_26 ⟨h, rfl⟩
    · have h := h.2 c2
      refine vv_aload_n (q := 13) X 0 dX8_at_12 rfl rfl rfl ?_
      refine vv_getf (q := 16) (ref := "HalfLadders$Text") (C := RX8) (T := TX8) (N := 5) X 1 8 0 (Nat.le_of_ble_eq_true rfl) rfl rfl (Nat.le_of_ble_eq_true rfl) (fun _ h => List.mem_cons_of_mem _ (List.mem_append_right _ h)) (List.mem_of_getElem? (i := 2) rfl) rfl rfl dX8_at_13 rfl ?_
      refine vv_iload_n (q := 17) X 1 dX8_at_16 rfl rfl rfl ?_
      obtain ⟨hin3, h⟩ := h
      refine vv_bald (q := 18) X 2 300 (Nat.le_of_ble_eq_true rfl) (fun _ => rfl) hin3 dX8_at_17 rfl ?_
      refine vv_sipush (q := 21) X (255 : Int32) dX8_at_18 (by decide) rfl ?_
      refine vv_iand (q := 22) X dX8_at_21 rfl ?_
      refine vv_goto X 26 dX8_at_22 (by decide) ?_
      exact vv_iret X hr dX8_at_26 ⟨h, rfl⟩

/-! X8_isLetter: isLetter(I)Z -/
def rmX8_isLetter : Room := { frames := 0, cells := 0, slots := 0, locals := 0 }
def wX8_isLetter (σ : St) (a0 : Int32) (P : Int32 → Prop) : Prop :=
(a0 < (97 : Int32) →
P (0 : Int32)) ∧
(¬ a0 < (97 : Int32) →
((122 : Int32) < a0 →
P (0 : Int32)) ∧
(¬ (122 : Int32) < a0 →
P (1 : Int32)))

set_option maxHeartbeats 8000000 in
set_option maxRecDepth 100000 in
theorem kX8_isLetter (l : Launch) (D : va_G) {cy : Nat → ClassId} {ad : Nat → Nat} {zb : Nat → Nat} (hw : xOk (wC ad cy zb)) {σ : St} {a0 : Int32} {P : Int32 → Prop} (h : wX8_isLetter σ a0 P) : MI l yX8_isLetter wsX8_isLetter rmX8_isLetter D cy (wC ad cy zb) [.int a0] σ (fun r u => P r ∧ u = σ) := by
  unfold MI
  refine vv_met (cc := cX8_isLetter) (maxL := 1) (ret := (some .boolean)) hw (by decide +kernel) rfl [.int a0] (Nat.le_of_ble_eq_true rfl) ?_
  intro p e s m args below meth c X hr
  have X : XX p s m args meth c cX8_isLetter 1 D cy (wC ad cy zb) wsX8_isLetter RX8 := X
  refine vv_sub (lv' := [(0, .int a0)]) [0] rfl ?_
  rw [wX8_isLetter] at h
  refine vv_iload_n (q := 1) X 0 dX8_isLetter_0 rfl rfl rfl ?_
  refine vv_bipush (q := 3) X (97 : Int32) dX8_isLetter_1 (by decide) rfl ?_
  refine vv_icmp_lt (q := 6) X 16 dX8_isLetter_3 (by decide) rfl (fun c1 => ?_) (fun c1 => ?_)
  · have h := h.1 c1
    refine vv_iconst (q := 17) X (0 : Int32) dX8_isLetter_16 (by decide) rfl ?_
    exact vv_zret X hr rfl dX8_isLetter_17 ⟨h, rfl⟩
  · have h := h.2 c1
    refine vv_iload_n (q := 7) X 0 dX8_isLetter_6 rfl rfl rfl ?_
    refine vv_bipush (q := 9) X (122 : Int32) dX8_isLetter_7 (by decide) rfl ?_
    refine vv_icmp_gt (q := 12) X 16 dX8_isLetter_9 (by decide) rfl (fun c2 => ?_) (fun c2 => ?_)
    · have h := h.1 c2
      refine vv_iconst (q := 17) X (0 : Int32) dX8_isLetter_16 (by decide) rfl ?_
      exact vv_zret X hr rfl dX8_isLetter_17 ⟨h, rfl⟩
    · have h := h.2 c2
      refine vv_iconst (q := 13) X (1 : Int32) dX8_isLetter_12 (by decide) rfl ?_
      refine vv_goto X 17 dX8_isLetter_13 (by decide) ?_
      exact vv_zret X hr rfl dX8_isLetter_17 ⟨h, rfl⟩

/-! X8_isDigit: isDigit(I)Z -/
def rmX8_isDigit : Room := { frames := 0, cells := 0, slots := 0, locals := 0 }
def wX8_isDigit (σ : St) (a0 : Int32) (P : Int32 → Prop) : Prop :=
(a0 < (48 : Int32) →
P (0 : Int32)) ∧
(¬ a0 < (48 : Int32) →
((57 : Int32) < a0 →
P (0 : Int32)) ∧
(¬ (57 : Int32) < a0 →
P (1 : Int32)))

set_option maxHeartbeats 8000000 in
set_option maxRecDepth 100000 in
theorem kX8_isDigit (l : Launch) (D : va_G) {cy : Nat → ClassId} {ad : Nat → Nat} {zb : Nat → Nat} (hw : xOk (wC ad cy zb)) {σ : St} {a0 : Int32} {P : Int32 → Prop} (h : wX8_isDigit σ a0 P) : MI l yX8_isDigit wsX8_isDigit rmX8_isDigit D cy (wC ad cy zb) [.int a0] σ (fun r u => P r ∧ u = σ) := by
  unfold MI
  refine vv_met (cc := cX8_isDigit) (maxL := 1) (ret := (some .boolean)) hw (by decide +kernel) rfl [.int a0] (Nat.le_of_ble_eq_true rfl) ?_
  intro p e s m args below meth c X hr
  have X : XX p s m args meth c cX8_isDigit 1 D cy (wC ad cy zb) wsX8_isDigit RX8 := X
  refine vv_sub (lv' := [(0, .int a0)]) [0] rfl ?_
  rw [wX8_isDigit] at h
  refine vv_iload_n (q := 1) X 0 dX8_isDigit_0 rfl rfl rfl ?_
  refine vv_bipush (q := 3) X (48 : Int32) dX8_isDigit_1 (by decide) rfl ?_
  refine vv_icmp_lt (q := 6) X 16 dX8_isDigit_3 (by decide) rfl (fun c1 => ?_) (fun c1 => ?_)
  · have h := h.1 c1
    refine vv_iconst (q := 17) X (0 : Int32) dX8_isDigit_16 (by decide) rfl ?_
    exact vv_zret X hr rfl dX8_isDigit_17 ⟨h, rfl⟩
  · have h := h.2 c1
    refine vv_iload_n (q := 7) X 0 dX8_isDigit_6 rfl rfl rfl ?_
    refine vv_bipush (q := 9) X (57 : Int32) dX8_isDigit_7 (by decide) rfl ?_
    refine vv_icmp_gt (q := 12) X 16 dX8_isDigit_9 (by decide) rfl (fun c2 => ?_) (fun c2 => ?_)
    · have h := h.1 c2
      refine vv_iconst (q := 17) X (0 : Int32) dX8_isDigit_16 (by decide) rfl ?_
      exact vv_zret X hr rfl dX8_isDigit_17 ⟨h, rfl⟩
    · have h := h.2 c2
      refine vv_iconst (q := 13) X (1 : Int32) dX8_isDigit_12 (by decide) rfl ?_
      refine vv_goto X 17 dX8_isDigit_13 (by decide) ?_
      exact vv_zret X hr rfl dX8_isDigit_17 ⟨h, rfl⟩

/-! X8_endOfToken: endOfToken(I)I -/
def rmX8_endOfToken : Room := { frames := 1, cells := 0, slots := 0, locals := 21 }
def wLX8_endOfToken_51  (σ : St) (K76 : Int32 → Prop) (P : Int32 → Prop) : Nat → Int32 → Prop
  | 0, _ => False
  | n + 1, x2 =>
    ((σ.1 1 1) ≤ x2 →
    K76 x2) ∧
    (¬ (σ.1 1 1) ≤ x2 →
    wX8_at σ x2 (fun r9 : Int32 =>
    wX8_isDigit σ r9 (fun r10 : Int32 =>
    (r10 = 0 →
    K76 x2) ∧
    (¬ r10 = 0 →
    ∀ z12 : Int32, z12 = x2 + (1 : Int32) →
    wLX8_endOfToken_51 σ K76 P n z12))))

set_option maxHeartbeats 4000000 in
set_option maxRecDepth 100000 in
theorem twLX8_endOfToken_51 {p : Program} {l : Launch} {e : Env} {s : State} {m : MethodId} {args : Array Value} {below : List Frame} {meth : Method} {c : Code} {D : va_G} {cy : Nat → ClassId} {ad : Nat → Nat} {zb : Nat → Nat} (X : XX p s m args meth c cX8_endOfToken 3 D cy (wC ad cy zb) wsX8_endOfToken RX8) (hr : meth.sig.returnType = (some .int))   (σ : St) (K76 : Int32 → Prop) {P : Int32 → Prop} (hK76 : ∀ (x2 : Int32), K76 x2 → VV p l e rmX8_endOfToken s m args below meth c (MQ below (va_Qi (fun r u => P r ∧ u = σ) (xPost D (wC ad cy zb)) (xA (wC ad cy zb))) args s 0 0 (xA (wC ad cy zb))) 3 D (wC ad cy zb) σ 76 [(2, .int x2)] []) : ∀ (n : Nat) (x2 : Int32), wLX8_endOfToken_51 σ K76 P n x2 → VV p l e rmX8_endOfToken s m args below meth c (MQ below (va_Qi (fun r u => P r ∧ u = σ) (xPost D (wC ad cy zb)) (xA (wC ad cy zb))) args s 0 0 (xA (wC ad cy zb))) 3 D (wC ad cy zb) σ 51 [(0, .ref (ad 1)), (2, .int x2)] [] := by
  intro n
  induction n with
  | zero => intro x2 h; exact h.elim
  | succ n ih =>
    intro x2 h
    rw [wLX8_endOfToken_51] at h
    refine vv_iload_n (q := 52) X 1 dX8_endOfToken_51 rfl rfl rfl ?_
    refine vv_aload_n (q := 53) X 0 dX8_endOfToken_52 rfl rfl rfl ?_
    refine vv_getf (q := 56) (ref := "HalfLadders$Text") (C := RX8) (T := TX8) (N := 5) X 1 8 1 (Nat.le_of_ble_eq_true rfl) rfl rfl (Nat.le_of_ble_eq_true rfl) (fun _ h => List.mem_cons_of_mem _ (List.mem_append_right _ h)) (List.mem_of_getElem? (i := 1) rfl) rfl rfl dX8_endOfToken_53 rfl ?_
    refine vv_icmp_ge (q := 59) X 76 dX8_endOfToken_56 (by decide) rfl (fun c8 => ?_) (fun c8 => ?_)
    · have h := h.1 c8
      refine vv_sub (lv' := [(2, .int x2)]) [1] rfl ?_
      exact hK76 x2 h
    · have h := h.2 c8
      refine vv_aload_n (q := 60) X 0 dX8_endOfToken_59 rfl rfl rfl ?_
      refine vv_iload_n (q := 61) X 1 dX8_endOfToken_60 rfl rfl rfl ?_
      refine vv_cVi (q := 64) (C := RX8) X 1 8 [.int x2] (kX8_at l D X.2.2.1 h) (cwV 1 X.1.2.2.2.2 gX8_endOfToken_X8_at rfl rfl rfl (by decide +kernel) ⟨Nat.le_of_ble_eq_true rfl, Nat.le_of_ble_eq_true rfl⟩) (Nat.le_of_ble_eq_true rfl) rfl rfl rfl rfl (Nat.le_of_ble_eq_true rfl) dX8_endOfToken_61 rfl (fun r9 u9 h9 => ?_)
      obtain ⟨h9, hu9⟩ := h9
      subst u9
      have h := h9
      refine vv_cSi (q := 67) X [.int r9] (kX8_isDigit l D X.2.2.1 h) (va_cwS 1 X.1.2.2.2.2 gX8_endOfToken_X8_isDigit rfl rfl rfl (by decide +kernel) ⟨Nat.le_of_ble_eq_true rfl, Nat.le_of_ble_eq_true rfl⟩) rfl rfl (Nat.le_of_ble_eq_true rfl) dX8_endOfToken_64 rfl (fun r10 u9 h9 => ?_)
      obtain ⟨h9, hu9⟩ := h9
      subst u9
      have h := h9
      refine vv_if_eq (q := 70) X 76 dX8_endOfToken_67 (by decide) rfl (fun c11 => ?_) (fun c11 => ?_)
      · have h := h.1 c11
        refine vv_sub (lv' := [(2, .int x2)]) [1] rfl ?_
        exact hK76 x2 h
      · have h := h.2 c11
        obtain ⟨z12, hz12⟩ : ∃ y : Int32, y = x2 + (1 : Int32) := ⟨_, rfl⟩
        have h := h z12 hz12
        refine vv_iinc (v := z12) (lv2 := [(2, .int z12), (0, .ref (ad 1))]) (q := 73) X 1 dX8_endOfToken_70 rfl (by rw [hz12]; rfl) (Nat.le_of_ble_eq_true rfl) rfl rfl ?_
        refine vv_goto X 51 dX8_endOfToken_73 (by decide) ?_
        refine vv_sub (lv' := [(0, .ref (ad 1)), (2, .int z12)]) [1, 0] rfl ?_
        exact ih z12 h

def wLX8_endOfToken_15  (σ : St) (K76 : Int32 → Prop) (P : Int32 → Prop) : Nat → Int32 → Prop
  | 0, _ => False
  | n + 1, x2 =>
    ((σ.1 1 1) ≤ x2 →
    K76 x2) ∧
    (¬ (σ.1 1 1) ≤ x2 →
    wX8_at σ x2 (fun r16 : Int32 =>
    wX8_isLetter σ r16 (fun r17 : Int32 =>
    (r17 = 0 →
    K76 x2) ∧
    (¬ r17 = 0 →
    ∀ z19 : Int32, z19 = x2 + (1 : Int32) →
    wLX8_endOfToken_15 σ K76 P n z19))))

set_option maxHeartbeats 4000000 in
set_option maxRecDepth 100000 in
theorem twLX8_endOfToken_15 {p : Program} {l : Launch} {e : Env} {s : State} {m : MethodId} {args : Array Value} {below : List Frame} {meth : Method} {c : Code} {D : va_G} {cy : Nat → ClassId} {ad : Nat → Nat} {zb : Nat → Nat} (X : XX p s m args meth c cX8_endOfToken 3 D cy (wC ad cy zb) wsX8_endOfToken RX8) (hr : meth.sig.returnType = (some .int))   (σ : St) (K76 : Int32 → Prop) {P : Int32 → Prop} (hK76 : ∀ (x2 : Int32), K76 x2 → VV p l e rmX8_endOfToken s m args below meth c (MQ below (va_Qi (fun r u => P r ∧ u = σ) (xPost D (wC ad cy zb)) (xA (wC ad cy zb))) args s 0 0 (xA (wC ad cy zb))) 3 D (wC ad cy zb) σ 76 [(2, .int x2)] []) : ∀ (n : Nat) (x2 : Int32), wLX8_endOfToken_15 σ K76 P n x2 → VV p l e rmX8_endOfToken s m args below meth c (MQ below (va_Qi (fun r u => P r ∧ u = σ) (xPost D (wC ad cy zb)) (xA (wC ad cy zb))) args s 0 0 (xA (wC ad cy zb))) 3 D (wC ad cy zb) σ 15 [(0, .ref (ad 1)), (2, .int x2)] [] := by
  intro n
  induction n with
  | zero => intro x2 h; exact h.elim
  | succ n ih =>
    intro x2 h
    rw [wLX8_endOfToken_15] at h
    refine vv_iload_n (q := 16) X 1 dX8_endOfToken_15 rfl rfl rfl ?_
    refine vv_aload_n (q := 17) X 0 dX8_endOfToken_16 rfl rfl rfl ?_
    refine vv_getf (q := 20) (ref := "HalfLadders$Text") (C := RX8) (T := TX8) (N := 5) X 1 8 1 (Nat.le_of_ble_eq_true rfl) rfl rfl (Nat.le_of_ble_eq_true rfl) (fun _ h => List.mem_cons_of_mem _ (List.mem_append_right _ h)) (List.mem_of_getElem? (i := 1) rfl) rfl rfl dX8_endOfToken_17 rfl ?_
    refine vv_icmp_ge (q := 23) X 76 dX8_endOfToken_20 (by decide) rfl (fun c15 => ?_) (fun c15 => ?_)
    · have h := h.1 c15
      refine vv_sub (lv' := [(2, .int x2)]) [1] rfl ?_
      exact hK76 x2 h
    · have h := h.2 c15
      refine vv_aload_n (q := 24) X 0 dX8_endOfToken_23 rfl rfl rfl ?_
      refine vv_iload_n (q := 25) X 1 dX8_endOfToken_24 rfl rfl rfl ?_
      refine vv_cVi (q := 28) (C := RX8) X 1 8 [.int x2] (kX8_at l D X.2.2.1 h) (cwV 1 X.1.2.2.2.2 gX8_endOfToken_X8_at rfl rfl rfl (by decide +kernel) ⟨Nat.le_of_ble_eq_true rfl, Nat.le_of_ble_eq_true rfl⟩) (Nat.le_of_ble_eq_true rfl) rfl rfl rfl rfl (Nat.le_of_ble_eq_true rfl) dX8_endOfToken_25 rfl (fun r16 u9 h9 => ?_)
      obtain ⟨h9, hu9⟩ := h9
      subst u9
      have h := h9
      refine vv_cSi (q := 31) X [.int r16] (kX8_isLetter l D X.2.2.1 h) (va_cwS 1 X.1.2.2.2.2 gX8_endOfToken_X8_isLetter rfl rfl rfl (by decide +kernel) ⟨Nat.le_of_ble_eq_true rfl, Nat.le_of_ble_eq_true rfl⟩) rfl rfl (Nat.le_of_ble_eq_true rfl) dX8_endOfToken_28 rfl (fun r17 u9 h9 => ?_)
      obtain ⟨h9, hu9⟩ := h9
      subst u9
      have h := h9
      refine vv_if_eq (q := 34) X 76 dX8_endOfToken_31 (by decide) rfl (fun c18 => ?_) (fun c18 => ?_)
      · have h := h.1 c18
        refine vv_sub (lv' := [(2, .int x2)]) [1] rfl ?_
        exact hK76 x2 h
      · have h := h.2 c18
        obtain ⟨z19, hz19⟩ : ∃ y : Int32, y = x2 + (1 : Int32) := ⟨_, rfl⟩
        have h := h z19 hz19
        refine vv_iinc (v := z19) (lv2 := [(2, .int z19), (0, .ref (ad 1))]) (q := 37) X 1 dX8_endOfToken_34 rfl (by rw [hz19]; rfl) (Nat.le_of_ble_eq_true rfl) rfl rfl ?_
        refine vv_goto X 15 dX8_endOfToken_37 (by decide) ?_
        refine vv_sub (lv' := [(0, .ref (ad 1)), (2, .int z19)]) [1, 0] rfl ?_
        exact ih z19 h

def wX8_endOfToken (σ : St) (a1 : Int32) (P : Int32 → Prop) : Prop :=
∀ z1 : Int32, z1 = (a1 + (1 : Int32)) →
wX8_at σ a1 (fun r2 : Int32 =>
wX8_isLetter σ r2 (fun r3 : Int32 =>
(r3 = 0 →
wX8_at σ a1 (fun r5 : Int32 =>
wX8_isDigit σ r5 (fun r6 : Int32 =>
(r6 = 0 →
P z1) ∧
(¬ r6 = 0 →
∃ n14 : Nat, wLX8_endOfToken_51 σ (fun (y13 : Int32) =>
P y13) P n14 z1)))) ∧
(¬ r3 = 0 →
∃ n21 : Nat, wLX8_endOfToken_15 σ (fun (y20 : Int32) =>
P y20) P n21 z1)))

set_option maxHeartbeats 8000000 in
set_option maxRecDepth 100000 in
theorem kX8_endOfToken (l : Launch) (D : va_G) {cy : Nat → ClassId} {ad : Nat → Nat} {zb : Nat → Nat} (hw : xOk (wC ad cy zb)) {σ : St} {a1 : Int32} {P : Int32 → Prop} (h : wX8_endOfToken σ a1 P) : MI l yX8_endOfToken wsX8_endOfToken rmX8_endOfToken D cy (wC ad cy zb) [.ref (ad 1), .int a1] σ (fun r u => P r ∧ u = σ) := by
  unfold MI
  refine vv_met (cc := cX8_endOfToken) (maxL := 3) (ret := (some .int)) hw (by decide +kernel) rfl [.ref (ad 1), .int a1] (Nat.le_of_ble_eq_true rfl) ?_
  intro p e s m args below meth c X hr
  have X : XX p s m args meth c cX8_endOfToken 3 D cy (wC ad cy zb) wsX8_endOfToken RX8 := X
  refine vv_sub (lv' := [(0, .ref (ad 1)), (1, .int a1)]) [0, 1] rfl ?_
  rw [wX8_endOfToken] at h
  refine vv_iload_n (q := 1) X 1 dX8_endOfToken_0 rfl rfl rfl ?_
  refine vv_iconst (q := 2) X (1 : Int32) dX8_endOfToken_1 (by decide) rfl ?_
  refine vv_iadd (q := 3) X dX8_endOfToken_2 rfl ?_
  refine vv_topi (fun z1 hz1 => ?_)
  have h := h z1 hz1
  refine vv_istore_n (lv2 := [(2, .int z1), (0, .ref (ad 1)), (1, .int a1)]) (q := 4) X dX8_endOfToken_3 rfl (Nat.le_of_ble_eq_true rfl) rfl rfl ?_
  refine vv_aload_n (q := 5) X 1 dX8_endOfToken_4 rfl rfl rfl ?_
  refine vv_iload_n (q := 6) X 2 dX8_endOfToken_5 rfl rfl rfl ?_
  refine vv_cVi (q := 9) (C := RX8) X 1 8 [.int a1] (kX8_at l D X.2.2.1 h) (cwV 1 X.1.2.2.2.2 gX8_endOfToken_X8_at rfl rfl rfl (by decide +kernel) ⟨Nat.le_of_ble_eq_true rfl, Nat.le_of_ble_eq_true rfl⟩) (Nat.le_of_ble_eq_true rfl) rfl rfl rfl rfl (Nat.le_of_ble_eq_true rfl) dX8_endOfToken_6 rfl (fun r2 u9 h9 => ?_)
  obtain ⟨h9, hu9⟩ := h9
  subst u9
  have h := h9
  refine vv_cSi (q := 12) X [.int r2] (kX8_isLetter l D X.2.2.1 h) (va_cwS 1 X.1.2.2.2.2 gX8_endOfToken_X8_isLetter rfl rfl rfl (by decide +kernel) ⟨Nat.le_of_ble_eq_true rfl, Nat.le_of_ble_eq_true rfl⟩) rfl rfl (Nat.le_of_ble_eq_true rfl) dX8_endOfToken_9 rfl (fun r3 u9 h9 => ?_)
  obtain ⟨h9, hu9⟩ := h9
  subst u9
  have h := h9
  refine vv_if_eq (q := 15) X 40 dX8_endOfToken_12 (by decide) rfl (fun c4 => ?_) (fun c4 => ?_)
  · have h := h.1 c4
    refine vv_aload_n (q := 41) X 1 dX8_endOfToken_40 rfl rfl rfl ?_
    refine vv_iload_n (q := 42) X 2 dX8_endOfToken_41 rfl rfl rfl ?_
    refine vv_cVi (q := 45) (C := RX8) X 1 8 [.int a1] (kX8_at l D X.2.2.1 h) (cwV 1 X.1.2.2.2.2 gX8_endOfToken_X8_at rfl rfl rfl (by decide +kernel) ⟨Nat.le_of_ble_eq_true rfl, Nat.le_of_ble_eq_true rfl⟩) (Nat.le_of_ble_eq_true rfl) rfl rfl rfl rfl (Nat.le_of_ble_eq_true rfl) dX8_endOfToken_42 rfl (fun r5 u9 h9 => ?_)
    obtain ⟨h9, hu9⟩ := h9
    subst u9
    have h := h9
    refine vv_cSi (q := 48) X [.int r5] (kX8_isDigit l D X.2.2.1 h) (va_cwS 1 X.1.2.2.2.2 gX8_endOfToken_X8_isDigit rfl rfl rfl (by decide +kernel) ⟨Nat.le_of_ble_eq_true rfl, Nat.le_of_ble_eq_true rfl⟩) rfl rfl (Nat.le_of_ble_eq_true rfl) dX8_endOfToken_45 rfl (fun r6 u9 h9 => ?_)
    obtain ⟨h9, hu9⟩ := h9
    subst u9
    have h := h9
    refine vv_if_eq (q := 51) X 76 dX8_endOfToken_48 (by decide) rfl (fun c7 => ?_) (fun c7 => ?_)
    · have h := h.1 c7
      refine vv_iload_n (q := 77) X 0 dX8_endOfToken_76 rfl rfl rfl ?_
      exact vv_iret X hr dX8_endOfToken_77 ⟨h, rfl⟩
    · have h := h.2 c7
      obtain ⟨n14, h⟩ := h
      refine vv_sub (lv' := [(0, .ref (ad 1)), (2, .int z1)]) [1, 0] rfl ?_
      refine twLX8_endOfToken_51 X hr  σ _ ?_ n14 z1 h
      intro y13 h
      refine vv_iload_n (q := 77) X 0 dX8_endOfToken_76 rfl rfl rfl ?_
      exact vv_iret X hr dX8_endOfToken_77 ⟨h, rfl⟩
  · have h := h.2 c4
    obtain ⟨n21, h⟩ := h
    refine vv_sub (lv' := [(0, .ref (ad 1)), (2, .int z1)]) [1, 0] rfl ?_
    refine twLX8_endOfToken_15 X hr  σ _ ?_ n21 z1 h
    intro y20 h
    refine vv_iload_n (q := 77) X 0 dX8_endOfToken_76 rfl rfl rfl ?_
    exact vv_iret X hr dX8_endOfToken_77 ⟨h, rfl⟩

/-! X8_spells: spells(Ljava/lang/String;II)Z -/
def rmX8_spells : Room := { frames := 5, cells := 0, slots := 0, locals := 106 }
def wLX8_spells_15 (f1 : Nat) (f2 : Int32) (σ : St) (K49 : Prop) (P : Int32 → Prop) : Nat → Int32 → Prop
  | 0, _ => False
  | n + 1, x4 =>
    wJ0_length_8abf5 σ f1 (fun r3 : Int32 =>
    (r3 ≤ x4 →
    K49) ∧
    (¬ r3 ≤ x4 →
    wX8_at σ (f2 + x4) (fun r5 : Int32 =>
    wJ0_charAt_5068e σ f1 x4 (fun r6 : Int32 =>
    (r5 = r6 →
    ∀ z8 : Int32, z8 = x4 + (1 : Int32) →
    wLX8_spells_15 f1 f2 σ K49 P n z8) ∧
    (¬ r5 = r6 →
    P (0 : Int32))))))

set_option maxHeartbeats 4000000 in
set_option maxRecDepth 100000 in
theorem twLX8_spells_15 {p : Program} {l : Launch} {e : Env} {s : State} {m : MethodId} {args : Array Value} {below : List Frame} {meth : Method} {c : Code} {D : va_G} {cy : Nat → ClassId} {ad : Nat → Nat} {zb : Nat → Nat} (X : XX p s m args meth c cX8_spells 5 D cy (wC ad cy zb) wsX8_spells RX8) (hr : meth.sig.returnType = (some .boolean)) (f1 : Nat) (f2 : Int32) (hf1 : isS f1) (σ : St) (K49 : Prop) {P : Int32 → Prop} (hK49 : K49 → VV p l e rmX8_spells s m args below meth c (MQ below (va_Qi (fun r u => P r ∧ u = σ) (xPost D (wC ad cy zb)) (xA (wC ad cy zb))) args s 0 0 (xA (wC ad cy zb))) 5 D (wC ad cy zb) σ 49 [] []) : ∀ (n : Nat) (x4 : Int32), wLX8_spells_15 f1 f2 σ K49 P n x4 → VV p l e rmX8_spells s m args below meth c (MQ below (va_Qi (fun r u => P r ∧ u = σ) (xPost D (wC ad cy zb)) (xA (wC ad cy zb))) args s 0 0 (xA (wC ad cy zb))) 5 D (wC ad cy zb) σ 15 [(0, .ref (ad 1)), (1, .ref (zb (10 + f1))), (2, .int f2), (4, .int x4)] [] := by
  intro n
  induction n with
  | zero => intro x4 h; exact h.elim
  | succ n ih =>
    intro x4 h
    rw [wLX8_spells_15] at h
    refine vv_iload (q := 17) X 3 dX8_spells_15 rfl rfl ?_
    refine vv_aload_n (q := 18) X 1 dX8_spells_17 rfl rfl rfl ?_
    refine vv_cVis (q := 21) X f1 hf1 [] (kJ0_length_8abf5 l D X.2.2.1 h) (cwV 0 X.1.2.2.2.2 gX8_spells_J0_length_8abf5 rfl rfl rfl (by decide +kernel) ⟨Nat.le_of_ble_eq_true rfl, Nat.le_of_ble_eq_true rfl⟩) rfl rfl (Nat.le_of_ble_eq_true rfl) dX8_spells_18 rfl (fun r3 u9 h9 => ?_)
    obtain ⟨h9, hu9⟩ := h9
    subst u9
    have h := h9
    refine vv_icmp_ge (q := 24) X 49 dX8_spells_21 (by decide) rfl (fun c4 => ?_) (fun c4 => ?_)
    · have h := h.1 c4
      refine vv_sub (lv' := []) [] rfl ?_
      exact hK49  h
    · have h := h.2 c4
      refine vv_aload_n (q := 25) X 0 dX8_spells_24 rfl rfl rfl ?_
      refine vv_iload_n (q := 26) X 2 dX8_spells_25 rfl rfl rfl ?_
      refine vv_iload (q := 28) X 3 dX8_spells_26 rfl rfl ?_
      refine vv_iadd (q := 29) X dX8_spells_28 rfl ?_
      refine vv_cVi (q := 32) (C := RX8) X 1 8 [.int (f2 + x4)] (kX8_at l D X.2.2.1 h) (cwV 1 X.1.2.2.2.2 gX8_spells_X8_at rfl rfl rfl (by decide +kernel) ⟨Nat.le_of_ble_eq_true rfl, Nat.le_of_ble_eq_true rfl⟩) (Nat.le_of_ble_eq_true rfl) rfl rfl rfl rfl (Nat.le_of_ble_eq_true rfl) dX8_spells_29 rfl (fun r5 u9 h9 => ?_)
      obtain ⟨h9, hu9⟩ := h9
      subst u9
      have h := h9
      refine vv_aload_n (q := 33) X 1 dX8_spells_32 rfl rfl rfl ?_
      refine vv_iload (q := 35) X 3 dX8_spells_33 rfl rfl ?_
      refine vv_cVis (q := 38) X f1 hf1 [.int x4] (kJ0_charAt_5068e l D X.2.2.1 h) (cwV 1 X.1.2.2.2.2 gX8_spells_J0_charAt_5068e rfl rfl rfl (by decide +kernel) ⟨Nat.le_of_ble_eq_true rfl, Nat.le_of_ble_eq_true rfl⟩) rfl rfl (Nat.le_of_ble_eq_true rfl) dX8_spells_35 rfl (fun r6 u9 h9 => ?_)
      obtain ⟨h9, hu9⟩ := h9
      subst u9
      have h := h9
      refine vv_icmp_eq (q := 41) X 43 dX8_spells_38 (by decide) rfl (fun c7 => ?_) (fun c7 => ?_)
      · have h := h.1 c7
        obtain ⟨z8, hz8⟩ : ∃ y : Int32, y = x4 + (1 : Int32) := ⟨_, rfl⟩
        have h := h z8 hz8
        refine vv_iinc (v := z8) (lv2 := [(4, .int z8), (0, .ref (ad 1)), (1, .ref (zb (10 + f1))), (2, .int f2)]) (q := 46) X 3 dX8_spells_43 rfl (by rw [hz8]; rfl) (Nat.le_of_ble_eq_true rfl) rfl rfl ?_
        refine vv_goto X 15 dX8_spells_46 (by decide) ?_
        refine vv_sub (lv' := [(0, .ref (ad 1)), (1, .ref (zb (10 + f1))), (2, .int f2), (4, .int z8)]) [1, 2, 3, 0] rfl ?_
        exact ih z8 h
      · have h := h.2 c7
        refine vv_iconst (q := 42) X (0 : Int32) dX8_spells_41 (by decide) rfl ?_
        exact vv_zret X hr rfl dX8_spells_42 ⟨h, rfl⟩

def wX8_spells (σ : St) (a1 : Nat) (a2 : Int32) (a3 : Int32) (P : Int32 → Prop) : Prop :=
isS a1 ∧
wJ0_length_8abf5 σ a1 (fun r1 : Int32 =>
((a3 - a2) = r1 →
∃ n9 : Nat, wLX8_spells_15 a1 a2 σ (P (1 : Int32)) P n9 (0 : Int32)) ∧
(¬ (a3 - a2) = r1 →
P (0 : Int32)))

set_option maxHeartbeats 8000000 in
set_option maxRecDepth 100000 in
theorem kX8_spells (l : Launch) (D : va_G) {cy : Nat → ClassId} {ad : Nat → Nat} {zb : Nat → Nat} (hw : xOk (wC ad cy zb)) {σ : St} {a1 : Nat} {a2 : Int32} {a3 : Int32} {P : Int32 → Prop} (h : wX8_spells σ a1 a2 a3 P) : MI l yX8_spells wsX8_spells rmX8_spells D cy (wC ad cy zb) [.ref (ad 1), .ref (zb (10 + a1)), .int a2, .int a3] σ (fun r u => P r ∧ u = σ) := by
  unfold MI
  refine vv_met (cc := cX8_spells) (maxL := 5) (ret := (some .boolean)) hw (by decide +kernel) rfl [.ref (ad 1), .ref (zb (10 + a1)), .int a2, .int a3] (Nat.le_of_ble_eq_true rfl) ?_
  intro p e s m args below meth c X hr
  have X : XX p s m args meth c cX8_spells 5 D cy (wC ad cy zb) wsX8_spells RX8 := X
  refine vv_sub (lv' := [(0, .ref (ad 1)), (1, .ref (zb (10 + a1))), (2, .int a2), (3, .int a3)]) [0, 1, 2, 3] rfl ?_
  rw [wX8_spells] at h
  obtain ⟨ha1, h⟩ := h
  refine vv_iload_n (q := 1) X 3 dX8_spells_0 rfl rfl rfl ?_
  refine vv_iload_n (q := 2) X 2 dX8_spells_1 rfl rfl rfl ?_
  refine vv_isub (q := 3) X dX8_spells_2 rfl ?_
  refine vv_aload_n (q := 4) X 1 dX8_spells_3 rfl rfl rfl ?_
  refine vv_cVis (q := 7) X a1 ha1 [] (kJ0_length_8abf5 l D X.2.2.1 h) (cwV 0 X.1.2.2.2.2 gX8_spells_J0_length_8abf5 rfl rfl rfl (by decide +kernel) ⟨Nat.le_of_ble_eq_true rfl, Nat.le_of_ble_eq_true rfl⟩) rfl rfl (Nat.le_of_ble_eq_true rfl) dX8_spells_4 rfl (fun r1 u9 h9 => ?_)
  obtain ⟨h9, hu9⟩ := h9
  subst u9
  have h := h9
  refine vv_icmp_eq (q := 10) X 12 dX8_spells_7 (by decide) rfl (fun c2 => ?_) (fun c2 => ?_)
  · have h := h.1 c2
    refine vv_iconst (q := 13) X (0 : Int32) dX8_spells_12 (by decide) rfl ?_
    refine vv_istore (lv2 := [(4, .int (0 : Int32)), (0, .ref (ad 1)), (1, .ref (zb (10 + a1))), (2, .int a2), (3, .int a3)]) (q := 15) X dX8_spells_13 (Nat.le_of_ble_eq_true rfl) rfl rfl ?_
    obtain ⟨n9, h⟩ := h
    refine vv_sub (lv' := [(0, .ref (ad 1)), (1, .ref (zb (10 + a1))), (2, .int a2), (4, .int (0 : Int32))]) [1, 2, 3, 0] rfl ?_
    refine twLX8_spells_15 X hr a1 a2 ha1 σ _ ?_ n9 (0 : Int32) h
    intro h
    refine vv_iconst (q := 50) X (1 : Int32) dX8_spells_49 (by decide) rfl ?_
    exact vv_zret X hr rfl dX8_spells_50 ⟨h, rfl⟩
  · have h := h.2 c2
    refine vv_iconst (q := 11) X (0 : Int32) dX8_spells_10 (by decide) rfl ?_
    exact vv_zret X hr rfl dX8_spells_11 ⟨h, rfl⟩

/-! X8_tokenOf: tokenOf(II)I -/
def rmX8_tokenOf : Room := { frames := 6, cells := 0, slots := 0, locals := 130 }
def wX8_tokenOf (σ : St) (a1 : Int32) (a2 : Int32) (P : Int32 → Prop) : Prop :=
wX8_at σ a1 (fun r1 : Int32 =>
wX8_isDigit σ r1 (fun r2 : Int32 =>
(r2 = 0 →
(¬ r1 = (59 : Int32) →
wX8_spells σ 0 a1 a2 (fun r5 : Int32 =>
(r5 = 0 →
wX8_spells σ 1 a1 a2 (fun r7 : Int32 =>
(r7 = 0 →
wX8_spells σ 2 a1 a2 (fun r9 : Int32 =>
(r9 = 0 →
wX8_spells σ 3 a1 a2 (fun r11 : Int32 =>
(r11 = 0 →
P (7 : Int32)) ∧
(¬ r11 = 0 →
P (3 : Int32)))) ∧
(¬ r9 = 0 →
P (2 : Int32)))) ∧
(¬ r7 = 0 →
P (1 : Int32)))) ∧
(¬ r5 = 0 →
P (0 : Int32)))) ∧
(r1 = (59 : Int32) →
P (5 : Int32))) ∧
(¬ r2 = 0 →
jn (fun (v14 : Int32) =>
(v14 = 0 →
P (7 : Int32)) ∧
(¬ v14 = 0 →
P (4 : Int32))) (fun J13 : Int32 → Prop =>
((a2 - a1) = (1 : Int32) →
J13 (1 : Int32)) ∧
(¬ (a2 - a1) = (1 : Int32) →
(¬ (a2 - a1) = (2 : Int32) →
J13 (0 : Int32)) ∧
((a2 - a1) = (2 : Int32) →
(r1 = (48 : Int32) →
J13 (0 : Int32)) ∧
(¬ r1 = (48 : Int32) →
J13 (1 : Int32))))))))

set_option maxHeartbeats 8000000 in
set_option maxRecDepth 100000 in
theorem kX8_tokenOf (l : Launch) (D : va_G) {cy : Nat → ClassId} {ad : Nat → Nat} {zb : Nat → Nat} (hw : xOk (wC ad cy zb)) {σ : St} {a1 : Int32} {a2 : Int32} {P : Int32 → Prop} (h : wX8_tokenOf σ a1 a2 P) : MI l yX8_tokenOf wsX8_tokenOf rmX8_tokenOf D cy (wC ad cy zb) [.ref (ad 1), .int a1, .int a2] σ (fun r u => P r ∧ u = σ) := by
  unfold MI
  refine vv_met (cc := cX8_tokenOf) (maxL := 5) (ret := (some .int)) hw (by decide +kernel) rfl [.ref (ad 1), .int a1, .int a2] (Nat.le_of_ble_eq_true rfl) ?_
  intro p e s m args below meth c X hr
  have X : XX p s m args meth c cX8_tokenOf 5 D cy (wC ad cy zb) wsX8_tokenOf RX8 := X
  refine vv_sub (lv' := [(0, .ref (ad 1)), (1, .int a1), (2, .int a2)]) [0, 1, 2] rfl ?_
  rw [wX8_tokenOf] at h
  refine vv_aload_n (q := 1) X 0 dX8_tokenOf_0 rfl rfl rfl ?_
  refine vv_iload_n (q := 2) X 1 dX8_tokenOf_1 rfl rfl rfl ?_
  refine vv_cVi (q := 5) (C := RX8) X 1 8 [.int a1] (kX8_at l D X.2.2.1 h) (cwV 1 X.1.2.2.2.2 gX8_tokenOf_X8_at rfl rfl rfl (by decide +kernel) ⟨Nat.le_of_ble_eq_true rfl, Nat.le_of_ble_eq_true rfl⟩) (Nat.le_of_ble_eq_true rfl) rfl rfl rfl rfl (Nat.le_of_ble_eq_true rfl) dX8_tokenOf_2 rfl (fun r1 u9 h9 => ?_)
  obtain ⟨h9, hu9⟩ := h9
  subst u9
  have h := h9
  refine vv_istore_n (lv2 := [(3, .int r1), (0, .ref (ad 1)), (1, .int a1), (2, .int a2)]) (q := 6) X dX8_tokenOf_5 rfl (Nat.le_of_ble_eq_true rfl) rfl rfl ?_
  refine vv_iload_n (q := 7) X 0 dX8_tokenOf_6 rfl rfl rfl ?_
  refine vv_cSi (q := 10) X [.int r1] (kX8_isDigit l D X.2.2.1 h) (va_cwS 1 X.1.2.2.2.2 gX8_tokenOf_X8_isDigit rfl rfl rfl (by decide +kernel) ⟨Nat.le_of_ble_eq_true rfl, Nat.le_of_ble_eq_true rfl⟩) rfl rfl (Nat.le_of_ble_eq_true rfl) dX8_tokenOf_7 rfl (fun r2 u9 h9 => ?_)
  obtain ⟨h9, hu9⟩ := h9
  subst u9
  have h := h9
  refine vv_if_eq (q := 13) X 52 dX8_tokenOf_10 (by decide) rfl (fun c3 => ?_) (fun c3 => ?_)
  · have h := h.1 c3
    refine vv_iload_n (q := 53) X 0 dX8_tokenOf_52 rfl rfl rfl ?_
    refine vv_bipush (q := 55) X (59 : Int32) dX8_tokenOf_53 (by decide) rfl ?_
    refine vv_icmp_ne (q := 58) X 60 dX8_tokenOf_55 (by decide) rfl (fun c4 => ?_) (fun c4 => ?_)
    · have h := h.1 c4
      refine vv_aload_n (q := 61) X 1 dX8_tokenOf_60 rfl rfl rfl ?_
      refine vv_ldcS (q := 63) X 0 (by decide) dX8_tokenOf_61 rfl ?_
      refine vv_iload_n (q := 64) X 2 dX8_tokenOf_63 rfl rfl rfl ?_
      refine vv_iload_n (q := 65) X 3 dX8_tokenOf_64 rfl rfl rfl ?_
      refine vv_cVi (q := 68) (C := RX8) X 1 8 [.ref (zb (10 + 0)), .int a1, .int a2] (kX8_spells l D X.2.2.1 h) (cwV 3 X.1.2.2.2.2 gX8_tokenOf_X8_spells rfl rfl rfl (by decide +kernel) ⟨Nat.le_of_ble_eq_true rfl, Nat.le_of_ble_eq_true rfl⟩) (Nat.le_of_ble_eq_true rfl) rfl rfl rfl rfl (Nat.le_of_ble_eq_true rfl) dX8_tokenOf_65 rfl (fun r5 u9 h9 => ?_)
      obtain ⟨h9, hu9⟩ := h9
      subst u9
      have h := h9
      refine vv_if_eq (q := 71) X 73 dX8_tokenOf_68 (by decide) rfl (fun c6 => ?_) (fun c6 => ?_)
      · have h := h.1 c6
        refine vv_aload_n (q := 74) X 1 dX8_tokenOf_73 rfl rfl rfl ?_
        refine vv_ldcS (q := 76) X 1 (by decide) dX8_tokenOf_74 rfl ?_
        refine vv_iload_n (q := 77) X 2 dX8_tokenOf_76 rfl rfl rfl ?_
        refine vv_iload_n (q := 78) X 3 dX8_tokenOf_77 rfl rfl rfl ?_
        refine vv_cVi (q := 81) (C := RX8) X 1 8 [.ref (zb (10 + 1)), .int a1, .int a2] (kX8_spells l D X.2.2.1 h) (cwV 3 X.1.2.2.2.2 gX8_tokenOf_X8_spells rfl rfl rfl (by decide +kernel) ⟨Nat.le_of_ble_eq_true rfl, Nat.le_of_ble_eq_true rfl⟩) (Nat.le_of_ble_eq_true rfl) rfl rfl rfl rfl (Nat.le_of_ble_eq_true rfl) dX8_tokenOf_78 rfl (fun r7 u9 h9 => ?_)
        obtain ⟨h9, hu9⟩ := h9
        subst u9
        have h := h9
        refine vv_if_eq (q := 84) X 86 dX8_tokenOf_81 (by decide) rfl (fun c8 => ?_) (fun c8 => ?_)
        · have h := h.1 c8
          refine vv_aload_n (q := 87) X 1 dX8_tokenOf_86 rfl rfl rfl ?_
          refine vv_ldcS (q := 89) X 2 (by decide) dX8_tokenOf_87 rfl ?_
          refine vv_iload_n (q := 90) X 2 dX8_tokenOf_89 rfl rfl rfl ?_
          refine vv_iload_n (q := 91) X 3 dX8_tokenOf_90 rfl rfl rfl ?_
          refine vv_cVi (q := 94) (C := RX8) X 1 8 [.ref (zb (10 + 2)), .int a1, .int a2] (kX8_spells l D X.2.2.1 h) (cwV 3 X.1.2.2.2.2 gX8_tokenOf_X8_spells rfl rfl rfl (by decide +kernel) ⟨Nat.le_of_ble_eq_true rfl, Nat.le_of_ble_eq_true rfl⟩) (Nat.le_of_ble_eq_true rfl) rfl rfl rfl rfl (Nat.le_of_ble_eq_true rfl) dX8_tokenOf_91 rfl (fun r9 u9 h9 => ?_)
          obtain ⟨h9, hu9⟩ := h9
          subst u9
          have h := h9
          refine vv_if_eq (q := 97) X 99 dX8_tokenOf_94 (by decide) rfl (fun c10 => ?_) (fun c10 => ?_)
          · have h := h.1 c10
            refine vv_aload_n (q := 100) X 1 dX8_tokenOf_99 rfl rfl rfl ?_
            refine vv_ldcS (q := 102) X 3 (by decide) dX8_tokenOf_100 rfl ?_
            refine vv_iload_n (q := 103) X 2 dX8_tokenOf_102 rfl rfl rfl ?_
            refine vv_iload_n (q := 104) X 3 dX8_tokenOf_103 rfl rfl rfl ?_
            refine vv_cVi (q := 107) (C := RX8) X 1 8 [.ref (zb (10 + 3)), .int a1, .int a2] (kX8_spells l D X.2.2.1 h) (cwV 3 X.1.2.2.2.2 gX8_tokenOf_X8_spells rfl rfl rfl (by decide +kernel) ⟨Nat.le_of_ble_eq_true rfl, Nat.le_of_ble_eq_true rfl⟩) (Nat.le_of_ble_eq_true rfl) rfl rfl rfl rfl (Nat.le_of_ble_eq_true rfl) dX8_tokenOf_104 rfl (fun r11 u9 h9 => ?_)
            obtain ⟨h9, hu9⟩ := h9
            subst u9
            have h := h9
            refine vv_if_eq (q := 110) X 114 dX8_tokenOf_107 (by decide) rfl (fun c12 => ?_) (fun c12 => ?_)
            · have h := h.1 c12
              refine vv_bipush (q := 116) X (7 : Int32) dX8_tokenOf_114 (by decide) rfl ?_
              exact vv_iret X hr dX8_tokenOf_116 ⟨h, rfl⟩
            · have h := h.2 c12
              refine vv_iconst (q := 111) X (3 : Int32) dX8_tokenOf_110 (by decide) rfl ?_
              refine vv_goto X 116 dX8_tokenOf_111 (by decide) ?_
              exact vv_iret X hr dX8_tokenOf_116 ⟨h, rfl⟩
          · have h := h.2 c10
            refine vv_iconst (q := 98) X (2 : Int32) dX8_tokenOf_97 (by decide) rfl ?_
            exact vv_iret X hr dX8_tokenOf_98 ⟨h, rfl⟩
        · have h := h.2 c8
          refine vv_iconst (q := 85) X (1 : Int32) dX8_tokenOf_84 (by decide) rfl ?_
          exact vv_iret X hr dX8_tokenOf_85 ⟨h, rfl⟩
      · have h := h.2 c6
        refine vv_iconst (q := 72) X (0 : Int32) dX8_tokenOf_71 (by decide) rfl ?_
        exact vv_iret X hr dX8_tokenOf_72 ⟨h, rfl⟩
    · have h := h.2 c4
      refine vv_iconst (q := 59) X (5 : Int32) dX8_tokenOf_58 (by decide) rfl ?_
      exact vv_iret X hr dX8_tokenOf_59 ⟨h, rfl⟩
  · have h := h.2 c3
    refine vv_iload_n (q := 14) X 3 dX8_tokenOf_13 rfl rfl rfl ?_
    refine vv_iload_n (q := 15) X 2 dX8_tokenOf_14 rfl rfl rfl ?_
    refine vv_isub (q := 16) X dX8_tokenOf_15 rfl ?_
    refine vv_iconst (q := 17) X (1 : Int32) dX8_tokenOf_16 (by decide) rfl ?_
    obtain ⟨J13, hJ13, h⟩ := jn_el h
    have tJ13 : ∀ (v14 : Int32), J13 v14 → VV p l e rmX8_tokenOf s m args below meth c (MQ below (va_Qi (fun r u => P r ∧ u = σ) (xPost D (wC ad cy zb)) (xA (wC ad cy zb))) args s 0 0 (xA (wC ad cy zb))) 5 D (wC ad cy zb) σ 38 [] [.int v14] := by
      intro v14 h
      rw [hJ13] at h
      refine vv_istore (lv2 := [(4, .int v14)]) (q := 40) X dX8_tokenOf_38 (Nat.le_of_ble_eq_true rfl) rfl rfl ?_
      refine vv_iload (q := 42) X 0 dX8_tokenOf_40 rfl rfl ?_
      refine vv_if_eq (q := 45) X 49 dX8_tokenOf_42 (by decide) rfl (fun c15 => ?_) (fun c15 => ?_)
      · have h := h.1 c15
        refine vv_bipush (q := 51) X (7 : Int32) dX8_tokenOf_49 (by decide) rfl ?_
        exact vv_iret X hr dX8_tokenOf_51 ⟨h, rfl⟩
      · have h := h.2 c15
        refine vv_iconst (q := 46) X (4 : Int32) dX8_tokenOf_45 (by decide) rfl ?_
        refine vv_goto X 51 dX8_tokenOf_46 (by decide) ?_
        exact vv_iret X hr dX8_tokenOf_51 ⟨h, rfl⟩
    refine vv_icmp_eq (q := 20) X 33 dX8_tokenOf_17 (by decide) rfl (fun c16 => ?_) (fun c16 => ?_)
    · have h := h.1 c16
      refine vv_iconst (q := 34) X (1 : Int32) dX8_tokenOf_33 (by decide) rfl ?_
      refine vv_goto X 38 dX8_tokenOf_34 (by decide) ?_
      refine vv_sub (lv' := []) [] rfl ?_
      exact tJ13 (1 : Int32) h
    · have h := h.2 c16
      refine vv_iload_n (q := 21) X 3 dX8_tokenOf_20 rfl rfl rfl ?_
      refine vv_iload_n (q := 22) X 2 dX8_tokenOf_21 rfl rfl rfl ?_
      refine vv_isub (q := 23) X dX8_tokenOf_22 rfl ?_
      refine vv_iconst (q := 24) X (2 : Int32) dX8_tokenOf_23 (by decide) rfl ?_
      refine vv_icmp_ne (q := 27) X 37 dX8_tokenOf_24 (by decide) rfl (fun c17 => ?_) (fun c17 => ?_)
      · have h := h.1 c17
        refine vv_iconst (q := 38) X (0 : Int32) dX8_tokenOf_37 (by decide) rfl ?_
        refine vv_sub (lv' := []) [] rfl ?_
        exact tJ13 (0 : Int32) h
      · have h := h.2 c17
        refine vv_iload_n (q := 28) X 0 dX8_tokenOf_27 rfl rfl rfl ?_
        refine vv_bipush (q := 30) X (48 : Int32) dX8_tokenOf_28 (by decide) rfl ?_
        refine vv_icmp_eq (q := 33) X 37 dX8_tokenOf_30 (by decide) rfl (fun c18 => ?_) (fun c18 => ?_)
        · have h := h.1 c18
          refine vv_iconst (q := 38) X (0 : Int32) dX8_tokenOf_37 (by decide) rfl ?_
          refine vv_sub (lv' := []) [] rfl ?_
          exact tJ13 (0 : Int32) h
        · have h := h.2 c18
          refine vv_iconst (q := 34) X (1 : Int32) dX8_tokenOf_33 (by decide) rfl ?_
          refine vv_goto X 38 dX8_tokenOf_34 (by decide) ?_
          refine vv_sub (lv' := []) [] rfl ?_
          exact tJ13 (1 : Int32) h

/-! X8_numberAt: numberAt(II)I -/
def rmX8_numberAt : Room := { frames := 1, cells := 0, slots := 0, locals := 21 }
def wLX8_numberAt_5 (f2 : Int32) (σ : St) (K32 : Int32 → Prop) (P : Int32 → Prop) : Nat → Int32 → Int32 → Prop
  | 0, _, _ => False
  | n + 1, x3, x4 =>
    (f2 ≤ x4 →
    K32 x3) ∧
    (¬ f2 ≤ x4 →
    wX8_at σ x4 (fun r2 : Int32 =>
    ∀ z3 : Int32, z3 = (((x3 * (10 : Int32)) + r2) - (48 : Int32)) →
    ∀ z4 : Int32, z4 = x4 + (1 : Int32) →
    wLX8_numberAt_5 f2 σ K32 P n z3 z4))

set_option maxHeartbeats 4000000 in
set_option maxRecDepth 100000 in
theorem twLX8_numberAt_5 {p : Program} {l : Launch} {e : Env} {s : State} {m : MethodId} {args : Array Value} {below : List Frame} {meth : Method} {c : Code} {D : va_G} {cy : Nat → ClassId} {ad : Nat → Nat} {zb : Nat → Nat} (X : XX p s m args meth c cX8_numberAt 5 D cy (wC ad cy zb) wsX8_numberAt RX8) (hr : meth.sig.returnType = (some .int)) (f2 : Int32)  (σ : St) (K32 : Int32 → Prop) {P : Int32 → Prop} (hK32 : ∀ (x3 : Int32), K32 x3 → VV p l e rmX8_numberAt s m args below meth c (MQ below (va_Qi (fun r u => P r ∧ u = σ) (xPost D (wC ad cy zb)) (xA (wC ad cy zb))) args s 0 0 (xA (wC ad cy zb))) 5 D (wC ad cy zb) σ 32 [(3, .int x3)] []) : ∀ (n : Nat) (x3 : Int32) (x4 : Int32), wLX8_numberAt_5 f2 σ K32 P n x3 x4 → VV p l e rmX8_numberAt s m args below meth c (MQ below (va_Qi (fun r u => P r ∧ u = σ) (xPost D (wC ad cy zb)) (xA (wC ad cy zb))) args s 0 0 (xA (wC ad cy zb))) 5 D (wC ad cy zb) σ 5 [(0, .ref (ad 1)), (2, .int f2), (3, .int x3), (4, .int x4)] [] := by
  intro n
  induction n with
  | zero => intro x3 x4 h; exact h.elim
  | succ n ih =>
    intro x3 x4 h
    rw [wLX8_numberAt_5] at h
    refine vv_iload (q := 7) X 3 dX8_numberAt_5 rfl rfl ?_
    refine vv_iload_n (q := 8) X 1 dX8_numberAt_7 rfl rfl rfl ?_
    refine vv_icmp_ge (q := 11) X 32 dX8_numberAt_8 (by decide) rfl (fun c1 => ?_) (fun c1 => ?_)
    · have h := h.1 c1
      refine vv_sub (lv' := [(3, .int x3)]) [2] rfl ?_
      exact hK32 x3 h
    · have h := h.2 c1
      refine vv_iload_n (q := 12) X 2 dX8_numberAt_11 rfl rfl rfl ?_
      refine vv_bipush (q := 14) X (10 : Int32) dX8_numberAt_12 (by decide) rfl ?_
      refine vv_imul (q := 15) X dX8_numberAt_14 rfl ?_
      refine vv_aload_n (q := 16) X 0 dX8_numberAt_15 rfl rfl rfl ?_
      refine vv_iload (q := 18) X 3 dX8_numberAt_16 rfl rfl ?_
      refine vv_cVi (q := 21) (C := RX8) X 1 8 [.int x4] (kX8_at l D X.2.2.1 h) (cwV 1 X.1.2.2.2.2 gX8_numberAt_X8_at rfl rfl rfl (by decide +kernel) ⟨Nat.le_of_ble_eq_true rfl, Nat.le_of_ble_eq_true rfl⟩) (Nat.le_of_ble_eq_true rfl) rfl rfl rfl rfl (Nat.le_of_ble_eq_true rfl) dX8_numberAt_18 rfl (fun r2 u9 h9 => ?_)
      obtain ⟨h9, hu9⟩ := h9
      subst u9
      have h := h9
      refine vv_iadd (q := 22) X dX8_numberAt_21 rfl ?_
      refine vv_bipush (q := 24) X (48 : Int32) dX8_numberAt_22 (by decide) rfl ?_
      refine vv_isub (q := 25) X dX8_numberAt_24 rfl ?_
      refine vv_topi (fun z3 hz3 => ?_)
      have h := h z3 hz3
      refine vv_istore_n (lv2 := [(3, .int z3), (0, .ref (ad 1)), (2, .int f2), (4, .int x4)]) (q := 26) X dX8_numberAt_25 rfl (Nat.le_of_ble_eq_true rfl) rfl rfl ?_
      obtain ⟨z4, hz4⟩ : ∃ y : Int32, y = x4 + (1 : Int32) := ⟨_, rfl⟩
      have h := h z4 hz4
      refine vv_iinc (v := z4) (lv2 := [(4, .int z4), (3, .int z3), (0, .ref (ad 1)), (2, .int f2)]) (q := 29) X 3 dX8_numberAt_26 rfl (by rw [hz4]; rfl) (Nat.le_of_ble_eq_true rfl) rfl rfl ?_
      refine vv_goto X 5 dX8_numberAt_29 (by decide) ?_
      refine vv_sub (lv' := [(0, .ref (ad 1)), (2, .int f2), (3, .int z3), (4, .int z4)]) [2, 3, 1, 0] rfl ?_
      exact ih z3 z4 h

def wX8_numberAt (σ : St) (a1 : Int32) (a2 : Int32) (P : Int32 → Prop) : Prop :=
∃ n6 : Nat, wLX8_numberAt_5 a2 σ (fun (y5 : Int32) =>
P y5) P n6 (0 : Int32) a1

set_option maxHeartbeats 8000000 in
set_option maxRecDepth 100000 in
theorem kX8_numberAt (l : Launch) (D : va_G) {cy : Nat → ClassId} {ad : Nat → Nat} {zb : Nat → Nat} (hw : xOk (wC ad cy zb)) {σ : St} {a1 : Int32} {a2 : Int32} {P : Int32 → Prop} (h : wX8_numberAt σ a1 a2 P) : MI l yX8_numberAt wsX8_numberAt rmX8_numberAt D cy (wC ad cy zb) [.ref (ad 1), .int a1, .int a2] σ (fun r u => P r ∧ u = σ) := by
  unfold MI
  refine vv_met (cc := cX8_numberAt) (maxL := 5) (ret := (some .int)) hw (by decide +kernel) rfl [.ref (ad 1), .int a1, .int a2] (Nat.le_of_ble_eq_true rfl) ?_
  intro p e s m args below meth c X hr
  have X : XX p s m args meth c cX8_numberAt 5 D cy (wC ad cy zb) wsX8_numberAt RX8 := X
  refine vv_sub (lv' := [(0, .ref (ad 1)), (1, .int a1), (2, .int a2)]) [0, 1, 2] rfl ?_
  rw [wX8_numberAt] at h
  refine vv_iconst (q := 1) X (0 : Int32) dX8_numberAt_0 (by decide) rfl ?_
  refine vv_istore_n (lv2 := [(3, .int (0 : Int32)), (0, .ref (ad 1)), (1, .int a1), (2, .int a2)]) (q := 2) X dX8_numberAt_1 rfl (Nat.le_of_ble_eq_true rfl) rfl rfl ?_
  refine vv_iload_n (q := 3) X 2 dX8_numberAt_2 rfl rfl rfl ?_
  refine vv_istore (lv2 := [(4, .int a1), (3, .int (0 : Int32)), (0, .ref (ad 1)), (1, .int a1), (2, .int a2)]) (q := 5) X dX8_numberAt_3 (Nat.le_of_ble_eq_true rfl) rfl rfl ?_
  obtain ⟨n6, h⟩ := h
  refine vv_sub (lv' := [(0, .ref (ad 1)), (2, .int a2), (3, .int (0 : Int32)), (4, .int a1)]) [2, 4, 1, 0] rfl ?_
  refine twLX8_numberAt_5 X hr a2  σ _ ?_ n6 (0 : Int32) a1 h
  intro y5 h
  refine vv_iload_n (q := 33) X 0 dX8_numberAt_32 rfl rfl rfl ?_
  exact vv_iret X hr dX8_numberAt_33 ⟨h, rfl⟩

/-! X8_cutIntoTokens: cutIntoTokens()V -/
def rmX8_cutIntoTokens : Room := { frames := 7, cells := 0, slots := 0, locals := 154 }
def wLX8_cutIntoTokens_4   (K100 : St → Int32 → Prop) (P : St → Prop) : Nat → St → Int32 → Int32 → Prop
  | 0, _, _, _ => False
  | n + 1, σ, x1, x2 =>
    ((σ.1 1 1) ≤ x2 →
    K100 σ x1) ∧
    (¬ (σ.1 1 1) ≤ x2 →
    ((300 : Int32) ≤ x1 →
    K100 σ x1) ∧
    (¬ (300 : Int32) ≤ x1 →
    wX8_at σ x2 (fun r3 : Int32 =>
    (¬ r3 = (32 : Int32) →
    wX8_endOfToken σ x2 (fun r5 : Int32 =>
    vp_in x1 301 ∧
    ∀ σ7 : St, σ7 = sI σ 4 x1.toNatClampNeg x2 →
    wX8_tokenOf σ7 x2 r5 (fun r8 : Int32 =>
    vp_in x1 301 ∧
    ∀ σ10 : St, σ10 = sI σ7 3 x1.toNatClampNeg r8 →
    vp_in x1 301 ∧
    jn (fun (v13 : Int32) =>
    vp_in x1 301 ∧
    ∀ σ15 : St, σ15 = sI σ10 5 x1.toNatClampNeg v13 →
    ∀ z16 : Int32, z16 = x1 + (1 : Int32) →
    ∀ z17 : Int32, z17 = (if r5 < (x2 + (1 : Int32)) then (x2 + (1 : Int32)) else r5) →
    wLX8_cutIntoTokens_4 K100 P n σ15 z16 z17) (fun J12 : Int32 → Prop =>
    (¬ (σ10.1 3 x1.toNatClampNeg) = (4 : Int32) →
    J12 (0 : Int32)) ∧
    ((σ10.1 3 x1.toNatClampNeg) = (4 : Int32) →
    wX8_numberAt σ10 x2 r5 (fun r19 : Int32 =>
    J12 r19)))))) ∧
    (r3 = (32 : Int32) →
    ∀ z20 : Int32, z20 = x2 + (1 : Int32) →
    wLX8_cutIntoTokens_4 K100 P n σ x1 z20))))

set_option maxHeartbeats 4000000 in
set_option maxRecDepth 100000 in
theorem twLX8_cutIntoTokens_4 {p : Program} {l : Launch} {e : Env} {s : State} {m : MethodId} {args : Array Value} {below : List Frame} {meth : Method} {c : Code} {D : va_G} {cy : Nat → ClassId} {ad : Nat → Nat} {zb : Nat → Nat} (X : XX p s m args meth c cX8_cutIntoTokens 4 D cy (wC ad cy zb) wsX8_cutIntoTokens RX8) (hr : meth.sig.returnType = none)    (K100 : St → Int32 → Prop) {P : St → Prop} (hK100 : ∀ (σ : St) (x1 : Int32), K100 σ x1 → VV p l e rmX8_cutIntoTokens s m args below meth c (MQ below (va_Qv P (xPost D (wC ad cy zb)) (xA (wC ad cy zb))) args s 0 0 (xA (wC ad cy zb))) 4 D (wC ad cy zb) σ 100 [(0, .ref (ad 1)), (1, .int x1)] []) : ∀ (n : Nat) (σ : St) (x1 : Int32) (x2 : Int32), wLX8_cutIntoTokens_4 K100 P n σ x1 x2 → VV p l e rmX8_cutIntoTokens s m args below meth c (MQ below (va_Qv P (xPost D (wC ad cy zb)) (xA (wC ad cy zb))) args s 0 0 (xA (wC ad cy zb))) 4 D (wC ad cy zb) σ 4 [(0, .ref (ad 1)), (1, .int x1), (2, .int x2)] [] := by
  intro n
  induction n with
  | zero => intro σ x1 x2 h; exact h.elim
  | succ n ih =>
    intro σ x1 x2 h
    rw [wLX8_cutIntoTokens_4] at h
    refine vv_iload_n (q := 5) X 2 dX8_cutIntoTokens_4 rfl rfl rfl ?_
    refine vv_aload_n (q := 6) X 0 dX8_cutIntoTokens_5 rfl rfl rfl ?_
    refine vv_getf (q := 9) (ref := "HalfLadders$Text") (C := RX8) (T := TX8) (N := 5) X 1 8 1 (Nat.le_of_ble_eq_true rfl) rfl rfl (Nat.le_of_ble_eq_true rfl) (fun _ h => List.mem_cons_of_mem _ (List.mem_append_right _ h)) (List.mem_of_getElem? (i := 1) rfl) rfl rfl dX8_cutIntoTokens_6 rfl ?_
    refine vv_icmp_ge (q := 12) X 100 dX8_cutIntoTokens_9 (by decide) rfl (fun c1 => ?_) (fun c1 => ?_)
    · have h := h.1 c1
      refine vv_sub (lv' := [(0, .ref (ad 1)), (1, .int x1)]) [0, 1] rfl ?_
      exact hK100 σ x1 h
    · have h := h.2 c1
      refine vv_iload_n (q := 13) X 1 dX8_cutIntoTokens_12 rfl rfl rfl ?_
      refine vv_sipush (q := 16) X (300 : Int32) dX8_cutIntoTokens_13 (by decide) rfl ?_
      refine vv_icmp_ge (q := 19) X 100 dX8_cutIntoTokens_16 (by decide) rfl (fun c2 => ?_) (fun c2 => ?_)
      · have h := h.1 c2
        refine vv_sub (lv' := [(0, .ref (ad 1)), (1, .int x1)]) [0, 1] rfl ?_
        exact hK100 σ x1 h
      · have h := h.2 c2
        refine vv_aload_n (q := 20) X 0 dX8_cutIntoTokens_19 rfl rfl rfl ?_
        refine vv_iload_n (q := 21) X 2 dX8_cutIntoTokens_20 rfl rfl rfl ?_
        refine vv_cVi (q := 24) (C := RX8) X 1 8 [.int x2] (kX8_at l D X.2.2.1 h) (cwV 1 X.1.2.2.2.2 gX8_cutIntoTokens_X8_at rfl rfl rfl (by decide +kernel) ⟨Nat.le_of_ble_eq_true rfl, Nat.le_of_ble_eq_true rfl⟩) (Nat.le_of_ble_eq_true rfl) rfl rfl rfl rfl (Nat.le_of_ble_eq_true rfl) dX8_cutIntoTokens_21 rfl (fun r3 u9 h9 => ?_)
        obtain ⟨h9, hu9⟩ := h9
        subst u9
        have h := h9
        refine vv_bipush (q := 26) X (32 : Int32) dX8_cutIntoTokens_24 (by decide) rfl ?_
        refine vv_icmp_ne (q := 29) X 35 dX8_cutIntoTokens_26 (by decide) rfl (fun c4 => ?_) (fun c4 => ?_)
        · have h := h.1 c4
          refine vv_aload_n (q := 36) X 0 dX8_cutIntoTokens_35 rfl rfl rfl ?_
          refine vv_iload_n (q := 37) X 2 dX8_cutIntoTokens_36 rfl rfl rfl ?_
          refine vv_cVi (q := 40) (C := RX8) X 1 8 [.int x2] (kX8_endOfToken l D X.2.2.1 h) (cwV 1 X.1.2.2.2.2 gX8_cutIntoTokens_X8_endOfToken rfl rfl rfl (by decide +kernel) ⟨Nat.le_of_ble_eq_true rfl, Nat.le_of_ble_eq_true rfl⟩) (Nat.le_of_ble_eq_true rfl) rfl rfl rfl rfl (Nat.le_of_ble_eq_true rfl) dX8_cutIntoTokens_37 rfl (fun r5 u9 h9 => ?_)
          obtain ⟨h9, hu9⟩ := h9
          subst u9
          have h := h9
          refine vv_istore_n (lv2 := [(3, .int r5), (0, .ref (ad 1)), (1, .int x1), (2, .int x2)]) (q := 41) X dX8_cutIntoTokens_40 rfl (Nat.le_of_ble_eq_true rfl) rfl rfl ?_
          refine vv_aload_n (q := 42) X 1 dX8_cutIntoTokens_41 rfl rfl rfl ?_
          refine vv_getf (q := 45) (ref := "HalfLadders$Text") (C := RX8) (T := TX8) (N := 5) X 1 8 3 (Nat.le_of_ble_eq_true rfl) rfl rfl (Nat.le_of_ble_eq_true rfl) (fun _ h => List.mem_cons_of_mem _ (List.mem_append_right _ h)) (List.mem_of_getElem? (i := 2) rfl) rfl rfl dX8_cutIntoTokens_42 rfl ?_
          refine vv_iload_n (q := 46) X 2 dX8_cutIntoTokens_45 rfl rfl rfl ?_
          refine vv_iload_n (q := 47) X 3 dX8_cutIntoTokens_46 rfl rfl rfl ?_
          obtain ⟨hin6, h⟩ := h
          refine vv_iast (q := 48) X 4 301 (Nat.le_of_ble_eq_true rfl) (fun _ => rfl) hin6 dX8_cutIntoTokens_47 rfl ?_
          refine vv_nm (fun σ7 hσ7 => ?_)
          have h := h σ7 hσ7
          refine vv_aload_n (q := 49) X 1 dX8_cutIntoTokens_48 rfl rfl rfl ?_
          refine vv_getf (q := 52) (ref := "HalfLadders$Text") (C := RX8) (T := TX8) (N := 5) X 1 8 2 (Nat.le_of_ble_eq_true rfl) rfl rfl (Nat.le_of_ble_eq_true rfl) (fun _ h => List.mem_cons_of_mem _ (List.mem_append_right _ h)) (List.mem_of_getElem? (i := 3) rfl) rfl rfl dX8_cutIntoTokens_49 rfl ?_
          refine vv_iload_n (q := 53) X 2 dX8_cutIntoTokens_52 rfl rfl rfl ?_
          refine vv_aload_n (q := 54) X 1 dX8_cutIntoTokens_53 rfl rfl rfl ?_
          refine vv_iload_n (q := 55) X 3 dX8_cutIntoTokens_54 rfl rfl rfl ?_
          refine vv_iload_n (q := 56) X 0 dX8_cutIntoTokens_55 rfl rfl rfl ?_
          refine vv_cVi (q := 59) (C := RX8) X 1 8 [.int x2, .int r5] (kX8_tokenOf l D X.2.2.1 h) (cwV 2 X.1.2.2.2.2 gX8_cutIntoTokens_X8_tokenOf rfl rfl rfl (by decide +kernel) ⟨Nat.le_of_ble_eq_true rfl, Nat.le_of_ble_eq_true rfl⟩) (Nat.le_of_ble_eq_true rfl) rfl rfl rfl rfl (Nat.le_of_ble_eq_true rfl) dX8_cutIntoTokens_56 rfl (fun r8 u9 h9 => ?_)
          obtain ⟨h9, hu9⟩ := h9
          subst u9
          have h := h9
          obtain ⟨hin9, h⟩ := h
          refine vv_iast (q := 60) X 3 301 (Nat.le_of_ble_eq_true rfl) (fun _ => rfl) hin9 dX8_cutIntoTokens_59 rfl ?_
          refine vv_nm (fun σ10 hσ10 => ?_)
          have h := h σ10 hσ10
          refine vv_aload_n (q := 61) X 1 dX8_cutIntoTokens_60 rfl rfl rfl ?_
          refine vv_getf (q := 64) (ref := "HalfLadders$Text") (C := RX8) (T := TX8) (N := 5) X 1 8 4 (Nat.le_of_ble_eq_true rfl) rfl rfl (Nat.le_of_ble_eq_true rfl) (fun _ h => List.mem_cons_of_mem _ (List.mem_append_right _ h)) (List.mem_of_getElem? (i := 4) rfl) rfl rfl dX8_cutIntoTokens_61 rfl ?_
          refine vv_iload_n (q := 65) X 2 dX8_cutIntoTokens_64 rfl rfl rfl ?_
          refine vv_aload_n (q := 66) X 1 dX8_cutIntoTokens_65 rfl rfl rfl ?_
          refine vv_getf (q := 69) (ref := "HalfLadders$Text") (C := RX8) (T := TX8) (N := 5) X 1 8 2 (Nat.le_of_ble_eq_true rfl) rfl rfl (Nat.le_of_ble_eq_true rfl) (fun _ h => List.mem_cons_of_mem _ (List.mem_append_right _ h)) (List.mem_of_getElem? (i := 3) rfl) rfl rfl dX8_cutIntoTokens_66 rfl ?_
          refine vv_iload_n (q := 70) X 2 dX8_cutIntoTokens_69 rfl rfl rfl ?_
          obtain ⟨hin11, h⟩ := h
          refine vv_iald (q := 71) X 3 301 (Nat.le_of_ble_eq_true rfl) (fun _ => rfl) hin11 dX8_cutIntoTokens_70 rfl ?_
          refine vv_iconst (q := 72) X (4 : Int32) dX8_cutIntoTokens_71 (by decide) rfl ?_
          obtain ⟨J12, hJ12, h⟩ := jn_el h
          have tJ12 : ∀ (v13 : Int32), J12 v13 → VV p l e rmX8_cutIntoTokens s m args below meth c (MQ below (va_Qv P (xPost D (wC ad cy zb)) (xA (wC ad cy zb))) args s 0 0 (xA (wC ad cy zb))) 4 D (wC ad cy zb) σ10 85 [(0, .ref (ad 1)), (1, .int x1), (2, .int x2), (3, .int r5)] [.int v13, .int x1, .ref (ad 5)] := by
            intro v13 h
            rw [hJ12] at h
            obtain ⟨hin14, h⟩ := h
            refine vv_iast (q := 86) X 5 301 (Nat.le_of_ble_eq_true rfl) (fun _ => rfl) hin14 dX8_cutIntoTokens_85 rfl ?_
            refine vv_nm (fun σ15 hσ15 => ?_)
            have h := h σ15 hσ15
            obtain ⟨z16, hz16⟩ : ∃ y : Int32, y = x1 + (1 : Int32) := ⟨_, rfl⟩
            have h := h z16 hz16
            refine vv_iinc (v := z16) (lv2 := [(1, .int z16), (0, .ref (ad 1)), (2, .int x2), (3, .int r5)]) (q := 89) X 1 dX8_cutIntoTokens_86 rfl (by rw [hz16]; rfl) (Nat.le_of_ble_eq_true rfl) rfl rfl ?_
            refine vv_iload_n (q := 90) X 3 dX8_cutIntoTokens_89 rfl rfl rfl ?_
            refine vv_iload_n (q := 91) X 2 dX8_cutIntoTokens_90 rfl rfl rfl ?_
            refine vv_iconst (q := 92) X (1 : Int32) dX8_cutIntoTokens_91 (by decide) rfl ?_
            refine vv_iadd (q := 93) X dX8_cutIntoTokens_92 rfl ?_
            refine vv_mmax (q := 96) X (List.mem_of_getElem? (i := 5) rfl) (List.mem_of_getElem? (i := 6) rfl) (List.mem_of_getElem? (i := 7) rfl) (List.mem_of_getElem? (i := 8) rfl) (Nat.le_of_ble_eq_true rfl) (Nat.le_of_ble_eq_true rfl) dX8_cutIntoTokens_93 rfl ?_
            refine vv_topi (fun z17 hz17 => ?_)
            have h := h z17 hz17
            refine vv_istore_n (lv2 := [(2, .int z17), (1, .int z16), (0, .ref (ad 1)), (3, .int r5)]) (q := 97) X dX8_cutIntoTokens_96 rfl (Nat.le_of_ble_eq_true rfl) rfl rfl ?_
            refine vv_goto X 4 dX8_cutIntoTokens_97 (by decide) ?_
            refine vv_sub (lv' := [(0, .ref (ad 1)), (1, .int z16), (2, .int z17)]) [2, 1, 0] rfl ?_
            exact ih σ15 z16 z17 h
          refine vv_icmp_ne (q := 75) X 84 dX8_cutIntoTokens_72 (by decide) rfl (fun c18 => ?_) (fun c18 => ?_)
          · have h := h.1 c18
            refine vv_iconst (q := 85) X (0 : Int32) dX8_cutIntoTokens_84 (by decide) rfl ?_
            refine vv_sub (lv' := [(0, .ref (ad 1)), (1, .int x1), (2, .int x2), (3, .int r5)]) [1, 2, 3, 0] rfl ?_
            exact tJ12 (0 : Int32) h
          · have h := h.2 c18
            refine vv_aload_n (q := 76) X 1 dX8_cutIntoTokens_75 rfl rfl rfl ?_
            refine vv_iload_n (q := 77) X 3 dX8_cutIntoTokens_76 rfl rfl rfl ?_
            refine vv_iload_n (q := 78) X 0 dX8_cutIntoTokens_77 rfl rfl rfl ?_
            refine vv_cVi (q := 81) (C := RX8) X 1 8 [.int x2, .int r5] (kX8_numberAt l D X.2.2.1 h) (cwV 2 X.1.2.2.2.2 gX8_cutIntoTokens_X8_numberAt rfl rfl rfl (by decide +kernel) ⟨Nat.le_of_ble_eq_true rfl, Nat.le_of_ble_eq_true rfl⟩) (Nat.le_of_ble_eq_true rfl) rfl rfl rfl rfl (Nat.le_of_ble_eq_true rfl) dX8_cutIntoTokens_78 rfl (fun r19 u9 h9 => ?_)
            obtain ⟨h9, hu9⟩ := h9
            subst u9
            have h := h9
            refine vv_goto X 85 dX8_cutIntoTokens_81 (by decide) ?_
            refine vv_sub (lv' := [(0, .ref (ad 1)), (1, .int x1), (2, .int x2), (3, .int r5)]) [1, 2, 3, 0] rfl ?_
            exact tJ12 r19 h
        · have h := h.2 c4
          obtain ⟨z20, hz20⟩ : ∃ y : Int32, y = x2 + (1 : Int32) := ⟨_, rfl⟩
          have h := h z20 hz20
          refine vv_iinc (v := z20) (lv2 := [(2, .int z20), (0, .ref (ad 1)), (1, .int x1)]) (q := 32) X 2 dX8_cutIntoTokens_29 rfl (by rw [hz20]; rfl) (Nat.le_of_ble_eq_true rfl) rfl rfl ?_
          refine vv_goto X 4 dX8_cutIntoTokens_32 (by decide) ?_
          refine vv_sub (lv' := [(0, .ref (ad 1)), (1, .int x1), (2, .int z20)]) [1, 2, 0] rfl ?_
          exact ih σ x1 z20 h

def wX8_cutIntoTokens (σ : St)  (P : St → Prop) : Prop :=
∃ n27 : Nat, wLX8_cutIntoTokens_4 (fun (σ22 : St) (y21 : Int32) =>
vp_in y21 301 ∧
∀ σ24 : St, σ24 = sI σ22 3 y21.toNatClampNeg (6 : Int32) →
vp_in y21 301 ∧
∀ σ26 : St, σ26 = sI σ24 4 y21.toNatClampNeg (σ24.1 1 1) →
P σ26) P n27 σ (0 : Int32) (0 : Int32)

set_option maxHeartbeats 8000000 in
set_option maxRecDepth 100000 in
theorem kX8_cutIntoTokens (l : Launch) (D : va_G) {cy : Nat → ClassId} {ad : Nat → Nat} {zb : Nat → Nat} (hw : xOk (wC ad cy zb)) {σ : St}  {P : St → Prop} (h : wX8_cutIntoTokens σ  P) : MV l yX8_cutIntoTokens wsX8_cutIntoTokens rmX8_cutIntoTokens D cy (wC ad cy zb) [.ref (ad 1)] σ P := by
  unfold MV
  refine vv_met (cc := cX8_cutIntoTokens) (maxL := 4) (ret := none) hw (by decide +kernel) rfl [.ref (ad 1)] (Nat.le_of_ble_eq_true rfl) ?_
  intro p e s m args below meth c X hr
  have X : XX p s m args meth c cX8_cutIntoTokens 4 D cy (wC ad cy zb) wsX8_cutIntoTokens RX8 := X
  refine vv_sub (lv' := [(0, .ref (ad 1))]) [0] rfl ?_
  rw [wX8_cutIntoTokens] at h
  refine vv_iconst (q := 1) X (0 : Int32) dX8_cutIntoTokens_0 (by decide) rfl ?_
  refine vv_istore_n (lv2 := [(1, .int (0 : Int32)), (0, .ref (ad 1))]) (q := 2) X dX8_cutIntoTokens_1 rfl (Nat.le_of_ble_eq_true rfl) rfl rfl ?_
  refine vv_iconst (q := 3) X (0 : Int32) dX8_cutIntoTokens_2 (by decide) rfl ?_
  refine vv_istore_n (lv2 := [(2, .int (0 : Int32)), (1, .int (0 : Int32)), (0, .ref (ad 1))]) (q := 4) X dX8_cutIntoTokens_3 rfl (Nat.le_of_ble_eq_true rfl) rfl rfl ?_
  obtain ⟨n27, h⟩ := h
  refine vv_sub (lv' := [(0, .ref (ad 1)), (1, .int (0 : Int32)), (2, .int (0 : Int32))]) [2, 1, 0] rfl ?_
  refine twLX8_cutIntoTokens_4 X hr  _ ?_ n27 σ (0 : Int32) (0 : Int32) h
  intro σ22 y21 h
  refine vv_aload_n (q := 101) X 0 dX8_cutIntoTokens_100 rfl rfl rfl ?_
  refine vv_getf (q := 104) (ref := "HalfLadders$Text") (C := RX8) (T := TX8) (N := 5) X 1 8 2 (Nat.le_of_ble_eq_true rfl) rfl rfl (Nat.le_of_ble_eq_true rfl) (fun _ h => List.mem_cons_of_mem _ (List.mem_append_right _ h)) (List.mem_of_getElem? (i := 3) rfl) rfl rfl dX8_cutIntoTokens_101 rfl ?_
  refine vv_iload_n (q := 105) X 1 dX8_cutIntoTokens_104 rfl rfl rfl ?_
  refine vv_bipush (q := 107) X (6 : Int32) dX8_cutIntoTokens_105 (by decide) rfl ?_
  obtain ⟨hin23, h⟩ := h
  refine vv_iast (q := 108) X 3 301 (Nat.le_of_ble_eq_true rfl) (fun _ => rfl) hin23 dX8_cutIntoTokens_107 rfl ?_
  refine vv_nm (fun σ24 hσ24 => ?_)
  have h := h σ24 hσ24
  refine vv_aload_n (q := 109) X 0 dX8_cutIntoTokens_108 rfl rfl rfl ?_
  refine vv_getf (q := 112) (ref := "HalfLadders$Text") (C := RX8) (T := TX8) (N := 5) X 1 8 3 (Nat.le_of_ble_eq_true rfl) rfl rfl (Nat.le_of_ble_eq_true rfl) (fun _ h => List.mem_cons_of_mem _ (List.mem_append_right _ h)) (List.mem_of_getElem? (i := 2) rfl) rfl rfl dX8_cutIntoTokens_109 rfl ?_
  refine vv_iload_n (q := 113) X 1 dX8_cutIntoTokens_112 rfl rfl rfl ?_
  refine vv_aload_n (q := 114) X 0 dX8_cutIntoTokens_113 rfl rfl rfl ?_
  refine vv_getf (q := 117) (ref := "HalfLadders$Text") (C := RX8) (T := TX8) (N := 5) X 1 8 1 (Nat.le_of_ble_eq_true rfl) rfl rfl (Nat.le_of_ble_eq_true rfl) (fun _ h => List.mem_cons_of_mem _ (List.mem_append_right _ h)) (List.mem_of_getElem? (i := 1) rfl) rfl rfl dX8_cutIntoTokens_114 rfl ?_
  obtain ⟨hin25, h⟩ := h
  refine vv_iast (q := 118) X 4 301 (Nat.le_of_ble_eq_true rfl) (fun _ => rfl) hin25 dX8_cutIntoTokens_117 rfl ?_
  refine vv_nm (fun σ26 hσ26 => ?_)
  have h := h σ26 hσ26
  exact vv_vret X hr dX8_cutIntoTokens_118 h

/-! X8_room: room()I -/
def rmX8_room : Room := { frames := 0, cells := 0, slots := 0, locals := 0 }
def wX8_room (σ : St)  (P : Int32 → Prop) : Prop :=
P ((300 : Int32) - (σ.1 1 1))

set_option maxHeartbeats 8000000 in
set_option maxRecDepth 100000 in
theorem kX8_room (l : Launch) (D : va_G) {cy : Nat → ClassId} {ad : Nat → Nat} {zb : Nat → Nat} (hw : xOk (wC ad cy zb)) {σ : St}  {P : Int32 → Prop} (h : wX8_room σ  P) : MI l yX8_room wsX8_room rmX8_room D cy (wC ad cy zb) [.ref (ad 1)] σ (fun r u => P r ∧ u = σ) := by
  unfold MI
  refine vv_met (cc := cX8_room) (maxL := 1) (ret := (some .int)) hw (by decide +kernel) rfl [.ref (ad 1)] (Nat.le_of_ble_eq_true rfl) ?_
  intro p e s m args below meth c X hr
  have X : XX p s m args meth c cX8_room 1 D cy (wC ad cy zb) wsX8_room RX8 := X
  refine vv_sub (lv' := [(0, .ref (ad 1))]) [0] rfl ?_
  rw [wX8_room] at h
  refine vv_sipush (q := 3) X (300 : Int32) dX8_room_0 (by decide) rfl ?_
  refine vv_aload_n (q := 4) X 0 dX8_room_3 rfl rfl rfl ?_
  refine vv_getf (q := 7) (ref := "HalfLadders$Text") (C := RX8) (T := TX8) (N := 5) X 1 8 1 (Nat.le_of_ble_eq_true rfl) rfl rfl (Nat.le_of_ble_eq_true rfl) (fun _ h => List.mem_cons_of_mem _ (List.mem_append_right _ h)) (List.mem_of_getElem? (i := 1) rfl) rfl rfl dX8_room_4 rfl ?_
  refine vv_isub (q := 8) X dX8_room_7 rfl ?_
  exact vv_iret X hr dX8_room_8 ⟨h, rfl⟩

/-! X8_add: add(B)V -/
def rmX8_add : Room := { frames := 0, cells := 0, slots := 0, locals := 0 }
def wX8_add (σ : St) (a1 : Int32) (P : St → Prop) : Prop :=
((300 : Int32) ≤ (σ.1 1 1) →
P σ) ∧
(¬ (300 : Int32) ≤ (σ.1 1 1) →
vp_in (σ.1 1 1) 300 ∧
∀ σ3 : St, σ3 = sI σ 2 (σ.1 1 1).toNatClampNeg (vp_nar .byte a1) →
∀ σ4 : St, σ4 = sI σ3 1 1 ((σ3.1 1 1) + (1 : Int32)) →
P σ4)

set_option maxHeartbeats 8000000 in
set_option maxRecDepth 100000 in
theorem kX8_add (l : Launch) (D : va_G) {cy : Nat → ClassId} {ad : Nat → Nat} {zb : Nat → Nat} (hw : xOk (wC ad cy zb)) {σ : St} {a1 : Int32} {P : St → Prop} (h : wX8_add σ a1 P) : MV l yX8_add wsX8_add rmX8_add D cy (wC ad cy zb) [.ref (ad 1), .int a1] σ P := by
  unfold MV
  refine vv_met (cc := cX8_add) (maxL := 2) (ret := none) hw (by decide +kernel) rfl [.ref (ad 1), .int a1] (Nat.le_of_ble_eq_true rfl) ?_
  intro p e s m args below meth c X hr
  have X : XX p s m args meth c cX8_add 2 D cy (wC ad cy zb) wsX8_add RX8 := X
  refine vv_sub (lv' := [(0, .ref (ad 1)), (1, .int a1)]) [0, 1] rfl ?_
  rw [wX8_add] at h
  refine vv_aload_n (q := 1) X 0 dX8_add_0 rfl rfl rfl ?_
  refine vv_getf (q := 4) (ref := "HalfLadders$Text") (C := RX8) (T := TX8) (N := 5) X 1 8 1 (Nat.le_of_ble_eq_true rfl) rfl rfl (Nat.le_of_ble_eq_true rfl) (fun _ h => List.mem_cons_of_mem _ (List.mem_append_right _ h)) (List.mem_of_getElem? (i := 1) rfl) rfl rfl dX8_add_1 rfl ?_
  refine vv_sipush (q := 7) X (300 : Int32) dX8_add_4 (by decide) rfl ?_
  refine vv_icmp_ge (q := 10) X 30 dX8_add_7 (by decide) rfl (fun c1 => ?_) (fun c1 => ?_)
  · have h := h.1 c1
    exact vv_vret X hr dX8_add_30 h
  · have h := h.2 c1
    refine vv_aload_n (q := 11) X 0 dX8_add_10 rfl rfl rfl ?_
    refine vv_getf (q := 14) (ref := "HalfLadders$Text") (C := RX8) (T := TX8) (N := 5) X 1 8 0 (Nat.le_of_ble_eq_true rfl) rfl rfl (Nat.le_of_ble_eq_true rfl) (fun _ h => List.mem_cons_of_mem _ (List.mem_append_right _ h)) (List.mem_of_getElem? (i := 2) rfl) rfl rfl dX8_add_11 rfl ?_
    refine vv_aload_n (q := 15) X 0 dX8_add_14 rfl rfl rfl ?_
    refine vv_getf (q := 18) (ref := "HalfLadders$Text") (C := RX8) (T := TX8) (N := 5) X 1 8 1 (Nat.le_of_ble_eq_true rfl) rfl rfl (Nat.le_of_ble_eq_true rfl) (fun _ h => List.mem_cons_of_mem _ (List.mem_append_right _ h)) (List.mem_of_getElem? (i := 1) rfl) rfl rfl dX8_add_15 rfl ?_
    refine vv_iload_n (q := 19) X 1 dX8_add_18 rfl rfl rfl ?_
    obtain ⟨hin2, h⟩ := h
    refine vv_bast (q := 20) X 2 300 (Nat.le_of_ble_eq_true rfl) (fun _ => rfl) hin2 dX8_add_19 rfl ?_
    refine vv_nm (fun σ3 hσ3 => ?_)
    have h := h σ3 hσ3
    refine vv_aload_n (q := 21) X 0 dX8_add_20 rfl rfl rfl ?_
    refine vv_dup (q := 22) X dX8_add_21 rfl rfl ?_
    refine vv_getf (q := 25) (ref := "HalfLadders$Text") (C := RX8) (T := TX8) (N := 5) X 1 8 1 (Nat.le_of_ble_eq_true rfl) rfl rfl (Nat.le_of_ble_eq_true rfl) (fun _ h => List.mem_cons_of_mem _ (List.mem_append_right _ h)) (List.mem_of_getElem? (i := 1) rfl) rfl rfl dX8_add_22 rfl ?_
    refine vv_iconst (q := 26) X (1 : Int32) dX8_add_25 (by decide) rfl ?_
    refine vv_iadd (q := 27) X dX8_add_26 rfl ?_
    refine vv_putf (q := 30) (ref := "HalfLadders$Text") (C := RX8) (T := TX8) (N := 5) X 1 8 1 tyX8 tyX8_ok nmX8 (Nat.le_of_ble_eq_true rfl) rfl rfl rfl (Nat.le_of_ble_eq_true rfl) rfl (fun _ h => List.mem_cons_of_mem _ (List.mem_append_right _ h)) (List.mem_of_getElem? (i := 1) rfl) rfl rfl rfl dX8_add_27 rfl ?_
    refine vv_nm (fun σ4 hσ4 => ?_)
    have h := h σ4 hσ4
    exact vv_vret X hr dX8_add_30 h

