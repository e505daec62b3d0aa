/-! J0_coder_7d493: coder()B -/
def rmJ0_coder_7d493 : Room := { frames := 0, cells := 0, slots := 0, locals := 0 }
def wJ0_coder_7d493 (σ : St) (a0 : Nat) (P : Int32 → Prop) : Prop :=
isS a0 ∧
P (0 : Int32)

set_option maxHeartbeats 8000000 in
set_option maxRecDepth 100000 in
theorem kJ0_coder_7d493 (l : Launch) (D : va_G) {cy : Nat → ClassId} {ad : Nat → Nat} {zb : Nat → Nat} (hw : xOk (wC ad cy zb)) {σ : St} {a0 : Nat} {P : Int32 → Prop} (h : wJ0_coder_7d493 σ a0 P) : MI l yJ0_coder_7d493 wsJ0_coder_7d493 rmJ0_coder_7d493 D cy (wC ad cy zb) [.ref (zb (10 + a0))] σ (fun r u => P r ∧ u = σ) := by
  unfold MI
  refine vv_met (cc := cJ0_coder_7d493) (maxL := 1) (ret := (some .byte)) hw (by decide +kernel) rfl [.ref (zb (10 + a0))] (Nat.le_of_ble_eq_true rfl) ?_
  intro p e s m args below meth c X hr
  have X : XX p s m args meth c cJ0_coder_7d493 1 D cy (wC ad cy zb) wsJ0_coder_7d493 RJ0 := X
  refine vv_sub (lv' := [(0, .ref (zb (10 + a0)))]) [0] rfl ?_
  rw [wJ0_coder_7d493] at h
  obtain ⟨ha0, h⟩ := h
  refine vv_scomp (q := 3) X (List.mem_of_getElem? (i := 1) rfl) dJ0_coder_7d493_0 rfl ?_
  refine vv_if_eq (q := 6) X 13 dJ0_coder_7d493_3 (by decide) rfl (fun c1 => absurd c1 (by decide)) (fun c1 => ?_)
  refine vv_aload_n (q := 7) X 0 dJ0_coder_7d493_6 rfl rfl rfl ?_
  refine vv_scod (q := 10) X a0 ha0 (List.mem_of_getElem? (i := 2) rfl) dJ0_coder_7d493_7 rfl ?_
  refine vv_goto X 14 dJ0_coder_7d493_10 (by decide) ?_
  exact vv_zret X hr rfl dJ0_coder_7d493_14 ⟨h, rfl⟩

/-! J0_length_8abf5: length()I -/
def rmJ0_length_8abf5 : Room := { frames := 1, cells := 0, slots := 0, locals := 20 }
def wJ0_length_8abf5 (σ : St) (a0 : Nat) (P : Int32 → Prop) : Prop :=
isS a0 ∧
wJ0_coder_7d493 σ a0 (fun r1 : Int32 =>
P ((Int32.ofNat (zSlen.getD a0 0)) >>> (r1 &&& 31)))

set_option maxHeartbeats 8000000 in
set_option maxRecDepth 100000 in
theorem kJ0_length_8abf5 (l : Launch) (D : va_G) {cy : Nat → ClassId} {ad : Nat → Nat} {zb : Nat → Nat} (hw : xOk (wC ad cy zb)) {σ : St} {a0 : Nat} {P : Int32 → Prop} (h : wJ0_length_8abf5 σ a0 P) : MI l yJ0_length_8abf5 wsJ0_length_8abf5 rmJ0_length_8abf5 D cy (wC ad cy zb) [.ref (zb (10 + a0))] σ (fun r u => P r ∧ u = σ) := by
  unfold MI
  refine vv_met (cc := cJ0_length_8abf5) (maxL := 1) (ret := (some .int)) hw (by decide +kernel) rfl [.ref (zb (10 + a0))] (Nat.le_of_ble_eq_true rfl) ?_
  intro p e s m args below meth c X hr
  have X : XX p s m args meth c cJ0_length_8abf5 1 D cy (wC ad cy zb) wsJ0_length_8abf5 RJ0 := X
  refine vv_sub (lv' := [(0, .ref (zb (10 + a0)))]) [0] rfl ?_
  rw [wJ0_length_8abf5] at h
  obtain ⟨ha0, h⟩ := h
  refine vv_aload_n (q := 1) X 0 dJ0_length_8abf5_0 rfl rfl rfl ?_
  refine vv_sval (q := 4) X a0 ha0 (List.mem_of_getElem? (i := 1) rfl) dJ0_length_8abf5_1 rfl ?_
  refine vv_slen (q := 5) X a0 ha0 dJ0_length_8abf5_4 rfl ?_
  refine vv_aload_n (q := 6) X 0 dJ0_length_8abf5_5 rfl rfl rfl ?_
  refine vv_cVis (q := 9) X a0 ha0 [] (kJ0_coder_7d493 l D X.2.2.1 h) (cwV 0 X.1.2.2.2.2 gJ0_length_8abf5_J0_coder_7d493 rfl rfl rfl (by decide +kernel) ⟨Nat.le_of_ble_eq_true rfl, Nat.le_of_ble_eq_true rfl⟩) rfl rfl (Nat.le_of_ble_eq_true rfl) dJ0_length_8abf5_6 rfl (fun r1 u9 h9 => ?_)
  obtain ⟨h9, hu9⟩ := h9
  subst u9
  have h := h9
  refine vv_ishr (q := 10) X dJ0_length_8abf5_9 rfl ?_
  exact vv_iret X hr dJ0_length_8abf5_10 ⟨h, rfl⟩

/-! J0_isLatin1_aae02: isLatin1()Z -/
def rmJ0_isLatin1_aae02 : Room := { frames := 0, cells := 0, slots := 0, locals := 0 }
def wJ0_isLatin1_aae02 (σ : St) (a0 : Nat) (P : Int32 → Prop) : Prop :=
isS a0 ∧
P (1 : Int32)

set_option maxHeartbeats 8000000 in
set_option maxRecDepth 100000 in
theorem kJ0_isLatin1_aae02 (l : Launch) (D : va_G) {cy : Nat → ClassId} {ad : Nat → Nat} {zb : Nat → Nat} (hw : xOk (wC ad cy zb)) {σ : St} {a0 : Nat} {P : Int32 → Prop} (h : wJ0_isLatin1_aae02 σ a0 P) : MI l yJ0_isLatin1_aae02 wsJ0_isLatin1_aae02 rmJ0_isLatin1_aae02 D cy (wC ad cy zb) [.ref (zb (10 + a0))] σ (fun r u => P r ∧ u = σ) := by
  unfold MI
  refine vv_met (cc := cJ0_isLatin1_aae02) (maxL := 1) (ret := (some .boolean)) hw (by decide +kernel) rfl [.ref (zb (10 + a0))] (Nat.le_of_ble_eq_true rfl) ?_
  intro p e s m args below meth c X hr
  have X : XX p s m args meth c cJ0_isLatin1_aae02 1 D cy (wC ad cy zb) wsJ0_isLatin1_aae02 RJ0 := X
  refine vv_sub (lv' := [(0, .ref (zb (10 + a0)))]) [0] rfl ?_
  rw [wJ0_isLatin1_aae02] at h
  obtain ⟨ha0, h⟩ := h
  refine vv_scomp (q := 3) X (List.mem_of_getElem? (i := 1) rfl) dJ0_isLatin1_aae02_0 rfl ?_
  refine vv_if_eq (q := 6) X 17 dJ0_isLatin1_aae02_3 (by decide) rfl (fun c1 => absurd c1 (by decide)) (fun c1 => ?_)
  refine vv_aload_n (q := 7) X 0 dJ0_isLatin1_aae02_6 rfl rfl rfl ?_
  refine vv_scod (q := 10) X a0 ha0 (List.mem_of_getElem? (i := 2) rfl) dJ0_isLatin1_aae02_7 rfl ?_
  refine vv_if_ne (q := 13) X 17 dJ0_isLatin1_aae02_10 (by decide) rfl (fun c2 => absurd c2 (by decide)) (fun c2 => ?_)
  refine vv_iconst (q := 14) X (1 : Int32) dJ0_isLatin1_aae02_13 (by decide) rfl ?_
  refine vv_goto X 18 dJ0_isLatin1_aae02_14 (by decide) ?_
  exact vv_zret X hr rfl dJ0_isLatin1_aae02_18 ⟨h, rfl⟩

/-! J3_checkIndex_8e157: checkIndex(IILjava/util/function/BiFunction;)I -/
def rmJ3_checkIndex_8e157 : Room := { frames := 0, cells := 0, slots := 0, locals := 0 }
def wJ3_checkIndex_8e157 (σ : St) (a0 : Int32) (a1 : Int32) (P : Int32 → Prop) : Prop :=
jn (False) (fun J1 : Prop =>
(a0 < 0 →
J1) ∧
(¬ a0 < 0 →
(a0 < a1 →
P a0) ∧
(¬ a0 < a1 →
J1)))

set_option maxHeartbeats 8000000 in
set_option maxRecDepth 100000 in
theorem kJ3_checkIndex_8e157 (l : Launch) (D : va_G) {cy : Nat → ClassId} {ad : Nat → Nat} {zb : Nat → Nat} (hw : xOk (wC ad cy zb)) {σ : St} {a0 : Int32} {a1 : Int32} {P : Int32 → Prop} {v : Value} (hv : v = .null ∨ ∃ a, v = .ref a) (h : wJ3_checkIndex_8e157 σ a0 a1 P) : MI l yJ3_checkIndex_8e157 wsJ3_checkIndex_8e157 rmJ3_checkIndex_8e157 D cy (wC ad cy zb) [.int a0, .int a1, v] σ (fun r u => P r ∧ u = σ) := by
  unfold MI
  rcases hv with rfl | ⟨a, rfl⟩
  · refine vv_met (cc := cJ3_checkIndex_8e157) (maxL := 3) (ret := (some .int)) hw (by decide +kernel) rfl [.int a0, .int a1, .null] (Nat.le_of_ble_eq_true rfl) ?_
    intro p e s m args below meth c X hr
    have X : XX p s m args meth c cJ3_checkIndex_8e157 3 D cy (wC ad cy zb) wsJ3_checkIndex_8e157 RJ3 := X
    refine vv_sub (lv' := [(0, .int a0), (1, .int a1)]) [0, 1] rfl ?_
    rw [wJ3_checkIndex_8e157] at h
    refine vv_iload_n (q := 1) X 0 dJ3_checkIndex_8e157_0 rfl rfl rfl ?_
    obtain ⟨J1, hJ1, h⟩ := jn_el h
    have tJ1 : J1 → VV p l e rmJ3_checkIndex_8e157 s m args below meth c (MQ below (va_Qi (fun r u => P r ∧ u = σ) (xPost D (wC ad cy zb)) (xA (wC ad cy zb))) args s 0 0 (xA (wC ad cy zb))) 3 D (wC ad cy zb) σ 9 [(0, .int a0), (1, .int a1)] [] := by
      intro h
      rw [hJ1] at h
      exact h.elim
    refine vv_if_lt (q := 4) X 9 dJ3_checkIndex_8e157_1 (by decide) rfl (fun c2 => ?_) (fun c2 => ?_)
    · have h := h.1 c2
      exact tJ1  h
    · have h := h.2 c2
      refine vv_iload_n (q := 5) X 0 dJ3_checkIndex_8e157_4 rfl rfl rfl ?_
      refine vv_iload_n (q := 6) X 1 dJ3_checkIndex_8e157_5 rfl rfl rfl ?_
      refine vv_icmp_lt (q := 9) X 16 dJ3_checkIndex_8e157_6 (by decide) rfl (fun c3 => ?_) (fun c3 => ?_)
      · have h := h.1 c3
        refine vv_iload_n (q := 17) X 0 dJ3_checkIndex_8e157_16 rfl rfl rfl ?_
        exact vv_iret X hr dJ3_checkIndex_8e157_17 ⟨h, rfl⟩
      · have h := h.2 c3
        exact tJ1  h
  · refine vv_met (cc := cJ3_checkIndex_8e157) (maxL := 3) (ret := (some .int)) hw (by decide +kernel) rfl [.int a0, .int a1, .ref a] (Nat.le_of_ble_eq_true rfl) ?_
    intro p e s m args below meth c X hr
    have X : XX p s m args meth c cJ3_checkIndex_8e157 3 D cy (wC ad cy zb) wsJ3_checkIndex_8e157 RJ3 := X
    refine vv_sub (lv' := [(0, .int a0), (1, .int a1)]) [0, 1] rfl ?_
    rw [wJ3_checkIndex_8e157] at h
    refine vv_iload_n (q := 1) X 0 dJ3_checkIndex_8e157_0 rfl rfl rfl ?_
    obtain ⟨J1, hJ1, h⟩ := jn_el h
    have tJ1 : J1 → VV p l e rmJ3_checkIndex_8e157 s m args below meth c (MQ below (va_Qi (fun r u => P r ∧ u = σ) (xPost D (wC ad cy zb)) (xA (wC ad cy zb))) args s 0 0 (xA (wC ad cy zb))) 3 D (wC ad cy zb) σ 9 [(0, .int a0), (1, .int a1)] [] := by
      intro h
      rw [hJ1] at h
      exact h.elim
    refine vv_if_lt (q := 4) X 9 dJ3_checkIndex_8e157_1 (by decide) rfl (fun c2 => ?_) (fun c2 => ?_)
    · have h := h.1 c2
      exact tJ1  h
    · have h := h.2 c2
      refine vv_iload_n (q := 5) X 0 dJ3_checkIndex_8e157_4 rfl rfl rfl ?_
      refine vv_iload_n (q := 6) X 1 dJ3_checkIndex_8e157_5 rfl rfl rfl ?_
      refine vv_icmp_lt (q := 9) X 16 dJ3_checkIndex_8e157_6 (by decide) rfl (fun c3 => ?_) (fun c3 => ?_)
      · have h := h.1 c3
        refine vv_iload_n (q := 17) X 0 dJ3_checkIndex_8e157_16 rfl rfl rfl ?_
        exact vv_iret X hr dJ3_checkIndex_8e157_17 ⟨h, rfl⟩
      · have h := h.2 c3
        exact tJ1  h
theorem zq_or (zb : Nat → Nat) : zq zb = .null ∨ ∃ a, zq zb = .ref a := by
  unfold zq
  split
  · exact Or.inl rfl
  · exact Or.inr ⟨_, rfl⟩

/-! J0_checkIndex_df160: checkIndex(II)V -/
def rmJ0_checkIndex_df160 : Room := { frames := 1, cells := 0, slots := 0, locals := 22 }
def wJ0_checkIndex_df160 (σ : St) (a0 : Int32) (a1 : Int32) (P : Prop) : Prop :=
wJ3_checkIndex_8e157 σ a0 a1 (fun r1 : Int32 =>
P)

set_option maxHeartbeats 8000000 in
set_option maxRecDepth 100000 in
theorem kJ0_checkIndex_df160 (l : Launch) (D : va_G) {cy : Nat → ClassId} {ad : Nat → Nat} {zb : Nat → Nat} (hw : xOk (wC ad cy zb)) {σ : St} {a0 : Int32} {a1 : Int32} {P : Prop} (h : wJ0_checkIndex_df160 σ a0 a1 P) : MV l yJ0_checkIndex_df160 wsJ0_checkIndex_df160 rmJ0_checkIndex_df160 D cy (wC ad cy zb) [.int a0, .int a1] σ (fun u => P ∧ u = σ) := by
  unfold MV
  refine vv_met (cc := cJ0_checkIndex_df160) (maxL := 2) (ret := none) hw (by decide +kernel) rfl [.int a0, .int a1] (Nat.le_of_ble_eq_true rfl) ?_
  intro p e s m args below meth c X hr
  have X : XX p s m args meth c cJ0_checkIndex_df160 2 D cy (wC ad cy zb) wsJ0_checkIndex_df160 RJ0 := X
  refine vv_sub (lv' := [(0, .int a0), (1, .int a1)]) [0, 1] rfl ?_
  rw [wJ0_checkIndex_df160] at h
  refine vv_iload_n (q := 1) X 0 dJ0_checkIndex_df160_0 rfl rfl rfl ?_
  refine vv_iload_n (q := 2) X 1 dJ0_checkIndex_df160_1 rfl rfl rfl ?_
  refine vv_sioo (q := 5) X (List.mem_of_getElem? (i := 1) rfl) dJ0_checkIndex_df160_2 rfl ?_
  refine vv_cSi (q := 8) X [.int a0, .int a1, zq zb] (kJ3_checkIndex_8e157 l D X.2.2.1 (zq_or zb) h) (va_cwS 3 X.1.2.2.2.2 gJ0_checkIndex_df160_J3_checkIndex_8e157 rfl rfl rfl (by decide +kernel) ⟨Nat.le_of_ble_eq_true rfl, Nat.le_of_ble_eq_true rfl⟩) rfl rfl (Nat.le_of_ble_eq_true rfl) dJ0_checkIndex_df160_5 rfl (fun r1 u9 h9 => ?_)
  obtain ⟨h9, hu9⟩ := h9
  subst u9
  have h := h9
  refine vv_pop (q := 9) X dJ0_checkIndex_df160_8 rfl rfl ?_
  exact vv_vret X hr dJ0_checkIndex_df160_9 ⟨h, rfl⟩

/-! J1_charAt_3b067: charAt([BI)C -/
def rmJ1_charAt_3b067 : Room := { frames := 2, cells := 0, slots := 0, locals := 43 }
def wJ1_charAt_3b067 (σ : St) (a0 : Nat) (a1 : Int32) (P : Int32 → Prop) : Prop :=
isS a0 ∧
wJ0_checkIndex_df160 σ a1 (Int32.ofNat (zSlen.getD a0 0)) (
vp_in a1 (zSlen.getD a0 0) ∧
narrow .char (.int (((((zSbyt.getD a0 []).getD a1.toNatClampNeg 0) &&& (255 : Int32)).toUInt32 % 65536).toInt32)) = .int (((((zSbyt.getD a0 []).getD a1.toNatClampNeg 0) &&& (255 : Int32)).toUInt32 % 65536).toInt32) ∧ P (((((zSbyt.getD a0 []).getD a1.toNatClampNeg 0) &&& (255 : Int32)).toUInt32 % 65536).toInt32))

set_option maxHeartbeats 8000000 in
set_option maxRecDepth 100000 in
theorem kJ1_charAt_3b067 (l : Launch) (D : va_G) {cy : Nat → ClassId} {ad : Nat → Nat} {zb : Nat → Nat} (hw : xOk (wC ad cy zb)) {σ : St} {a0 : Nat} {a1 : Int32} {P : Int32 → Prop} (h : wJ1_charAt_3b067 σ a0 a1 P) : MI l yJ1_charAt_3b067 wsJ1_charAt_3b067 rmJ1_charAt_3b067 D cy (wC ad cy zb) [.ref (zb (20 + a0)), .int a1] σ (fun r u => P r ∧ u = σ) := by
  unfold MI
  refine vv_met (cc := cJ1_charAt_3b067) (maxL := 2) (ret := (some .char)) hw (by decide +kernel) rfl [.ref (zb (20 + a0)), .int a1] (Nat.le_of_ble_eq_true rfl) ?_
  intro p e s m args below meth c X hr
  have X : XX p s m args meth c cJ1_charAt_3b067 2 D cy (wC ad cy zb) wsJ1_charAt_3b067 RJ1 := X
  refine vv_sub (lv' := [(0, .ref (zb (20 + a0))), (1, .int a1)]) [0, 1] rfl ?_
  rw [wJ1_charAt_3b067] at h
  obtain ⟨ha0, h⟩ := h
  refine vv_iload_n (q := 1) X 1 dJ1_charAt_3b067_0 rfl rfl rfl ?_
  refine vv_aload_n (q := 2) X 0 dJ1_charAt_3b067_1 rfl rfl rfl ?_
  refine vv_slen (q := 3) X a0 ha0 dJ1_charAt_3b067_2 rfl ?_
  refine vv_cSv (q := 6) X [.int a1, .int (Int32.ofNat (zSlen.getD a0 0))] (kJ0_checkIndex_df160 l D X.2.2.1 h) (va_cwS 2 X.1.2.2.2.2 gJ1_charAt_3b067_J0_checkIndex_df160 rfl rfl rfl (by decide +kernel) ⟨Nat.le_of_ble_eq_true rfl, Nat.le_of_ble_eq_true rfl⟩) rfl rfl (Nat.le_of_ble_eq_true rfl) dJ1_charAt_3b067_3 rfl (fun u9 h9 => ?_)
  obtain ⟨h9, hu9⟩ := h9
  subst u9
  have h := h9
  refine vv_aload_n (q := 7) X 0 dJ1_charAt_3b067_6 rfl rfl rfl ?_
  refine vv_iload_n (q := 8) X 1 dJ1_charAt_3b067_7 rfl rfl rfl ?_
  obtain ⟨hin1, h⟩ := h
  refine vv_sbald (q := 9) X a0 ha0 hin1 dJ1_charAt_3b067_8 rfl ?_
  refine vv_sipush (q := 12) X (255 : Int32) dJ1_charAt_3b067_9 (by decide) rfl ?_
  refine vv_iand (q := 13) X dJ1_charAt_3b067_12 rfl ?_
  refine vv_i2c (q := 14) X dJ1_charAt_3b067_13 rfl ?_
  obtain ⟨hn2, h⟩ := h
  exact vv_zret X hr hn2 dJ1_charAt_3b067_14 ⟨h, rfl⟩

/-! J0_charAt_5068e: charAt(I)C -/
def rmJ0_charAt_5068e : Room := { frames := 4, cells := 0, slots := 0, locals := 85 }
def wJ0_charAt_5068e (σ : St) (a0 : Nat) (a1 : Int32) (P : Int32 → Prop) : Prop :=
isS a0 ∧
wJ0_isLatin1_aae02 σ a0 (fun r1 : Int32 =>
(r1 = 0 →
False) ∧
(¬ r1 = 0 →
wJ1_charAt_3b067 σ a0 a1 (fun r3 : Int32 =>
narrow .char (.int r3) = .int r3 ∧ P r3)))

set_option maxHeartbeats 8000000 in
set_option maxRecDepth 100000 in
theorem kJ0_charAt_5068e (l : Launch) (D : va_G) {cy : Nat → ClassId} {ad : Nat → Nat} {zb : Nat → Nat} (hw : xOk (wC ad cy zb)) {σ : St} {a0 : Nat} {a1 : Int32} {P : Int32 → Prop} (h : wJ0_charAt_5068e σ a0 a1 P) : MI l yJ0_charAt_5068e wsJ0_charAt_5068e rmJ0_charAt_5068e D cy (wC ad cy zb) [.ref (zb (10 + a0)), .int a1] σ (fun r u => P r ∧ u = σ) := by
  unfold MI
  refine vv_met (cc := cJ0_charAt_5068e) (maxL := 2) (ret := (some .char)) hw (by decide +kernel) rfl [.ref (zb (10 + a0)), .int a1] (Nat.le_of_ble_eq_true rfl) ?_
  intro p e s m args below meth c X hr
  have X : XX p s m args meth c cJ0_charAt_5068e 2 D cy (wC ad cy zb) wsJ0_charAt_5068e RJ0 := X
  refine vv_sub (lv' := [(0, .ref (zb (10 + a0))), (1, .int a1)]) [0, 1] rfl ?_
  rw [wJ0_charAt_5068e] at h
  obtain ⟨ha0, h⟩ := h
  refine vv_aload_n (q := 1) X 0 dJ0_charAt_5068e_0 rfl rfl rfl ?_
  refine vv_cVis (q := 4) X a0 ha0 [] (kJ0_isLatin1_aae02 l D X.2.2.1 h) (cwV 0 X.1.2.2.2.2 gJ0_charAt_5068e_J0_isLatin1_aae02 rfl rfl rfl (by decide +kernel) ⟨Nat.le_of_ble_eq_true rfl, Nat.le_of_ble_eq_true rfl⟩) rfl rfl (Nat.le_of_ble_eq_true rfl) dJ0_charAt_5068e_1 rfl (fun r1 u9 h9 => ?_)
  obtain ⟨h9, hu9⟩ := h9
  subst u9
  have h := h9
  refine vv_if_eq (q := 7) X 16 dJ0_charAt_5068e_4 (by decide) rfl (fun c2 => ?_) (fun c2 => ?_)
  · have h := h.1 c2
    exact h.elim
  · have h := h.2 c2
    refine vv_aload_n (q := 8) X 0 dJ0_charAt_5068e_7 rfl rfl rfl ?_
    refine vv_sval (q := 11) X a0 ha0 (List.mem_of_getElem? (i := 1) rfl) dJ0_charAt_5068e_8 rfl ?_
    refine vv_iload_n (q := 12) X 1 dJ0_charAt_5068e_11 rfl rfl rfl ?_
    refine vv_cSi (q := 15) X [.ref (zb (20 + a0)), .int a1] (kJ1_charAt_3b067 l D X.2.2.1 h) (va_cwS 2 X.1.2.2.2.2 gJ0_charAt_5068e_J1_charAt_3b067 rfl rfl rfl (by decide +kernel) ⟨Nat.le_of_ble_eq_true rfl, Nat.le_of_ble_eq_true rfl⟩) rfl rfl (Nat.le_of_ble_eq_true rfl) dJ0_charAt_5068e_12 rfl (fun r3 u9 h9 => ?_)
    obtain ⟨h9, hu9⟩ := h9
    subst u9
    have h := h9
    obtain ⟨hn4, h⟩ := h
    exact vv_zret X hr hn4 dJ0_charAt_5068e_15 ⟨h, rfl⟩

/-! J6_numberOfTrailingZeros_0f7a4: numberOfTrailingZeros(I)I -/
def rmJ6_numberOfTrailingZeros_0f7a4 : Room := { frames := 0, cells := 0, slots := 0, locals := 0 }
def wJ6_numberOfTrailingZeros_0f7a4 (σ : St) (a0 : Int32) (P : Int32 → Prop) : Prop :=
∀ z1 : Int32, z1 = ((a0 ^^^ (-1 : Int32)) &&& (a0 - (1 : Int32))) →
(0 < z1 →
jn (fun (y4 : Int32) (y5 : Int32) =>
jn (fun (y7 : Int32) (y8 : Int32) =>
jn (fun (y10 : Int32) (y11 : Int32) =>
(y10 ≤ (4 : Int32) →
P (y11 + ((y10.toUInt32 >>> ((1 : Int32).toUInt32 &&& Int32.toUInt32 31)).toInt32))) ∧
(¬ y10 ≤ (4 : Int32) →
∀ z13 : Int32, z13 = y11 + (2 : Int32) →
∀ z14 : Int32, z14 = ((y10.toUInt32 >>> ((2 : Int32).toUInt32 &&& Int32.toUInt32 31)).toInt32) →
P (z13 + ((z14.toUInt32 >>> ((1 : Int32).toUInt32 &&& Int32.toUInt32 31)).toInt32)))) (fun J9 : Int32 → Int32 → Prop =>
(y7 ≤ (16 : Int32) →
J9 y7 y8) ∧
(¬ y7 ≤ (16 : Int32) →
∀ z16 : Int32, z16 = y8 + (4 : Int32) →
∀ z17 : Int32, z17 = ((y7.toUInt32 >>> ((4 : Int32).toUInt32 &&& Int32.toUInt32 31)).toInt32) →
J9 z17 z16))) (fun J6 : Int32 → Int32 → Prop =>
(y4 ≤ (256 : Int32) →
J6 y4 y5) ∧
(¬ y4 ≤ (256 : Int32) →
∀ z19 : Int32, z19 = y5 + (8 : Int32) →
∀ z20 : Int32, z20 = ((y4.toUInt32 >>> ((8 : Int32).toUInt32 &&& Int32.toUInt32 31)).toInt32) →
J6 z20 z19))) (fun J3 : Int32 → Int32 → Prop =>
(z1 ≤ (65536 : Int32) →
J3 z1 (1 : Int32)) ∧
(¬ z1 ≤ (65536 : Int32) →
∀ z22 : Int32, z22 = (1 : Int32) + (16 : Int32) →
∀ z23 : Int32, z23 = ((z1.toUInt32 >>> ((16 : Int32).toUInt32 &&& Int32.toUInt32 31)).toInt32) →
J3 z23 z22))) ∧
(¬ 0 < z1 →
P (z1 &&& (32 : Int32)))

set_option maxHeartbeats 8000000 in
set_option maxRecDepth 100000 in
theorem kJ6_numberOfTrailingZeros_0f7a4 (l : Launch) (D : va_G) {cy : Nat → ClassId} {ad : Nat → Nat} {zb : Nat → Nat} (hw : xOk (wC ad cy zb)) {σ : St} {a0 : Int32} {P : Int32 → Prop} (h : wJ6_numberOfTrailingZeros_0f7a4 σ a0 P) : MI l yJ6_numberOfTrailingZeros_0f7a4 wsJ6_numberOfTrailingZeros_0f7a4 rmJ6_numberOfTrailingZeros_0f7a4 D cy (wC ad cy zb) [.int a0] σ (fun r u => P r ∧ u = σ) := by
  unfold MI
  refine vv_met (cc := cJ6_numberOfTrailingZeros_0f7a4) (maxL := 2) (ret := (some .int)) hw (by decide +kernel) rfl [.int a0] (Nat.le_of_ble_eq_true rfl) ?_
  intro p e s m args below meth c X hr
  have X : XX p s m args meth c cJ6_numberOfTrailingZeros_0f7a4 2 D cy (wC ad cy zb) wsJ6_numberOfTrailingZeros_0f7a4 RJ6 := X
  refine vv_sub (lv' := [(0, .int a0)]) [0] rfl ?_
  rw [wJ6_numberOfTrailingZeros_0f7a4] at h
  refine vv_iload_n (q := 1) X 0 dJ6_numberOfTrailingZeros_0f7a4_0 rfl rfl rfl ?_
  refine vv_iconst (q := 2) X (-1 : Int32) dJ6_numberOfTrailingZeros_0f7a4_1 (by decide) rfl ?_
  refine vv_ixor (q := 3) X dJ6_numberOfTrailingZeros_0f7a4_2 rfl ?_
  refine vv_iload_n (q := 4) X 0 dJ6_numberOfTrailingZeros_0f7a4_3 rfl rfl rfl ?_
  refine vv_iconst (q := 5) X (1 : Int32) dJ6_numberOfTrailingZeros_0f7a4_4 (by decide) rfl ?_
  refine vv_isub (q := 6) X dJ6_numberOfTrailingZeros_0f7a4_5 rfl ?_
  refine vv_iand (q := 7) X dJ6_numberOfTrailingZeros_0f7a4_6 rfl ?_
  refine vv_topi (fun z1 hz1 => ?_)
  have h := h z1 hz1
  refine vv_istore_n (lv2 := [(0, .int z1)]) (q := 8) X dJ6_numberOfTrailingZeros_0f7a4_7 rfl (Nat.le_of_ble_eq_true rfl) rfl rfl ?_
  refine vv_iload_n (q := 9) X 0 dJ6_numberOfTrailingZeros_0f7a4_8 rfl rfl rfl ?_
  refine vv_if_gt (q := 12) X 17 dJ6_numberOfTrailingZeros_0f7a4_9 (by decide) rfl (fun c2 => ?_) (fun c2 => ?_)
  · have h := h.1 c2
    refine vv_iconst (q := 18) X (1 : Int32) dJ6_numberOfTrailingZeros_0f7a4_17 (by decide) rfl ?_
    refine vv_istore_n (lv2 := [(1, .int (1 : Int32)), (0, .int z1)]) (q := 19) X dJ6_numberOfTrailingZeros_0f7a4_18 rfl (Nat.le_of_ble_eq_true rfl) rfl rfl ?_
    refine vv_iload_n (q := 20) X 1 dJ6_numberOfTrailingZeros_0f7a4_19 rfl rfl rfl ?_
    refine vv_ldcw (q := 23) X (65536 : Int32) dJ6_numberOfTrailingZeros_0f7a4_20 (List.mem_of_getElem? (i := 1) rfl) rfl ?_
    obtain ⟨J3, hJ3, h⟩ := jn_el h
    have tJ3 : ∀ (y4 : Int32) (y5 : Int32), J3 y4 y5 → VV p l e rmJ6_numberOfTrailingZeros_0f7a4 s m args below meth c (MQ below (va_Qi (fun r u => P r ∧ u = σ) (xPost D (wC ad cy zb)) (xA (wC ad cy zb))) args s 0 0 (xA (wC ad cy zb))) 2 D (wC ad cy zb) σ 34 [(0, .int y4), (1, .int y5)] [] := by
      intro y4 y5 h
      rw [hJ3] at h
      refine vv_iload_n (q := 35) X 0 dJ6_numberOfTrailingZeros_0f7a4_34 rfl rfl rfl ?_
      refine vv_sipush (q := 38) X (256 : Int32) dJ6_numberOfTrailingZeros_0f7a4_35 (by decide) rfl ?_
      obtain ⟨J6, hJ6, h⟩ := jn_el h
      have tJ6 : ∀ (y7 : Int32) (y8 : Int32), J6 y7 y8 → VV p l e rmJ6_numberOfTrailingZeros_0f7a4 s m args below meth c (MQ below (va_Qi (fun r u => P r ∧ u = σ) (xPost D (wC ad cy zb)) (xA (wC ad cy zb))) args s 0 0 (xA (wC ad cy zb))) 2 D (wC ad cy zb) σ 49 [(0, .int y7), (1, .int y8)] [] := by
        intro y7 y8 h
        rw [hJ6] at h
        refine vv_iload_n (q := 50) X 0 dJ6_numberOfTrailingZeros_0f7a4_49 rfl rfl rfl ?_
        refine vv_bipush (q := 52) X (16 : Int32) dJ6_numberOfTrailingZeros_0f7a4_50 (by decide) rfl ?_
        obtain ⟨J9, hJ9, h⟩ := jn_el h
        have tJ9 : ∀ (y10 : Int32) (y11 : Int32), J9 y10 y11 → VV p l e rmJ6_numberOfTrailingZeros_0f7a4 s m args below meth c (MQ below (va_Qi (fun r u => P r ∧ u = σ) (xPost D (wC ad cy zb)) (xA (wC ad cy zb))) args s 0 0 (xA (wC ad cy zb))) 2 D (wC ad cy zb) σ 62 [(0, .int y10), (1, .int y11)] [] := by
          intro y10 y11 h
          rw [hJ9] at h
          refine vv_iload_n (q := 63) X 0 dJ6_numberOfTrailingZeros_0f7a4_62 rfl rfl rfl ?_
          refine vv_iconst (q := 64) X (4 : Int32) dJ6_numberOfTrailingZeros_0f7a4_63 (by decide) rfl ?_
          refine vv_icmp_le (q := 67) X 74 dJ6_numberOfTrailingZeros_0f7a4_64 (by decide) rfl (fun c12 => ?_) (fun c12 => ?_)
          · have h := h.1 c12
            refine vv_iload_n (q := 75) X 1 dJ6_numberOfTrailingZeros_0f7a4_74 rfl rfl rfl ?_
            refine vv_iload_n (q := 76) X 0 dJ6_numberOfTrailingZeros_0f7a4_75 rfl rfl rfl ?_
            refine vv_iconst (q := 77) X (1 : Int32) dJ6_numberOfTrailingZeros_0f7a4_76 (by decide) rfl ?_
            refine vv_iushr (q := 78) X dJ6_numberOfTrailingZeros_0f7a4_77 rfl ?_
            refine vv_iadd (q := 79) X dJ6_numberOfTrailingZeros_0f7a4_78 rfl ?_
            exact vv_iret X hr dJ6_numberOfTrailingZeros_0f7a4_79 ⟨h, rfl⟩
          · have h := h.2 c12
            obtain ⟨z13, hz13⟩ : ∃ y : Int32, y = y11 + (2 : Int32) := ⟨_, rfl⟩
            have h := h z13 hz13
            refine vv_iinc (v := z13) (lv2 := [(1, .int z13), (0, .int y10)]) (q := 70) X 1 dJ6_numberOfTrailingZeros_0f7a4_67 rfl (by rw [hz13]; rfl) (Nat.le_of_ble_eq_true rfl) rfl rfl ?_
            refine vv_iload_n (q := 71) X 1 dJ6_numberOfTrailingZeros_0f7a4_70 rfl rfl rfl ?_
            refine vv_iconst (q := 72) X (2 : Int32) dJ6_numberOfTrailingZeros_0f7a4_71 (by decide) rfl ?_
            refine vv_iushr (q := 73) X dJ6_numberOfTrailingZeros_0f7a4_72 rfl ?_
            refine vv_topi (fun z14 hz14 => ?_)
            have h := h z14 hz14
            refine vv_istore_n (lv2 := [(0, .int z14), (1, .int z13)]) (q := 74) X dJ6_numberOfTrailingZeros_0f7a4_73 rfl (Nat.le_of_ble_eq_true rfl) rfl rfl ?_
            refine vv_iload_n (q := 75) X 1 dJ6_numberOfTrailingZeros_0f7a4_74 rfl rfl rfl ?_
            refine vv_iload_n (q := 76) X 0 dJ6_numberOfTrailingZeros_0f7a4_75 rfl rfl rfl ?_
            refine vv_iconst (q := 77) X (1 : Int32) dJ6_numberOfTrailingZeros_0f7a4_76 (by decide) rfl ?_
            refine vv_iushr (q := 78) X dJ6_numberOfTrailingZeros_0f7a4_77 rfl ?_
            refine vv_iadd (q := 79) X dJ6_numberOfTrailingZeros_0f7a4_78 rfl ?_
            exact vv_iret X hr dJ6_numberOfTrailingZeros_0f7a4_79 ⟨h, rfl⟩
        refine vv_icmp_le (q := 55) X 62 dJ6_numberOfTrailingZeros_0f7a4_52 (by decide) rfl (fun c15 => ?_) (fun c15 => ?_)
        · have h := h.1 c15
          exact tJ9 y7 y8 h
        · have h := h.2 c15
          obtain ⟨z16, hz16⟩ : ∃ y : Int32, y = y8 + (4 : Int32) := ⟨_, rfl⟩
          have h := h z16 hz16
          refine vv_iinc (v := z16) (lv2 := [(1, .int z16), (0, .int y7)]) (q := 58) X 1 dJ6_numberOfTrailingZeros_0f7a4_55 rfl (by rw [hz16]; rfl) (Nat.le_of_ble_eq_true rfl) rfl rfl ?_
          refine vv_iload_n (q := 59) X 1 dJ6_numberOfTrailingZeros_0f7a4_58 rfl rfl rfl ?_
          refine vv_iconst (q := 60) X (4 : Int32) dJ6_numberOfTrailingZeros_0f7a4_59 (by decide) rfl ?_
          refine vv_iushr (q := 61) X dJ6_numberOfTrailingZeros_0f7a4_60 rfl ?_
          refine vv_topi (fun z17 hz17 => ?_)
          have h := h z17 hz17
          refine vv_istore_n (lv2 := [(0, .int z17), (1, .int z16)]) (q := 62) X dJ6_numberOfTrailingZeros_0f7a4_61 rfl (Nat.le_of_ble_eq_true rfl) rfl rfl ?_
          exact tJ9 z17 z16 h
      refine vv_icmp_le (q := 41) X 49 dJ6_numberOfTrailingZeros_0f7a4_38 (by decide) rfl (fun c18 => ?_) (fun c18 => ?_)
      · have h := h.1 c18
        exact tJ6 y4 y5 h
      · have h := h.2 c18
        obtain ⟨z19, hz19⟩ : ∃ y : Int32, y = y5 + (8 : Int32) := ⟨_, rfl⟩
        have h := h z19 hz19
        refine vv_iinc (v := z19) (lv2 := [(1, .int z19), (0, .int y4)]) (q := 44) X 1 dJ6_numberOfTrailingZeros_0f7a4_41 rfl (by rw [hz19]; rfl) (Nat.le_of_ble_eq_true rfl) rfl rfl ?_
        refine vv_iload_n (q := 45) X 1 dJ6_numberOfTrailingZeros_0f7a4_44 rfl rfl rfl ?_
        refine vv_bipush (q := 47) X (8 : Int32) dJ6_numberOfTrailingZeros_0f7a4_45 (by decide) rfl ?_
        refine vv_iushr (q := 48) X dJ6_numberOfTrailingZeros_0f7a4_47 rfl ?_
        refine vv_topi (fun z20 hz20 => ?_)
        have h := h z20 hz20
        refine vv_istore_n (lv2 := [(0, .int z20), (1, .int z19)]) (q := 49) X dJ6_numberOfTrailingZeros_0f7a4_48 rfl (Nat.le_of_ble_eq_true rfl) rfl rfl ?_
        exact tJ6 z20 z19 h
    refine vv_icmp_le (q := 26) X 34 dJ6_numberOfTrailingZeros_0f7a4_23 (by decide) rfl (fun c21 => ?_) (fun c21 => ?_)
    · have h := h.1 c21
      refine vv_sub (lv' := [(0, .int z1), (1, .int (1 : Int32))]) [1, 0] rfl ?_
      exact tJ3 z1 (1 : Int32) h
    · have h := h.2 c21
      obtain ⟨z22, hz22⟩ : ∃ y : Int32, y = (1 : Int32) + (16 : Int32) := ⟨_, rfl⟩
      have h := h z22 hz22
      refine vv_iinc (v := z22) (lv2 := [(1, .int z22), (0, .int z1)]) (q := 29) X 0 dJ6_numberOfTrailingZeros_0f7a4_26 rfl (by rw [hz22]; rfl) (Nat.le_of_ble_eq_true rfl) rfl rfl ?_
      refine vv_iload_n (q := 30) X 1 dJ6_numberOfTrailingZeros_0f7a4_29 rfl rfl rfl ?_
      refine vv_bipush (q := 32) X (16 : Int32) dJ6_numberOfTrailingZeros_0f7a4_30 (by decide) rfl ?_
      refine vv_iushr (q := 33) X dJ6_numberOfTrailingZeros_0f7a4_32 rfl ?_
      refine vv_topi (fun z23 hz23 => ?_)
      have h := h z23 hz23
      refine vv_istore_n (lv2 := [(0, .int z23), (1, .int z22)]) (q := 34) X dJ6_numberOfTrailingZeros_0f7a4_33 rfl (Nat.le_of_ble_eq_true rfl) rfl rfl ?_
      exact tJ3 z23 z22 h
  · have h := h.2 c2
    refine vv_iload_n (q := 13) X 0 dJ6_numberOfTrailingZeros_0f7a4_12 rfl rfl rfl ?_
    refine vv_bipush (q := 15) X (32 : Int32) dJ6_numberOfTrailingZeros_0f7a4_13 (by decide) rfl ?_
    refine vv_iand (q := 16) X dJ6_numberOfTrailingZeros_0f7a4_15 rfl ?_
    exact vv_iret X hr dJ6_numberOfTrailingZeros_0f7a4_16 ⟨h, rfl⟩

/-! J6_bitCount_0f7a4: bitCount(I)I -/
def rmJ6_bitCount_0f7a4 : Room := { frames := 0, cells := 0, slots := 0, locals := 0 }
def wJ6_bitCount_0f7a4 (σ : St) (a0 : Int32) (P : Int32 → Prop) : Prop :=
∀ z1 : Int32, z1 = (a0 - (((a0.toUInt32 >>> ((1 : Int32).toUInt32 &&& Int32.toUInt32 31)).toInt32) &&& (1431655765 : Int32))) →
∀ z2 : Int32, z2 = ((z1 &&& (858993459 : Int32)) + (((z1.toUInt32 >>> ((2 : Int32).toUInt32 &&& Int32.toUInt32 31)).toInt32) &&& (858993459 : Int32))) →
∀ z3 : Int32, z3 = ((z2 + ((z2.toUInt32 >>> ((4 : Int32).toUInt32 &&& Int32.toUInt32 31)).toInt32)) &&& (252645135 : Int32)) →
∀ z4 : Int32, z4 = (z3 + ((z3.toUInt32 >>> ((8 : Int32).toUInt32 &&& Int32.toUInt32 31)).toInt32)) →
∀ z5 : Int32, z5 = (z4 + ((z4.toUInt32 >>> ((16 : Int32).toUInt32 &&& Int32.toUInt32 31)).toInt32)) →
P (z5 &&& (63 : Int32))

set_option maxHeartbeats 8000000 in
set_option maxRecDepth 100000 in
theorem kJ6_bitCount_0f7a4 (l : Launch) (D : va_G) {cy : Nat → ClassId} {ad : Nat → Nat} {zb : Nat → Nat} (hw : xOk (wC ad cy zb)) {σ : St} {a0 : Int32} {P : Int32 → Prop} (h : wJ6_bitCount_0f7a4 σ a0 P) : MI l yJ6_bitCount_0f7a4 wsJ6_bitCount_0f7a4 rmJ6_bitCount_0f7a4 D cy (wC ad cy zb) [.int a0] σ (fun r u => P r ∧ u = σ) := by
  unfold MI
  refine vv_met (cc := cJ6_bitCount_0f7a4) (maxL := 1) (ret := (some .int)) hw (by decide +kernel) rfl [.int a0] (Nat.le_of_ble_eq_true rfl) ?_
  intro p e s m args below meth c X hr
  have X : XX p s m args meth c cJ6_bitCount_0f7a4 1 D cy (wC ad cy zb) wsJ6_bitCount_0f7a4 RJ6 := X
  refine vv_sub (lv' := [(0, .int a0)]) [0] rfl ?_
  rw [wJ6_bitCount_0f7a4] at h
  refine vv_iload_n (q := 1) X 0 dJ6_bitCount_0f7a4_0 rfl rfl rfl ?_
  refine vv_iload_n (q := 2) X 0 dJ6_bitCount_0f7a4_1 rfl rfl rfl ?_
  refine vv_iconst (q := 3) X (1 : Int32) dJ6_bitCount_0f7a4_2 (by decide) rfl ?_
  refine vv_iushr (q := 4) X dJ6_bitCount_0f7a4_3 rfl ?_
  refine vv_ldcw (q := 7) X (1431655765 : Int32) dJ6_bitCount_0f7a4_4 (List.mem_of_getElem? (i := 1) rfl) rfl ?_
  refine vv_iand (q := 8) X dJ6_bitCount_0f7a4_7 rfl ?_
  refine vv_isub (q := 9) X dJ6_bitCount_0f7a4_8 rfl ?_
  refine vv_topi (fun z1 hz1 => ?_)
  have h := h z1 hz1
  refine vv_istore_n (lv2 := [(0, .int z1)]) (q := 10) X dJ6_bitCount_0f7a4_9 rfl (Nat.le_of_ble_eq_true rfl) rfl rfl ?_
  refine vv_iload_n (q := 11) X 0 dJ6_bitCount_0f7a4_10 rfl rfl rfl ?_
  refine vv_ldcw (q := 14) X (858993459 : Int32) dJ6_bitCount_0f7a4_11 (List.mem_of_getElem? (i := 2) rfl) rfl ?_
  refine vv_iand (q := 15) X dJ6_bitCount_0f7a4_14 rfl ?_
  refine vv_iload_n (q := 16) X 0 dJ6_bitCount_0f7a4_15 rfl rfl rfl ?_
  refine vv_iconst (q := 17) X (2 : Int32) dJ6_bitCount_0f7a4_16 (by decide) rfl ?_
  refine vv_iushr (q := 18) X dJ6_bitCount_0f7a4_17 rfl ?_
  refine vv_ldcw (q := 21) X (858993459 : Int32) dJ6_bitCount_0f7a4_18 (List.mem_of_getElem? (i := 2) rfl) rfl ?_
  refine vv_iand (q := 22) X dJ6_bitCount_0f7a4_21 rfl ?_
  refine vv_iadd (q := 23) X dJ6_bitCount_0f7a4_22 rfl ?_
  refine vv_topi (fun z2 hz2 => ?_)
  have h := h z2 hz2
  refine vv_istore_n (lv2 := [(0, .int z2)]) (q := 24) X dJ6_bitCount_0f7a4_23 rfl (Nat.le_of_ble_eq_true rfl) rfl rfl ?_
  refine vv_iload_n (q := 25) X 0 dJ6_bitCount_0f7a4_24 rfl rfl rfl ?_
  refine vv_iload_n (q := 26) X 0 dJ6_bitCount_0f7a4_25 rfl rfl rfl ?_
  refine vv_iconst (q := 27) X (4 : Int32) dJ6_bitCount_0f7a4_26 (by decide) rfl ?_
  refine vv_iushr (q := 28) X dJ6_bitCount_0f7a4_27 rfl ?_
  refine vv_iadd (q := 29) X dJ6_bitCount_0f7a4_28 rfl ?_
  refine vv_ldcw (q := 32) X (252645135 : Int32) dJ6_bitCount_0f7a4_29 (List.mem_of_getElem? (i := 3) rfl) rfl ?_
  refine vv_iand (q := 33) X dJ6_bitCount_0f7a4_32 rfl ?_
  refine vv_topi (fun z3 hz3 => ?_)
  have h := h z3 hz3
  refine vv_istore_n (lv2 := [(0, .int z3)]) (q := 34) X dJ6_bitCount_0f7a4_33 rfl (Nat.le_of_ble_eq_true rfl) rfl rfl ?_
  refine vv_iload_n (q := 35) X 0 dJ6_bitCount_0f7a4_34 rfl rfl rfl ?_
  refine vv_iload_n (q := 36) X 0 dJ6_bitCount_0f7a4_35 rfl rfl rfl ?_
  refine vv_bipush (q := 38) X (8 : Int32) dJ6_bitCount_0f7a4_36 (by decide) rfl ?_
  refine vv_iushr (q := 39) X dJ6_bitCount_0f7a4_38 rfl ?_
  refine vv_iadd (q := 40) X dJ6_bitCount_0f7a4_39 rfl ?_
  refine vv_topi (fun z4 hz4 => ?_)
  have h := h z4 hz4
  refine vv_istore_n (lv2 := [(0, .int z4)]) (q := 41) X dJ6_bitCount_0f7a4_40 rfl (Nat.le_of_ble_eq_true rfl) rfl rfl ?_
  refine vv_iload_n (q := 42) X 0 dJ6_bitCount_0f7a4_41 rfl rfl rfl ?_
  refine vv_iload_n (q := 43) X 0 dJ6_bitCount_0f7a4_42 rfl rfl rfl ?_
  refine vv_bipush (q := 45) X (16 : Int32) dJ6_bitCount_0f7a4_43 (by decide) rfl ?_
  refine vv_iushr (q := 46) X dJ6_bitCount_0f7a4_45 rfl ?_
  refine vv_iadd (q := 47) X dJ6_bitCount_0f7a4_46 rfl ?_
  refine vv_topi (fun z5 hz5 => ?_)
  have h := h z5 hz5
  refine vv_istore_n (lv2 := [(0, .int z5)]) (q := 48) X dJ6_bitCount_0f7a4_47 rfl (Nat.le_of_ble_eq_true rfl) rfl rfl ?_
  refine vv_iload_n (q := 49) X 0 dJ6_bitCount_0f7a4_48 rfl rfl rfl ?_
  refine vv_bipush (q := 51) X (63 : Int32) dJ6_bitCount_0f7a4_49 (by decide) rfl ?_
  refine vv_iand (q := 52) X dJ6_bitCount_0f7a4_51 rfl ?_
  exact vv_iret X hr dJ6_bitCount_0f7a4_52 ⟨h, rfl⟩

/-! J7_fill_53178: fill([II)V, over any int array of the class's world -/
def rmJ7_fill_53178 : Room := { frames := 0, cells := 0, slots := 0, locals := 0 }
theorem sF_0 (σ : St) (k : Nat) (v : Int32) : sF σ k 0 v = σ := by
  have h : (fun i => if i = k then (fun j => if j < 0 then v else σ.1 k j) else σ.1 i) = σ.1 := by
    funext i
    by_cases h : i = k
    · subst h; simp
    · simp [h]
  show (_, σ.2) = σ
  rw [h]
theorem sF_step (σ : St) (k i : Nat) (v : Int32) : sI (sF σ k i v) k i v = sF σ k (i + 1) v := by
  have h : (fun a => if a = k then upd ((sF σ k i v).1 k) i v else (sF σ k i v).1 a) = (fun a => if a = k then (fun j => if j < i + 1 then v else σ.1 k j) else σ.1 a) := by
    funext a
    by_cases h : a = k
    · subst h
      rw [if_pos rfl, if_pos rfl]
      funext j
      by_cases h1 : j = i
      · subst h1; simp [upd]
      · by_cases h2 : j < i
        · simp [upd, sF, h1, h2, Nat.lt_succ_of_lt h2]
        · simp [upd, sF, h1, h2, show ¬ j < i + 1 by omega]
    · rw [if_neg h, if_neg h]; simp [sF, h]
  show (_, (sF σ k i v).2) = _
  rw [h]
  rfl
set_option maxHeartbeats 4000000 in
set_option maxRecDepth 100000 in
theorem kJ7_fill (l : Launch) (D : va_G) {cy : Nat → ClassId} {ad : Nat → Nat} {zb : Nat → Nat} (hw : xOk (wC ad cy zb)) {σ : St} {k n : Nat} {v : Int32} (hk : k < 75) (he : ∀ f, eC ad cy k f σ.2 = .inl (cy 0, n, .inl f)) (hn : n ≤ 300) (_ : n = n) : MV l yJ7_fill_53178 wsJ7_fill_53178 rmJ7_fill_53178 D cy (wC ad cy zb) [.ref (ad k), .int v] σ (fun u => u = sF σ k n v) := by
  unfold MV
  refine vv_met (cc := cJ7_fill_53178) (maxL := 4) (ret := none) hw (by decide +kernel) rfl [.ref (ad k), .int v] (Nat.le_of_ble_eq_true rfl) ?_
  intro p e s m args below meth c X hr
  have X : XX p s m args meth c cJ7_fill_53178 4 D cy (wC ad cy zb) wsJ7_fill_53178 RJ7 := X
  refine vv_sub (lv' := [(0, .ref (ad k)), (1, .int v)]) [0, 1] rfl ?_
  have hloop : ∀ (d i : Nat), i + d = n → VV p l e rmJ7_fill_53178 s m args below meth c (MQ below (va_Qv (fun u => u = sF σ k n v) (xPost D (wC ad cy zb)) (xA (wC ad cy zb))) args s 0 0 (xA (wC ad cy zb))) 4 D (wC ad cy zb) (sF σ k i v) 5 [(0, .ref (ad k)), (1, .int v), (2, .int (nI i)), (3, .int (nI n))] [] := by
    intro d
    induction d with
    | zero =>
      intro i hi
      refine vv_iload_n (q := 6) X 2 dJ7_fill_53178_5 rfl rfl rfl ?_
      refine vv_iload_n (q := 7) X 3 dJ7_fill_53178_6 rfl rfl rfl ?_
      refine vv_icmp_ge (q := 10) X 20 dJ7_fill_53178_7 (by decide) rfl (fun c1 => ?_) (fun c1 => ?_)
      · refine vv_vret X hr dJ7_fill_53178_20 ?_
        rw [show i = n by omega]
      · exact absurd (nI_le (by omega) (by omega)) c1
    | succ d ih =>
      intro i hi
      refine vv_iload_n (q := 6) X 2 dJ7_fill_53178_5 rfl rfl rfl ?_
      refine vv_iload_n (q := 7) X 3 dJ7_fill_53178_6 rfl rfl rfl ?_
      refine vv_icmp_ge (q := 10) X 20 dJ7_fill_53178_7 (by decide) rfl (fun c1 => ?_) (fun c1 => ?_)
      · exact absurd c1 (nI_ge (by omega) (by omega))
      · refine vv_aload_n (q := 11) X 0 dJ7_fill_53178_10 rfl rfl rfl ?_
        refine vv_iload_n (q := 12) X 2 dJ7_fill_53178_11 rfl rfl rfl ?_
        refine vv_iload_n (q := 13) X 1 dJ7_fill_53178_12 rfl rfl rfl ?_
        refine vv_iast (q := 14) X k n hk he (vp_in_nI (by omega) (by omega)) dJ7_fill_53178_13 rfl ?_
        refine vv_st (σ' := sF σ k (i + 1) v) (by rw [nI_clamp (by omega)]; exact sF_step σ k i v) ?_
        refine vv_iinc (v := nI (i + 1)) (lv2 := [(2, .int (nI (i + 1))), (0, .ref (ad k)), (1, .int v), (3, .int (nI n))]) (q := 17) X 2 dJ7_fill_53178_14 rfl (nI_1 i) (Nat.le_of_ble_eq_true rfl) rfl rfl ?_
        refine vv_goto X 5 dJ7_fill_53178_17 (by decide) ?_
        refine vv_sub (lv' := [(0, .ref (ad k)), (1, .int v), (2, .int (nI (i + 1))), (3, .int (nI n))]) [1, 2, 0, 3] rfl ?_
        exact ih (i + 1) (by omega)
  refine vv_iconst (q := 1) X (0 : Int32) dJ7_fill_53178_0 (by decide) rfl ?_
  refine vv_istore_n (lv2 := [(2, .int (0 : Int32)), (0, .ref (ad k)), (1, .int v)]) (q := 2) X dJ7_fill_53178_1 rfl (Nat.le_of_ble_eq_true rfl) rfl rfl ?_
  refine vv_aload_n (q := 3) X 1 dJ7_fill_53178_2 rfl rfl rfl ?_
  refine vv_alen (q := 4) X k 0 n hk he rfl (v := nI n) (x := (0, .inl (fun _ => 0))) rfl dJ7_fill_53178_3 rfl ?_
  refine vv_istore_n (lv2 := [(3, .int (nI n)), (2, .int (0 : Int32)), (0, .ref (ad k)), (1, .int v)]) (q := 5) X dJ7_fill_53178_4 rfl (Nat.le_of_ble_eq_true rfl) rfl rfl ?_
  refine vv_sub (lv' := [(0, .ref (ad k)), (1, .int v), (2, .int (nI 0)), (3, .int (nI n))]) [2, 3, 1, 0] rfl ?_
  refine vv_st (sF_0 σ k v).symm ?_
  exact hloop n 0 (by omega)

