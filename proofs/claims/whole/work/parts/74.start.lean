/-! what the launch gives: classes, arrays, statics, texts -/
theorem ak_prim {A : Array Value} {s : State} {ty : FieldType} (hty : ∀ C, ty ≠ .object C) (h : (Cond.arrayClass ty).before A s = true) : ∃ cA, ArrOfT s cA ty ∧ va_RA s cA ty := by
  obtain ⟨c, k, comp, h1, h2, h3⟩ := Cond.arrayClass_spec h
  refine ⟨c, fun N z => ⟨fun k h => (by cases h), k, h2, comp, h3⟩, ?_⟩
  cases ty with
  | object C => exact absurd rfl (hty C)
  | _ => exact h1
theorem ak_arr {A : Array Value} {s : State} {ty : FieldType} (h : (Cond.arrayOver (.array ty)).before A s = true) : ∃ cA, ArrOfT s cA (.array ty) ∧ va_RA s cA (.array ty) := by
  obtain ⟨comp, c, k, h1, h2, h3, h4, h5⟩ := arrayOverA_spec h
  exact ⟨c, fun N z => ⟨fun k h => (by cases h), k, h3, comp, h4⟩, h5⟩
theorem ak_obj {A : Array Value} {s : State} {C : String} (h : (Cond.arrayOver (.object C)).before A s = true) : ∃ cA, ArrOfT s cA (.object C) ∧ va_RA s cA (.object C) := by
  obtain ⟨comp, c, k, h1, h2, h3, h4, h5⟩ := Cond.arrayOver_spec h
  exact ⟨c, fun N z => ⟨fun k h => (by cases h), k, h3, comp, h4⟩, k, comp, h3, h4, h1, h5⟩
abbrev flN : List Cond := flatC (Cond.and given_1 narrow_1)
def tmA (i : Nat) : Term := .static "HalfLadders" (zN i) "[I"
theorem m_arr : ∀ i, i < 3 → Cond.arrayOf (tmA i) .int ∈ flN := by decide +kernel
theorem m_len : ∀ i, i < 3 → Cond.eq (.length (tmA i)) (.int (Int32.ofNat (zL i))) ∈ flN := by decide +kernel
theorem m_el0 : ∀ j, j < 6 → Cond.eq (.elem (tmA 0) (.int (Int32.ofNat j))) (.int (zT 0 j)) ∈ flN := by decide +kernel
theorem m_el1 : ∀ j, j < 6 → Cond.eq (.elem (tmA 1) (.int (Int32.ofNat j))) (.int (zT 1 j)) ∈ flN := by decide +kernel
theorem m_el2 : ∀ j, j < 9 → Cond.eq (.elem (tmA 2) (.int (Int32.ofNat j))) (.int (zT 2 j)) ∈ flN := by decide +kernel
theorem m_lay : ∀ i, i < 3 → Cond.laysStatic "HalfLadders" (zN i) "[I" ∈ lw_tbl := by decide +kernel
def tmS (i : Nat) : Term := .string RX8 (zSix i)
def tmV (i : Nat) : Term := .field (tmS i) "java/lang/String" "value" "[B"
theorem m_ex : ∀ i, i < 4 → Cond.exactly (tmS i) "java/lang/String" ∈ flN := by decide +kernel
theorem m_co : ∀ i, i < 4 → Cond.eq (.field (tmS i) "java/lang/String" "coder" "B") (.int 0) ∈ flN := by decide +kernel
theorem m_ar : ∀ i, i < 4 → Cond.arrayOf (tmV i) .byte ∈ flN := by decide +kernel
theorem m_le : ∀ i, i < 4 → Cond.eq (.length (tmV i)) (.int (Int32.ofNat (zSlen.getD i 0))) ∈ flN := by decide +kernel
theorem m_by : ∀ i, i < 4 → ∀ j, j < zSlen.getD i 0 → Cond.eq (.elem (tmV i) (.int (Int32.ofNat j))) (.int ((zSbyt.getD i []).getD j 0)) ∈ flN := by decide +kernel
theorem m_ne : ∀ i, i < 4 → ∀ j, j < 4 → i ≠ j → Cond.not (Cond.eq (tmS i) (tmS j)) ∈ flN ∨ Cond.not (Cond.eq (tmS j) (tmS i)) ∈ flN := by decide +kernel
theorem m_sr : ∀ i, i < 4 → Cond.stringRef RX8 (zSix i) (zStx i) ∈ lw_tbl := by decide +kernel
theorem m_co1 : Cond.eq (.static "java/lang/String" "COMPACT_STRINGS" "Z") (.int 1) ∈ flN := by decide +kernel
theorem m_sio : Cond.isRef (.static "jdk/internal/util/Preconditions" "SIOOBE_FORMATTER" "Ljava/util/function/BiFunction;") ∈ flN := by decide +kernel
theorem m_t1 : Cond.laysStatic "java/lang/String" "COMPACT_STRINGS" "Z" ∈ lw_tbl := by decide +kernel
theorem m_t2 : Cond.initialized "java/lang/String" ∈ lw_tbl := by decide +kernel
theorem m_t3 : Cond.laysStatic "jdk/internal/util/Preconditions" "SIOOBE_FORMATTER" "Ljava/util/function/BiFunction;" ∈ lw_tbl := by decide +kernel
theorem m_t4 : Cond.initialized "jdk/internal/util/Preconditions" ∈ lw_tbl := by decide +kernel
theorem m_t5 : Cond.initialized "HalfLadders" ∈ lw_tbl := by decide +kernel
theorem m_t6 : Cond.methodLinkNest RX1 59 yX9_restsFrom RX9 ∈ lw_tbl := by decide +kernel
theorem m_t7 : Cond.fieldLinkNest RX7 49 RX9 "FACTORIALS" "[I" RX9 ∈ lw_tbl := by decide +kernel
theorem m_ac : ∀ ty ∈ ([.int, .byte, .boolean] : List FieldType), Cond.arrayClass ty ∈ lw_tbl := by decide +kernel
theorem m_ao1 : Cond.arrayOver (.array .int) ∈ lw_tbl := by decide +kernel
theorem m_ao2 : Cond.arrayOver (.object "HalfLadders$Now") ∈ lw_tbl := by decide +kernel
theorem m_n0 : Cond.methodLinkNest RX9 11 yX8_init RX9 ∈ lw_tbl := by decide +kernel
theorem m_n1 : Cond.methodLinkNest RX9 27 yX3_init RX9 ∈ lw_tbl := by decide +kernel
theorem m_n2 : Cond.methodLinkNest RX9 37 yX4_init RX9 ∈ lw_tbl := by decide +kernel
theorem m_n3 : Cond.methodLinkNest RX9 44 yX7_init RX9 ∈ lw_tbl := by decide +kernel
theorem m_n4 : Cond.methodLinkNest RX9 51 yX0_init RX9 ∈ lw_tbl := by decide +kernel
theorem m_n5 : Cond.methodLinkNest RX9 58 yX1_init RX9 ∈ lw_tbl := by decide +kernel
theorem m_n6 : Cond.methodLinkNest RX9 65 yX5_init RX9 ∈ lw_tbl := by decide +kernel
theorem m_n7 : Cond.methodLinkNest RX9 72 yX2_init RX9 ∈ lw_tbl := by decide +kernel
theorem m_i0 : Cond.instantiable RX0 2 ∈ lw_tbl := by decide +kernel
theorem m_i1 : Cond.instantiable RX1 5 ∈ lw_tbl := by decide +kernel
theorem m_i2 : Cond.instantiable RX2 7 ∈ lw_tbl := by decide +kernel
theorem m_i3 : Cond.instantiable RX3 10 ∈ lw_tbl := by decide +kernel
theorem m_i4 : Cond.instantiable RX4 8 ∈ lw_tbl := by decide +kernel
theorem m_i5 : Cond.instantiable RX5 3 ∈ lw_tbl := by decide +kernel
theorem m_i6 : Cond.instantiable RX6 4 ∈ lw_tbl := by decide +kernel
theorem m_i7 : Cond.instantiable RX7 1 ∈ lw_tbl := by decide +kernel
theorem m_i8 : Cond.instantiable RX8 5 ∈ lw_tbl := by decide +kernel
theorem m_i9 : Cond.instantiable RX9 14 ∈ lw_tbl := by decide +kernel
theorem m_i10 : Cond.instantiable RX10 27 ∈ lw_tbl := by decide +kernel
/-- the classes and array classes of the launch -/
theorem wo_K {s : State} {b : Nat} (hts : ∀ w ∈ lw_tbl, w.before #[Value.ref b] s = true) : ∃ (D : va_G) (cy : Nat → ClassId), va_K D vwCl (xTy cy) s := by
  obtain ⟨c0, i0, k0⟩ := u_known (C := RX0) (T := TX0) (N := 2) (n := 2) hts inX0 (hts _ m_i0)
  obtain ⟨c1, i1, k1⟩ := u_known (C := RX1) (T := TX1) (N := 5) (n := 5) hts inX1 (hts _ m_i1)
  obtain ⟨c2, i2, k2⟩ := u_known (C := RX2) (T := TX2) (N := 7) (n := 7) hts inX2 (hts _ m_i2)
  obtain ⟨c3, i3, k3⟩ := u_known (C := RX3) (T := TX3) (N := 10) (n := 10) hts inX3 (hts _ m_i3)
  obtain ⟨c4, i4, k4⟩ := u_known (C := RX4) (T := TX4) (N := 8) (n := 8) hts inX4 (hts _ m_i4)
  obtain ⟨c5, i5, k5⟩ := u_known (C := RX5) (T := TX5) (N := 3) (n := 3) hts inX5 (hts _ m_i5)
  obtain ⟨c6, i6, k6⟩ := u_known (C := RX6) (T := TX6) (N := 4) (n := 4) hts inX6 (hts _ m_i6)
  obtain ⟨c7, i7, k7⟩ := u_known (C := RX7) (T := TX7) (N := 1) (n := 1) hts inX7 (hts _ m_i7)
  obtain ⟨c8, i8, k8⟩ := u_known (C := RX8) (T := TX8) (N := 5) (n := 5) hts inX8 (hts _ m_i8)
  obtain ⟨c9, i9, k9⟩ := u_known (C := RX9) (T := TX9) (N := 14) (n := 14) hts inX9 (hts _ m_i9)
  obtain ⟨c10, i10, k10⟩ := u_known (C := RX10) (T := TX10) (N := 27) (n := 27) hts inX10 (hts _ m_i10)
  obtain ⟨y0, p0, r0⟩ := ak_prim (ty := .int) (by intro C h; cases h) (hts _ (m_ac _ (by simp)))
  obtain ⟨y1, p1, r1⟩ := ak_prim (ty := .byte) (by intro C h; cases h) (hts _ (m_ac _ (by simp)))
  obtain ⟨y2, p2, r2⟩ := ak_prim (ty := .boolean) (by intro C h; cases h) (hts _ (m_ac _ (by simp)))
  obtain ⟨y3, p3, r3⟩ := ak_arr (hts _ m_ao1)
  obtain ⟨y4, p4, r4⟩ := ak_obj (hts _ m_ao2)
  refine ⟨(fun k => [c0, c1, c2, c3, c4, c5, c6, c7, c8, c9, c10].getD k c0, fun k => [i0, i1, i2, i3, i4, i5, i6, i7, i8, i9, i10].getD k i0), fun k => [y0, y1, y2, y3, y4].getD k y0, fun k q hq => ?_, fun k q hq => ?_⟩
  · have hk : k < 11 := (List.getElem?_eq_some_iff.mp hq).1
    rcases (show k = 0 ∨ k = 1 ∨ k = 2 ∨ k = 3 ∨ k = 4 ∨ k = 5 ∨ k = 6 ∨ k = 7 ∨ k = 8 ∨ k = 9 ∨ k = 10 by omega) with rfl | rfl | rfl | rfl | rfl | rfl | rfl | rfl | rfl | rfl | rfl
    · cases hq; exact k0
    · cases hq; exact k1
    · cases hq; exact k2
    · cases hq; exact k3
    · cases hq; exact k4
    · cases hq; exact k5
    · cases hq; exact k6
    · cases hq; exact k7
    · cases hq; exact k8
    · cases hq; exact k9
    · cases hq; exact k10
  · have hk : k < 5 := (List.getElem?_eq_some_iff.mp hq).1
    rcases (show k = 0 ∨ k = 1 ∨ k = 2 ∨ k = 3 ∨ k = 4 by omega) with rfl | rfl | rfl | rfl | rfl
    · cases hq; exact ⟨p0, r0⟩
    · cases hq; exact ⟨p1, r1⟩
    · cases hq; exact ⟨p2, r2⟩
    · cases hq; exact ⟨p3, r3⟩
    · cases hq; exact ⟨p4, r4⟩
theorem wo_T {s : State} {b i : Nat} (hs : ∀ w ∈ flN, w.before #[Value.ref b] s = true) (hts : ∀ w ∈ lw_tbl, w.before #[Value.ref b] s = true) (hi : i < 3) : ∃ t : Nat, va_Z "HalfLadders" (zN i) "[I" (.ref t) (fun q => s.heap.size ≤ q) s s.heap ∧ va_T .int t (zL i) (fun j => .int (zT i j)) (fun q => s.heap.size ≤ q) s s.heap := by
  have hA : ∀ a : Nat, a < s.heap.size → ¬ (fun q : Nat => s.heap.size ≤ q) a := fun a h => Nat.not_le.mpr h
  have el : ∀ j : Nat, j < zL i → Cond.eq (.elem (tmA i) (.int (Int32.ofNat j))) (.int (zT i j)) ∈ flN := by
    rcases (show i = 0 ∨ i = 1 ∨ i = 2 by omega) with rfl | rfl | rfl
    · exact m_el0
    · exact m_el1
    · exact m_el2
  have hL : zL i < 2 ^ 31 := by
    rcases (show i = 0 ∨ i = 1 ∨ i = 2 by omega) with rfl | rfl | rfl <;> decide
  obtain ⟨t, h1, h2⟩ := va_Tof (tm := tmA i) (ty := .int) (N := zL i) (f := fun j => .int (zT i j)) hL (hs _ (m_arr i hi)) (va_eqt (hs _ (m_len i hi))) (fun j hj => va_eqt (hs _ (el j hj))) hA
  exact ⟨t, va_Zref (hts _ (m_lay i hi)) (hts _ m_t5) h1 hA, h2⟩
theorem wo_Z {s : State} {b : Nat} (hs : ∀ w ∈ flN, w.before #[Value.ref b] s = true) (hts : ∀ w ∈ lw_tbl, w.before #[Value.ref b] s = true) : ∃ zb : Nat → Nat, zG (fun q => s.heap.size ≤ q) zb s s.heap := by
  have hA : ∀ a : Nat, a < s.heap.size → ¬ (fun q : Nat => s.heap.size ≤ q) a := fun a h => Nat.not_le.mpr h
  obtain ⟨t0, a0, b0⟩ := wo_T hs hts (i := 0) (by omega)
  obtain ⟨t1, a1, b1⟩ := wo_T hs hts (i := 1) (by omega)
  obtain ⟨t2, a2, b2⟩ := wo_T hs hts (i := 2) (by omega)
  obtain ⟨adK, adV, hS, hE⟩ := vk_Sof (N := 4) (tm := tmS) (len := zSlen) (byt := zSbyt) (A := fun q => s.heap.size ≤ q) (by decide) (fun i hi => hs _ (m_ex i hi)) (fun i hi => hs _ (m_co i hi)) (fun i hi => hs _ (m_ar i hi)) (fun i hi => hs _ (m_le i hi)) (fun i hi j hj => hs _ (m_by i hi j hj)) (fun i j hi hj hij => (m_ne i hi j hj hij).imp (fun h => hs _ h) (fun h => hs _ h)) hA
  have hC := va_Zof (A := fun q => s.heap.size ≤ q) (hts _ m_t1) (hts _ m_t2) (va_eqi (hs _ m_co1)) hA
  have hQ := va_Zqof (A := fun q => s.heap.size ≤ q) (hts _ m_t3) (hts _ m_t4) (hs _ m_sio) hA
  have go : ∀ (fl tq : Nat), va_Z "jdk/internal/util/Preconditions" "SIOOBE_FORMATTER" "Ljava/util/function/BiFunction;" (if fl = 0 then .null else .ref tq) (fun q => s.heap.size ≤ q) s s.heap → ∃ zb : Nat → Nat, zG (fun q => s.heap.size ≤ q) zb s s.heap := by
    intro fl tq hq
    obtain ⟨zb, hz⟩ : ∃ zb : Nat → Nat, zb = fun i => if i = 0 then t0 else if i = 1 then t1 else if i = 2 then t2 else if i = 30 then tq else if i = 31 then fl else if 20 ≤ i then adV (i - 20) else adK (i - 10) := ⟨_, rfl⟩
    have eK : ∀ i, i < 4 → zb (10 + i) = adK i := fun i hi => by
      rw [hz]
      show (if 10 + i = 0 then t0 else if 10 + i = 1 then t1 else if 10 + i = 2 then t2 else if 10 + i = 30 then tq else if 10 + i = 31 then fl else if 20 ≤ 10 + i then adV (10 + i - 20) else adK (10 + i - 10)) = _
      rw [if_neg (by omega), if_neg (by omega), if_neg (by omega), if_neg (by omega), if_neg (by omega), if_neg (by omega), show 10 + i - 10 = i by omega]
    have eV : ∀ i, i < 4 → zb (20 + i) = adV i := fun i hi => by
      rw [hz]
      show (if 20 + i = 0 then t0 else if 20 + i = 1 then t1 else if 20 + i = 2 then t2 else if 20 + i = 30 then tq else if 20 + i = 31 then fl else if 20 ≤ 20 + i then adV (20 + i - 20) else adK (20 + i - 10)) = _
      rw [if_neg (by omega), if_neg (by omega), if_neg (by omega), if_neg (by omega), if_neg (by omega), if_pos (by omega), show 20 + i - 20 = i by omega]
    have e0 : zb 0 = t0 := by rw [hz]; rfl
    have e1 : zb 1 = t1 := by rw [hz]; rfl
    have e2 : zb 2 = t2 := by rw [hz]; rfl
    have eq : zq zb = if fl = 0 then .null else .ref tq := by rw [hz]; rfl
    refine ⟨zb, fun i hi => ?_, va_Nw.of rfl (hts _ m_t6), va_Nw.of rfl (hts _ m_t7), ⟨fun i hi => ?_, fun i j hi hj h => ?_⟩, fun i hi => ?_, hC, by rw [eq]; exact hq⟩
    · rcases (show i = 0 ∨ i = 1 ∨ i = 2 by omega) with rfl | rfl | rfl
      · rw [e0]; exact ⟨a0, b0⟩
      · rw [e1]; exact ⟨a1, b1⟩
      · rw [e2]; exact ⟨a2, b2⟩
    · show va_O "java/lang/String" (zb (10 + i)) _ s s.heap ∧ va_OF "java/lang/String" "coder" "B" (.int 0) (zb (10 + i)) _ s s.heap ∧ va_OF "java/lang/String" "value" "[B" (.ref (zb (20 + i))) (zb (10 + i)) _ s s.heap ∧ va_T .byte (zb (20 + i)) (zSlen.getD i 0) (fun j => .int ((zSbyt.getD i []).getD j 0)) _ s s.heap
      rw [eK i hi, eV i hi]
      exact hS.1 i hi
    · have h : zb (10 + i) = zb (10 + j) := h
      rw [eK i hi, eK j hj] at h
      exact hS.2 i j hi hj h
    · rw [eK i hi]
      exact vk_R.of (hts _ (m_sr i hi)) (hE i hi)
  rcases hQ with h | ⟨tq, h⟩
  · exact go 0 0 (by rw [if_pos rfl]; exact h)
  · exact go 1 tq (by rw [if_neg (by omega)]; exact h)
def s10 : St := (fun i => if i = 12 then upd (fun _ => 0) 5 1 else fun _ => 0, (0, 0, 0))
theorem md10 : mdR s10 O00 N1 (fun _ => none) 0 (fun _ => 0) := by
  refine ⟨⟨rfl, rfl, fun p hp => absurd hp (Nat.not_lt_zero p), fun a b ha hb => ?_, fun t ht => absurd ht (Nat.not_lt_zero t)⟩, ⟨rfl, rfl, rfl, rfl, rfl, rfl, fun t ht => absurd ht (Nat.not_lt_zero t)⟩, fun i hi => ⟨rfl, fun N' h => by cases h⟩, rfl, fun j hj => absurd hj (Nat.not_lt_zero j)⟩
  show (0 : Int32) = bI (decide (a < 0) && _)
  rw [decide_eq_false (Nat.not_lt_zero a), Bool.false_and]; rfl
theorem RR0 {σ : St} (h : P9 σ) : RR σ s10 := by
  refine ⟨O00, N1, fun _ => none, 0, fun _ => 0, O00_ok, ⟨by show 0 ≤ 31; omega, by show 0 < 256; omega, by show 0 < 32; omega, fun t ht => absurd ht (Nat.not_lt_zero t)⟩, by show 0 ≤ 30; omega, (fun i N' q => by cases q), by omega, h.1, md10, h.2⟩
theorem blind9 {D : va_G} {cy : Nat → ClassId} {zb : Nat → Nat} {h0 sz : Nat} : FrameBlind (va_Pc [.ref h0] (pre9 D cy zb h0 sz)) := fun a U g mk q => by
  obtain ⟨q0, q1, qP, qK, qO, qA, qZ, n0, n1, n2, n3, n4, n5, n6, n7⟩ := q
  exact ⟨q0, q1, qP, va_K.moved (u := U) (U := U.calling g mk a) (Vm.Alike.refl U.vm) qK, over_moved (u := U) (E := U.calling g mk a) (Vm.Alike.refl U.vm) qO, va_AO.moved (u := U) (U := U.calling g mk a) (Vm.Alike.refl U.vm) qA, zG_same (u := U) (U := U.calling g mk a) rfl qZ, va_Nw.same (u := U) (U := U.calling g mk a) rfl rfl n0, va_Nw.same (u := U) (U := U.calling g mk a) rfl rfl n1, va_Nw.same (u := U) (U := U.calling g mk a) rfl rfl n2, va_Nw.same (u := U) (U := U.calling g mk a) rfl rfl n3, va_Nw.same (u := U) (U := U.calling g mk a) rfl rfl n4, va_Nw.same (u := U) (U := U.calling g mk a) rfl rfl n5, va_Nw.same (u := U) (U := U.calling g mk a) rfl rfl n6, va_Nw.same (u := U) (U := U.calling g mk a) rfl rfl n7⟩
theorem mL (i : Nat) {w : Cond} (h : wsL_law[i]? = some w) : w ∈ wsL_law := List.mem_of_getElem? h
set_option maxHeartbeats 16000000 in
set_option maxRecDepth 100000 in
theorem whole_start {p : Program} {e : Env} {s : State} {m : MethodId} {below : List Frame} {meth : Method} {c : Code} (l : Launch) (hflags : l.flags = flags0) {b L : Nat} {xs : Nat → Int32} (hL : L ≤ 2048) (C0 : lw_At p s m meth c b L xs) : W p l e room_1 s m #[Value.ref b] below meth c s.heap [] 0 0 (lw_Z below #[Value.ref b] s) (entryFrame m ([Value.ref b] : List Value).toArray 4) := by
  obtain ⟨hx, hb, hr, hml, hown, hts, hX, hbl, hlocks, hgv⟩ := C0
  have hs : ∀ w ∈ flN, w.before #[Value.ref b] s = true := flat_of_before _ hgv
  have hw : ∀ w ∈ wsL_law, w.before #[Value.ref b] s = true := fun w h => hts w (wsL_law_in w h)
  obtain ⟨D, cy, hK⟩ := wo_K hts
  obtain ⟨zb, hZ⟩ := wo_Z hs hts
  have hO : va_AOA .int s := hts _ m_ao1
  have hAO : va_AO "HalfLadders$Now" s := va_AO.of (hts _ m_ao2)
  have hn : nst s := ⟨va_Nw.of rfl (hts _ m_n0), va_Nw.of rfl (hts _ m_n1), va_Nw.of rfl (hts _ m_n2), va_Nw.of rfl (hts _ m_n3), va_Nw.of rfl (hts _ m_n4), va_Nw.of rfl (hts _ m_n5), va_Nw.of rfl (hts _ m_n6), va_Nw.of rfl (hts _ m_n7)⟩
  have X0 : CallFix p m c code 4 s #[Value.ref b] wsL_law RL := ⟨hx, hb, hml, hown, hw⟩
  have hA0 : ∀ q : Nat, s.heap.size ≤ q → (fun q : Nat => s.heap.size ≤ q) q := fun _ h => h
  have hS0 : va_S (fun q : Nat => s.heap.size ≤ q) s.heap s.heap [] := va_S.rf
  have hP0 : va_P D vwCl [] s.heap := fun k q h => by simp at h
  have hD0 : va_D (fun q : Nat => s.heap.size ≤ q) [] := ⟨fun i j p q h => by simp at h, fun k q h => by simp at h⟩
  have hl := lv_entry ([.ref b]) (n := 4) (Nat.le_of_ble_eq_true rfl)
  rw [lg_entry_eq]
  generalize (lg_sl ([.ref b]) ++ List.replicate (4 - (lg_sl ([.ref b])).length) Slot.unset).toArray = ls at hl ⊢
  have hl : lv_has ls 4 [(0, .ref b)] := hl
  refine va_new (ci := 9) (fs := [.null, .null, .null, .null, .null, .null, .null, .null, .null, .null, .null, .null, .null, .long 0]) (C := RX9) (T := TX9) (N := 14) hx hb hw inlX9 tyX9 tyX9_ok hown (hw _ (mL 0 (by decide +kernel) : Cond.classLink RL 7 RX9 ∈ wsL_law)) (hw _ (mL 1 (by decide +kernel) : Cond.instantiable RX9 14 ∈ wsL_law)) (hw _ (mL 2 (by decide +kernel) : Cond.initialized RX9 ∈ wsL_law)) hK hP0 hD0 hS0 hA0 rfl (fun j hj => by rcases (show j = 0 ∨ j = 1 ∨ j = 2 ∨ j = 3 ∨ j = 4 ∨ j = 5 ∨ j = 6 ∨ j = 7 ∨ j = 8 ∨ j = 9 ∨ j = 10 ∨ j = 11 ∨ j = 12 ∨ j = 13 by omega) with rfl | rfl | rfl | rfl | rfl | rfl | rfl | rfl | rfl | rfl | rfl | rfl | rfl | rfl <;> rfl) (Nat.le_of_ble_eq_true rfl) (Nat.le_of_ble_eq_true rfl) dL_law_0 (fun q0 H1 hP1 hD1 hS1 => ?_)
  have hP1 : va_P D vwCl [(q0, e9)] H1 := hP1
  have hD1 : va_D (fun q : Nat => s.heap.size ≤ q) [(q0, e9)] := hD1
  have hF1 : ∀ q, va_A [(q0, e9)] H1.size q → s.heap.size ≤ q := va_free hD1 hS1 hA0 [0] rfl
  refine lv_dup hx hb dL_law_3 rfl ?_
  refine va_callv (va_runI (As := []) (rest := [.ref q0]) X0 (kX9_init l D cy zb q0 H1.size) (cwI 0 hw gL_law_X9_init rfl rfl rfl (hw _ (mL 2 (by decide +kernel) : Cond.initialized RX9 ∈ wsL_law)) (hw _ (mL 7 (by decide +kernel) : Cond.methodLink RL 9 yX9_init ∈ wsL_law)) (hw _ (mL 8 (by decide +kernel) : Cond.instanceMethod yX9_init ∈ wsL_law)) rfl (by decide +kernel) ⟨Nat.le_of_ble_eq_true rfl, Nat.le_of_ble_eq_true rfl⟩) ⟨blind9, fun U hU hW => ⟨rfl, by rw [hU], by rw [hU]; exact hP1, va_K.moved hW.alike hK, over_moved hW.alike hO, va_AO.moved hW.alike hAO, ?_, va_Nw.warmM hW hn.1, va_Nw.warmM hW hn.2.1, va_Nw.warmM hW hn.2.2.1, va_Nw.warmM hW hn.2.2.2.1, va_Nw.warmM hW hn.2.2.2.2.1, va_Nw.warmM hW hn.2.2.2.2.2.1, va_Nw.warmM hW hn.2.2.2.2.2.2.1, va_Nw.warmM hW hn.2.2.2.2.2.2.2⟩⟩ rfl rfl hl.1 rfl (lv_room (Nat.le_of_ble_eq_true rfl)) dL_law_4 ⟨Nat.le_of_ble_eq_true rfl, Nat.le_of_ble_eq_true rfl⟩) hS1 (fun q _ h => hF1 q h) hF1 (fun u t H2 locs2 ht _ hp hB hz2 hk2 hS2 => ?_)
  · rw [hU]
    exact zG_narrow (zG_warm (H := H1) hW hS1.2.1 hZ) hF1
  obtain ⟨aC, σ0⟩ := u
  obtain ⟨hp0, hp9⟩ := hp
  obtain ⟨hPC, hDC⟩ := hB
  rw [ht] at hPC
  have hp0 : aC 0 = q0 := hp0
  have hPC : va_P D vwCl (xW (wC aC cy zb) σ0) H2 := hPC
  have hDC : va_D (fun q : Nat => s.heap.size ≤ q) (xW (wC aC cy zb) σ0) := ⟨hDC.1, fun k q h => hF1 _ (hDC.2 k q h)⟩
  refine lv_astore_n (lv' := [(1, .ref q0), (0, .ref b)]) hx hb dL_law_7 rfl hl (by decide) rfl (fun ls hl => ?_)
  refine va_new (ci := 10) (fs := [.long 0, .null, .int 0, .null, .null, .null, .null, .null, .null, .null, .null, .null, .null, .int 0, .int 0, .int 0, .int 0, .int 0, .null, .null, .null, .null, .null, .null, .null, .null, .null]) (C := RX10) (T := TX10) (N := 27) hx hb hw inlX10 tyX10 tyX10_ok hown (hw _ (mL 3 (by decide +kernel) : Cond.classLink RL 10 RX10 ∈ wsL_law)) (hw _ (mL 4 (by decide +kernel) : Cond.instantiable RX10 27 ∈ wsL_law)) (hw _ (mL 5 (by decide +kernel) : Cond.initialized RX10 ∈ wsL_law)) hK hPC hDC hS2 hA0 rfl (fun j hj => by rcases (show j = 0 ∨ j = 1 ∨ j = 2 ∨ j = 3 ∨ j = 4 ∨ j = 5 ∨ j = 6 ∨ j = 7 ∨ j = 8 ∨ j = 9 ∨ j = 10 ∨ j = 11 ∨ j = 12 ∨ j = 13 ∨ j = 14 ∨ j = 15 ∨ j = 16 ∨ j = 17 ∨ j = 18 ∨ j = 19 ∨ j = 20 ∨ j = 21 ∨ j = 22 ∨ j = 23 ∨ j = 24 ∨ j = 25 ∨ j = 26 by omega) with rfl | rfl | rfl | rfl | rfl | rfl | rfl | rfl | rfl | rfl | rfl | rfl | rfl | rfl | rfl | rfl | rfl | rfl | rfl | rfl | rfl | rfl | rfl | rfl | rfl | rfl | rfl <;> rfl) (Nat.le_of_ble_eq_true rfl) (Nat.le_of_ble_eq_true rfl) dL_law_8 (fun q1 H3 hP3 hD3 hS3 => ?_)
  have hF3 : ∀ q, va_A [(q1, .inr (10, [.long 0, .null, .int 0, .null, .null, .null, .null, .null, .null, .null, .null, .null, .null, .int 0, .int 0, .int 0, .int 0, .int 0, .null, .null, .null, .null, .null, .null, .null, .null, .null]))] H3.size q → s.heap.size ≤ q := va_free hD3 hS3 hA0 [(xW (wC aC cy zb) σ0).length] (by simp)
  refine lv_dup hx hb dL_law_11 rfl ?_
  refine va_callv (va_runI (As := []) (rest := [.ref q1]) X0 (kX10_init l D cy q1 H3.size) (cwI 0 hw gL_law_X10_init rfl rfl rfl (hw _ (mL 5 (by decide +kernel) : Cond.initialized RX10 ∈ wsL_law)) (hw _ (mL 262 (by decide +kernel) : Cond.methodLink RL 12 yX10_init ∈ wsL_law)) (hw _ (mL 263 (by decide +kernel) : Cond.instanceMethod yX10_init ∈ wsL_law)) rfl (by decide +kernel) ⟨Nat.le_of_ble_eq_true rfl, Nat.le_of_ble_eq_true rfl⟩) ⟨sc_blind, fun U hU hW => ⟨rfl, by rw [hU], by rw [hU]; exact last1 hP3, va_K.moved hW.alike hK, over_moved hW.alike hO⟩⟩ rfl rfl hl.1 rfl (lv_room (Nat.le_of_ble_eq_true rfl)) dL_law_12 ⟨Nat.le_of_ble_eq_true rfl, Nat.le_of_ble_eq_true rfl⟩) hS3 (fun q _ h => hF3 q h) hF3 (fun ad t H4 locs4 ht4 _ _ hB4 _ hk4 hS4 => ?_)
  obtain ⟨hP4, hD4⟩ := hB4
  rw [ht4] at hP4
  obtain ⟨hP5, hD5⟩ := cj_join hP3 hD3 hk4 hF3 hP4 hD4
  obtain ⟨aM, haM⟩ : ∃ aM : Nat → Nat, aM = adL [q1, ad 0 0, ad 0 1, ad 0 2, ad 0 3, ad 0 4, ad 0 5, ad 0 6, ad 0 7, ad 0 8, ad 0 9, ad 0 10, ad 0 11, ad 0 12, ad 0 13, ad 0 14, ad 0 15, ad 0 16, ad 0 17, ad 0 18, ad 0 19] := ⟨_, rfl⟩
  have eM10 : sgX10 cy q1 ad = xW (wM aM cy) s10 := by rw [haM]; rfl
  rw [eM10] at hP4 hP5 hD5
  have hPC4 : va_P D vwCl (xW (wC aC cy zb) σ0) H4 := fun k q h => hP5 k q (by rw [List.getElem?_append_left (List.getElem?_eq_some_iff.mp h).1]; exact h)
  have lenC : (xW (wC aC cy zb) σ0).length = 75 := by simp [xW]
  have atC : ∀ i, i < 75 → (xW (wC aC cy zb) σ0 ++ xW (wM aM cy) s10)[i]? = some (aC i, eC aC cy i (σ0.1 i) σ0.2) := fun i hi => by
    rw [List.getElem?_append_left (by rw [lenC]; exact hi)]
    exact xW_at (w := wC aC cy zb) hi
  have atM : ∀ j, j < 21 → (xW (wC aC cy zb) σ0 ++ xW (wM aM cy) s10)[75 + j]? = some (aM j, eM aM cy j (s10.1 j) s10.2) := fun j hj => by
    rw [List.getElem?_append_right (by rw [lenC]; omega), lenC, show 75 + j - 75 = j by omega]
    exact xW_at (w := wM aM cy) hj
  have oC : xOk (wC aC cy zb) := xOk_C (fun i j hi hj h => hD5.1 i j _ _ (atC i hi) (atC j hj) h)
  have oM : xOk (wM aM cy) := xOk_M (fun i j hi hj h => by
    have := hD5.1 (75 + i) (75 + j) _ _ (atM i hi) (atM j hj) h
    omega)
  have X : ZZ p s m #[Value.ref b] meth c D cy aC aM b L xs zb := ⟨X0, hK, hX, hbl, hZ, fun i hi => hD5.2 i _ (atC i hi), fun j hj => hD5.2 (75 + j) _ (atM j hj), oC, oM, fun i j hi hj h => by
    have := hD5.1 i (75 + j) _ _ (atC i hi) (atM j hj) h
    omega, hL⟩
  refine lv_astore_n (lv' := [(2, .ref q1), (1, .ref q0), (0, .ref b)]) hx hb dL_law_15 rfl hl (by decide) rfl (fun ls hl => ?_)
  refine lv_iconst (v := 0) hx hb dL_law_16 (by decide) ?_
  refine lv_istore_n (lv' := [(3, .int 0), (2, .ref q1), (1, .ref q0), (0, .ref b)]) hx hb dL_law_17 rfl hl (by decide) rfl (fun ls hl => ?_)
  refine W.widen (k := 96) (n := 8744) (Nat.le_of_ble_eq_true rfl) (Nat.le_of_ble_eq_true rfl) ?_
  have hl : lv_has ls 4 (lvL b aC aM 0) := by
    have e1 : aM 0 = q1 := by rw [haM]; rfl
    show lv_has ls 4 [(0, .ref b), (1, .ref (aC 0)), (2, .ref (aM 0)), (3, .int (nI (4 * 0)))]
    rw [hp0, e1]
    exact lv_sub hl [3, 2, 1, 0] rfl
  exact law_loop X hr hlocks 514 0 σ0 s10 (by omega) (by omega) (RR0 hp9) ls hl H4 locs4 hPC4 hP4 hS4
