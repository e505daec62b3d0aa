def adL (L : List Nat) : Nat → Nat := fun i => L.getD i 0
def s9 : St := (fun i => if i = 6 then (fun j => if j = 2 then 6 else 0) else if i = 37 then (fun j => if j = 4 then 1 else 0) else if i = 65 then (fun j => if j = 5 then 1 else 0) else fun _ => 0, (0, 7, 16))
def rmX9_init : Room := { frames := 25, cells := 74, slots := 3754, locals := 618 }
abbrev e9 : va_E := .inr (9, [.null, .null, .null, .null, .null, .null, .null, .null, .null, .null, .null, .null, .null, .long 0])
def nst (U : State) : Prop := va_Nw (.methodLinkNest RX9 11 yX8_init RX9) U ∧ va_Nw (.methodLinkNest RX9 27 yX3_init RX9) U ∧ va_Nw (.methodLinkNest RX9 37 yX4_init RX9) U ∧ va_Nw (.methodLinkNest RX9 44 yX7_init RX9) U ∧ va_Nw (.methodLinkNest RX9 51 yX0_init RX9) U ∧ va_Nw (.methodLinkNest RX9 58 yX1_init RX9) U ∧ va_Nw (.methodLinkNest RX9 65 yX5_init RX9) U ∧ va_Nw (.methodLinkNest RX9 72 yX2_init RX9) U
def N00 : Nw := (0, 0, 0, 0, 0, 1, fun _ => 0)
def N1 : Nw := nSetB (nBeg N00) (oB O00)
def P9 (σ : St) : Prop := clR σ O00 N1 (fun _ => none) 0 (fun _ => 0) ∧ σ.2.1 = 0
theorem anew9 : wX9_startAnew s9 P9 := by
  have ho : isO s9.2.2.1 := Or.inl rfl
  refine s_startAnew (O := O00) (N := N00) (T0 := 0) (T := 0) ho ⟨rfl, rfl, fun p hp => absurd hp (Nat.not_lt_zero p), fun t ht => absurd ht (Nat.not_lt_zero t)⟩ O00_ok ⟨rfl, rfl, rfl, rfl, rfl, rfl, fun t ht => absurd ht (Nat.not_lt_zero t)⟩ (fun σ' hf hc hn hi hk => ?_)
  refine ⟨⟨hc, hn, hi, hk, ⟨?_, fun j hj => absurd hj (Nat.not_lt_zero j)⟩, ?_, ?_⟩, ?_⟩
  · rw [hf.1 1 (by decide)]; rfl
  · rw [hf.2]; exact Or.inr rfl
  · rw [hf.2]; show (16 : Nat) ≠ 7; omega
  · rw [hf.2]; rfl
section C9
variable {p : Program} {l : Launch} {e : Env} {s : State} {m : MethodId} {args : Array Value} {below : List Frame} {meth : Method} {c : Code} {D : va_G} {cy : Nat → ClassId} {A : Nat → Prop} {zb : Nat → Nat}
abbrev Q9 (below : List Frame) (args : Array Value) (s : State) (D : va_G) (cy : Nat → ClassId) (A : Nat → Prop) (zb : Nat → Nat) (h0 : Nat) : State → Prop := MQ below (va_Qv (fun u : (Nat → Nat) × St => u.1 0 = h0 ∧ P9 u.2) (fun u t => va_P D vwCl (xW (wC u.1 cy zb) u.2) t.heap ∧ va_D A (xW (wC u.1 cy zb) u.2)) A) args s 74 3754 A
theorem cj_end9 (X : YY p s m args meth c cX9_init 2 D cy A wsX9_init RX9) (hZ : zG A zb s s.heap) (hr : meth.sig.returnType = none) (ad : Nat → Nat) (h0 : Nat) (had : h0 = ad 0) : CJ p l e rmX9_init s m args below meth c (Q9 below args s D cy A zb h0) 2 D A (xW (wC ad cy zb) s9) 74 3754 184 [(1, .int 2), (0, .ref h0)] [.ref h0] := by
  subst had
  intro ls hls H locs hP hD hS
  have inj : ∀ i j, i < 75 → j < 75 → ad i = ad j → i = j := fun i j hi hj e => hD.1 i j _ _ (xW_at (w := wC ad cy zb) (σ := s9) hi) (xW_at (w := wC ad cy zb) (σ := s9) hj) e
  have hA : ∀ k, k < 75 → A (ad k) := fun k hk => hD.2 k _ (xW_at (w := wC ad cy zb) (σ := s9) hk)
  have hw : xOk (wC ad cy zb) := xOk_C inj
  have hM := kX9_startAnew l D hw (P := P9) (σ := s9) anew9
  have hsub : ∀ q, xA (wC ad cy zb) q → A q := fun q h => by
    obtain ⟨i, hi, e⟩ := h
    rw [← e]; exact hA i hi
  refine va_callv (va_runV (C := RX9) (As := []) (rest := []) X.1 hM (cwV 0 X.1.2.2.2.2 gX9_init_X9_startAnew rfl rfl rfl (by decide +kernel) ⟨Nat.le_of_ble_eq_true rfl, Nat.le_of_ble_eq_true rfl⟩) ⟨xPre_blind hw, va_recv (ci := 9) (q0 := 0) X.2.1 hP rfl (xW_at (w := wC ad cy zb) (σ := s9) (by show (0 : Nat) < 75; omega)), fun U hU hW => ⟨rfl, by rw [hU]; exact hP, va_K.moved hW.alike X.2.1, ?_⟩⟩ rfl rfl hls.1 rfl (lv_room (Nat.le_of_ble_eq_true rfl)) dX9_init_184 ⟨Nat.le_of_ble_eq_true rfl, Nat.le_of_ble_eq_true rfl⟩) hS (fun q _ h => hsub q h) hsub (fun σ' t H1 locs1 ht _ hp hB _ _ hS1 => ?_)
  · have z := zG_warm (A := A) (zb := zb) (s := s) (U := U) (H := H) hW hS.2.1 hZ
    rw [hU]
    exact zG_narrow z (fun q h => by
      obtain ⟨i, hi, e⟩ := h
      rw [← e]; exact hA i hi)
  · unfold xPost at hB
    rw [ht] at hB
    have hD1 : va_D A (xW (wC ad cy zb) σ') := by
      have := xW_D hw σ'
      exact ⟨this.1, fun k q hk => hsub _ (this.2 k q hk)⟩
    exact W.vret X.1.1 X.1.2.1 hr (fun t ht _ => ⟨⟨(ad, σ'), rfl, ⟨rfl, hp⟩, by rw [ht]; exact hB, hD1⟩, hS1.F ht⟩) hS1.2.2 dX9_init_187 X.2.2.1
end C9
def pre9 (D : va_G) (cy : Nat → ClassId) (zb : Nat → Nat) (h0 sz : Nat) : State → Prop := fun U => U.heap.size = sz ∧ va_P D vwCl [(h0, e9)] U.heap ∧ va_K D vwCl (xTy cy) U ∧ va_AOA .int U ∧ va_AO "HalfLadders$Now" U ∧ zG (va_A [(h0, e9)] sz) zb U U.heap ∧ nst U
