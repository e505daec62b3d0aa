/-! the two worlds: the class's cells and the reference's, by number -/
def jn {α : Sort _} (k : α) (f : α → Prop) : Prop := f k
theorem jn_el {α : Sort _} {k : α} {f : α → Prop} (h : jn k f) : ∃ J, J = k ∧ f J := ⟨k, rfl, h⟩
theorem jn_in {α : Sort _} {k : α} {f : α → Prop} (h : f k) : jn k f := h
theorem zb01 {x : Int32} (h : x = 0 ∨ x = 1) : narrow .boolean (.int x) = .int x := by rcases h with rfl | rfl <;> rfl
def sF (σ : St) (k n : Nat) (v : Int32) : St := (fun i => if i = k then (fun j => if j < n then v else σ.1 k j) else σ.1 i, σ.2)
/-- the static arrays -/
def zL (i : Nat) : Nat := if i = 2 then 9 else 6
def zN (i : Nat) : String := if i = 0 then "KIND_ABOVE" else if i = 1 then "KIND_TRACE" else "FACTORIALS"
def zT (i j : Nat) : Int32 := if i = 0 then ([0, 0, 0, 1, 2, 0] : List Int32).getD j 0 else if i = 1 then ([1, 10, 100, 1000, 10000, 100000] : List Int32).getD j 0 else ([1, 1, 2, 6, 24, 120, 720, 5040, 40320] : List Int32).getD j 0
/-- the words: left, right, quarrel, tree -/
def zSlen : List Nat := [4, 5, 7, 4]
def zSbyt : List (List Int32) := [[108, 101, 102, 116], [114, 105, 103, 104, 116], [113, 117, 97, 114, 114, 101, 108], [116, 114, 101, 101]]
def zStx (i : Nat) : String := if i = 0 then "left" else if i = 1 then "right" else if i = 2 then "quarrel" else "tree"
def zSix (i : Nat) : Nat := if i = 0 then 55 else if i = 1 then 61 else if i = 2 then 63 else 65
/-- a static that holds a table or nothing: it is only carried -/
def zq (zb : Nat → Nat) : Value := if zb 31 = 0 then .null else .ref (zb 30)
def zG (A : Nat → Prop) (zb : Nat → Nat) (U : State) (H : Heap) : Prop :=
  (∀ i, i < 3 → va_Z "HalfLadders" (zN i) "[I" (.ref (zb i)) A U H ∧ va_T .int (zb i) (zL i) (fun j => .int (zT i j)) A U H) ∧
  va_Nw (.methodLinkNest RX1 59 yX9_restsFrom RX9) U ∧ va_Nw (.fieldLinkNest RX7 49 RX9 "FACTORIALS" "[I" RX9) U ∧
  vk_S 4 zSlen zSbyt (fun i => zb (10 + i)) (fun i => zb (20 + i)) A U H ∧ (∀ i, i < 4 → vk_R RX8 (zSix i) (zStx i) (zb (10 + i)) U) ∧
  va_Z "java/lang/String" "COMPACT_STRINGS" "Z" (.int 1) A U H ∧ va_Z "jdk/internal/util/Preconditions" "SIOOBE_FORMATTER" "Ljava/util/function/BiFunction;" (zq zb) A U H
def zC (ad zb : Nat → Nat) (U : State) (H : Heap) : Prop := zG (fun q => ∃ k, k < 75 ∧ ad k = q) zb U H
theorem va_X.ltH {b L : Nat} {xs : Nat → Int32} {U : State} {H : Heap} (h : va_X b L xs U H) : b < H.size := by
  obtain ⟨scr, h1, -⟩ := h
  exact (Array.getElem?_eq_some_iff.mp h1).1
theorem zG_same {A : Nat → Prop} {zb : Nat → Nat} {u U : State} {H : Heap} (hv : U.vm = u.vm) (h : zG A zb u H) : zG A zb U H := by
  obtain ⟨h1, h2, h3, h4, h5, h6, h7⟩ := h
  have al : u.vm.Alike U.vm := by rw [hv]; exact Vm.Alike.refl _
  exact ⟨fun i hi => ⟨(h1 i hi).1.moved al, (h1 i hi).2.moved al⟩, va_Nw.same rfl hv.symm h2, va_Nw.same rfl hv.symm h3, h4.moved al, fun i hi => (h5 i hi).same hv, h6.moved al, h7.moved al⟩
theorem zG_warm {A : Nat → Prop} {zb : Nat → Nat} {s U : State} {H : Heap} (hW : s.WarmedH U.vm) (hk : ∀ q : Nat, q < s.heap.size → ¬ A q → H[q]? = s.heap[q]?) (h : zG A zb s s.heap) : zG A zb U H := by
  obtain ⟨h1, h2, h3, h4, h5, h6, h7⟩ := h
  exact ⟨fun i hi => ⟨((h1 i hi).1.kept hk).moved hW.alike, ((h1 i hi).2.kept hk).moved hW.alike⟩, va_Nw.warmM hW h2, va_Nw.warmF hW h3, (h4.kept hk).moved hW.alike, fun i hi => (h5 i hi).warm hW, (h6.kept hk).moved hW.alike, (h7.kept hk).moved hW.alike⟩
theorem zG_narrow {A B : Nat → Prop} {zb : Nat → Nat} {U : State} {H : Heap} (h : zG A zb U H) (hAB : ∀ q, B q → A q) : zG B zb U H := by
  obtain ⟨h1, h2, h3, h4, h5, h6, h7⟩ := h
  exact ⟨fun i hi => ⟨(h1 i hi).1.narrow hAB, (h1 i hi).2.narrow hAB⟩, h2, h3, h4.narrow hAB, h5, h6.narrow hAB, h7.narrow hAB⟩
theorem zC_same {ad zb : Nat → Nat} {u U : State} {H : Heap} (hv : U.vm = u.vm) (h : zC ad zb u H) : zC ad zb U H := zG_same hv h
theorem zC_warm {ad zb : Nat → Nat} {s U : State} {H : Heap} (hW : s.WarmedH U.vm) (hk : ∀ q : Nat, q < s.heap.size → ¬ (∃ k, k < 75 ∧ ad k = q) → H[q]? = s.heap[q]?) (h : zC ad zb s s.heap) : zC ad zb U H := zG_warm hW hk h

abbrev lC (ad : Nat → Nat) (cy : Nat → ClassId) (f : Nat → Int32) (τ : Int64 × Nat × Nat) : List va_E := [.inr (9, [.ref (ad 1), .ref (ad 6), .ref (ad τ.2.1), .ref (ad τ.2.2), .ref (ad 25), .ref (ad 32), .ref (ad 34), .ref (ad 37), .ref (ad 50), .ref (ad 65), .ref (ad 67), .ref (ad 69), .ref (ad 70), .long τ.1]),
  .inr (8, [.ref (ad 2), .int (f 1), .ref (ad 3), .ref (ad 4), .ref (ad 5)]),
  .inl (cy 1, 300, .inl f),
  .inl (cy 0, 301, .inl f),
  .inl (cy 0, 301, .inl f),
  .inl (cy 0, 301, .inl f),
  .inr (6, [.ref (ad 1), .int (f 1), .int (f 2), .int (f 3)]),
  .inr (3, [.int (f 0), .int (f 1), .ref (ad 8), .ref (ad 9), .ref (ad 10), .ref (ad 11), .ref (ad 12), .ref (ad 13), .ref (ad 14), .ref (ad 15)]),
  .inl (cy 0, 8, .inl f),
  .inl (cy 0, 8, .inl f),
  .inl (cy 0, 8, .inl f),
  .inl (cy 0, 8, .inl f),
  .inl (cy 0, 8, .inl f),
  .inl (cy 0, 5, .inl f),
  .inl (cy 0, 5, .inl f),
  .inl (cy 0, 5, .inl f),
  .inr (3, [.int (f 0), .int (f 1), .ref (ad 17), .ref (ad 18), .ref (ad 19), .ref (ad 20), .ref (ad 21), .ref (ad 22), .ref (ad 23), .ref (ad 24)]),
  .inl (cy 0, 8, .inl f),
  .inl (cy 0, 8, .inl f),
  .inl (cy 0, 8, .inl f),
  .inl (cy 0, 8, .inl f),
  .inl (cy 0, 8, .inl f),
  .inl (cy 0, 5, .inl f),
  .inl (cy 0, 5, .inl f),
  .inl (cy 0, 5, .inl f),
  .inr (4, [.int (f 0), .int (f 1), .ref (ad 26), .ref (ad 27), .ref (ad 28), .ref (ad 29), .ref (ad 30), .ref (ad 31)]),
  .inl (cy 0, 16, .inl f),
  .inl (cy 0, 16, .inl f),
  .inl (cy 0, 16, .inl f),
  .inl (cy 0, 16, .inl f),
  .inl (cy 0, 16, .inl f),
  .inl (cy 0, 16, .inl f),
  .inr (7, [.ref (ad 33)]),
  .inl (cy 0, 256, .inl f),
  .inr (0, [.ref (ad 35), .ref (ad 36)]),
  .inl (cy 0, 5, .inl f),
  .inl (cy 0, 256, .inl f),
  .inr (1, [.ref (ad 38), .ref (ad 47), .ref (ad 48), .ref (ad 49), .int (f 4)]),
  .inl (cy 3, 8, .inr (.inr (.inr (.inr (fun j => some (ad (39 + j))))))),
  .inl (cy 0, 8, .inl f),
  .inl (cy 0, 8, .inl f),
  .inl (cy 0, 8, .inl f),
  .inl (cy 0, 8, .inl f),
  .inl (cy 0, 8, .inl f),
  .inl (cy 0, 8, .inl f),
  .inl (cy 0, 8, .inl f),
  .inl (cy 0, 8, .inl f),
  .inl (cy 0, 8, .inl f),
  .inl (cy 0, 8, .inl f),
  .inl (cy 0, 8, .inl f),
  .inr (5, [.ref (ad 51), .ref (ad 52), .ref (ad 58)]),
  .inl (cy 0, 5, .inl f),
  .inl (cy 3, 5, .inr (.inr (.inr (.inr (fun j => some (ad (53 + j))))))),
  .inl (cy 0, 16, .inl f),
  .inl (cy 0, 16, .inl f),
  .inl (cy 0, 16, .inl f),
  .inl (cy 0, 16, .inl f),
  .inl (cy 0, 16, .inl f),
  .inl (cy 3, 6, .inr (.inr (.inr (.inr (fun j => some (ad (59 + j))))))),
  .inl (cy 0, 256, .inl f),
  .inl (cy 0, 256, .inl f),
  .inl (cy 0, 256, .inl f),
  .inl (cy 0, 256, .inl f),
  .inl (cy 0, 256, .inl f),
  .inl (cy 0, 256, .inl f),
  .inr (2, [.int (f 0), .int (f 1), .int (f 2), .int (f 3), .int (f 4), .int (f 5), .ref (ad 66)]),
  .inl (cy 0, 5, .inl f),
  .inr (2, [.int (f 0), .int (f 1), .int (f 2), .int (f 3), .int (f 4), .int (f 5), .ref (ad 68)]),
  .inl (cy 0, 5, .inl f),
  .inl (cy 4, 2, .inr (.inr (.inr (.inr (fun j => some (ad (71 + 2 * j))))))),
  .inl (cy 2, 2, .inl f),
  .inr (2, [.int (f 0), .int (f 1), .int (f 2), .int (f 3), .int (f 4), .int (f 5), .ref (ad 72)]),
  .inl (cy 0, 5, .inl f),
  .inr (2, [.int (f 0), .int (f 1), .int (f 2), .int (f 3), .int (f 4), .int (f 5), .ref (ad 74)]),
  .inl (cy 0, 5, .inl f)]
def eC (ad : Nat → Nat) (cy : Nat → ClassId) : Nat → (Nat → Int32) → (Int64 × Nat × Nat) → va_E := fun k f τ => (lC ad cy f τ).getD k (.inl (cy 0, 0, .inl f))
abbrev lM (ad : Nat → Nat) (cy : Nat → ClassId) (f : Nat → Int32) (τ : Int64 × Nat × Nat) : List va_E := [.inr (10, [.long τ.1, .ref (ad 1), .int (f 2), .ref (ad 2), .ref (ad 3), .ref (ad 4), .ref (ad 5), .ref (ad 6), .ref (ad 7), .ref (ad 8), .ref (ad 9), .ref (ad 10), .ref (ad 11), .int (f 13), .int (f 14), .int (f 15), .int (f 16), .int (f 17), .ref (ad 12), .ref (ad 13), .ref (ad 14), .ref (ad 15), .ref (ad 16), .ref (ad 17), .ref (ad 18), .ref (ad 19), .ref (ad 20)]),
  .inl (cy 1, 300, .inl f),
  .inl (cy 0, 2, .inl f),
  .inl (cy 0, 16, .inl f),
  .inl (cy 0, 16, .inl f),
  .inl (cy 0, 16, .inl f),
  .inl (cy 0, 16, .inl f),
  .inl (cy 2, 128, .inl f),
  .inl (cy 0, 2, .inl f),
  .inl (cy 0, 10, .inl f),
  .inl (cy 0, 10, .inl f),
  .inl (cy 0, 10, .inl f),
  .inl (cy 0, 48, .inl f),
  .inl (cy 2, 2, .inl f),
  .inl (cy 0, 1536, .inl f),
  .inl (cy 0, 5, .inl f),
  .inl (cy 0, 256, .inl f),
  .inl (cy 0, 8, .inl f),
  .inl (cy 0, 8, .inl f),
  .inl (cy 0, 1280, .inl f),
  .inl (cy 0, 1280, .inl f)]
def eM (ad : Nat → Nat) (cy : Nat → ClassId) : Nat → (Nat → Int32) → (Int64 × Nat × Nat) → va_E := fun k f τ => (lM ad cy f τ).getD k (.inl (cy 0, 0, .inl f))
abbrev wC (ad : Nat → Nat) (cy : Nat → ClassId) (zb : Nat → Nat) : WD := (eC ad cy, 75, ad, zC ad zb)
abbrev wM (ad : Nat → Nat) (cy : Nat → ClassId) : WD := (eM ad cy, 21, ad, fun _ _ => True)
theorem xOk_C {ad zb : Nat → Nat} {cy : Nat → ClassId} (h : ∀ i j, i < 75 → j < 75 → ad i = ad j → i = j) : xOk (wC ad cy zb) := ⟨h, fun _ _ _ hv hz => zC_same hv hz, fun _ _ _ hW hk hz => zC_warm hW hk hz⟩
theorem xOk_M {ad : Nat → Nat} {cy : Nat → ClassId} (h : ∀ i j, i < 21 → j < 21 → ad i = ad j → i = j) : xOk (wM ad cy) := ⟨h, fun _ _ _ _ _ => trivial, fun _ _ _ _ _ _ => trivial⟩
theorem eC_T {ad : Nat → Nat} {cy : Nat → ClassId} {τ τ' : Int64 × Nat × Nat} : ∀ (i : Nat) (f : Nat → Int32), i ≠ 0 → eC ad cy i f τ = eC ad cy i f τ' := fun i f h => by
  cases i with
  | zero => exact absurd rfl h
  | succ i => rfl
theorem eM_T {ad : Nat → Nat} {cy : Nat → ClassId} {τ τ' : Int64 × Nat × Nat} : ∀ (i : Nat) (f : Nat → Int32), i ≠ 0 → eM ad cy i f τ = eM ad cy i f τ' := fun i f h => by
  cases i with
  | zero => exact absurd rfl h
  | succ i => rfl
def isO (o : Nat) : Prop := o = 7 ∨ o = 16
def isN (n : Nat) : Prop := n = 65 ∨ n = 67 ∨ n = 71 ∨ n = 73
theorem isN_65 : isN 65 := Or.inl rfl
theorem isN_67 : isN 67 := Or.inr (Or.inl rfl)
theorem isO_lt {o : Nat} (off : Nat) (h : isO o) (ho : off ≤ 8) : o + off < 75 := by rcases h with rfl | rfl <;> omega
theorem isN_lt {n : Nat} (off : Nat) (h : isN n) (ho : off ≤ 8) : n + (off % 2) < 75 := by rcases h with rfl | rfl | rfl | rfl <;> omega
theorem vp_lt {i : Int32} {n : Nat} (h : vp_in i n) : i.toNatClampNeg < n := Nat.not_le.mp fun q => h (Or.inr q)
theorem isN_im {i : Int32} (h : vp_in i 2) : isN (71 + 2 * i.toNatClampNeg) := by
  have := vp_lt h
  unfold isN
  omega
theorem e_isO {ad : Nat → Nat} {cy : Nat → ClassId} {o : Nat} (h : isO o) (f : Nat → Int32) (τ : Int64 × Nat × Nat) : eC ad cy o f τ = .inr (3, [.int (f 0), .int (f 1), .ref (ad (o + 1)), .ref (ad (o + 2)), .ref (ad (o + 3)), .ref (ad (o + 4)), .ref (ad (o + 5)), .ref (ad (o + 6)), .ref (ad (o + 7)), .ref (ad (o + 8))]) := by rcases h with rfl | rfl <;> rfl
theorem e_isO_1 {ad : Nat → Nat} {cy : Nat → ClassId} {o : Nat} (h : isO o) (f : Nat → Int32) (τ : Int64 × Nat × Nat) : eC ad cy (o + 1) f τ = .inl (cy 0, 8, .inl f) := by rcases h with rfl | rfl <;> rfl
theorem e_isO_2 {ad : Nat → Nat} {cy : Nat → ClassId} {o : Nat} (h : isO o) (f : Nat → Int32) (τ : Int64 × Nat × Nat) : eC ad cy (o + 2) f τ = .inl (cy 0, 8, .inl f) := by rcases h with rfl | rfl <;> rfl
theorem e_isO_3 {ad : Nat → Nat} {cy : Nat → ClassId} {o : Nat} (h : isO o) (f : Nat → Int32) (τ : Int64 × Nat × Nat) : eC ad cy (o + 3) f τ = .inl (cy 0, 8, .inl f) := by rcases h with rfl | rfl <;> rfl
theorem e_isO_4 {ad : Nat → Nat} {cy : Nat → ClassId} {o : Nat} (h : isO o) (f : Nat → Int32) (τ : Int64 × Nat × Nat) : eC ad cy (o + 4) f τ = .inl (cy 0, 8, .inl f) := by rcases h with rfl | rfl <;> rfl
theorem e_isO_5 {ad : Nat → Nat} {cy : Nat → ClassId} {o : Nat} (h : isO o) (f : Nat → Int32) (τ : Int64 × Nat × Nat) : eC ad cy (o + 5) f τ = .inl (cy 0, 8, .inl f) := by rcases h with rfl | rfl <;> rfl
theorem e_isO_6 {ad : Nat → Nat} {cy : Nat → ClassId} {o : Nat} (h : isO o) (f : Nat → Int32) (τ : Int64 × Nat × Nat) : eC ad cy (o + 6) f τ = .inl (cy 0, 5, .inl f) := by rcases h with rfl | rfl <;> rfl
theorem e_isO_7 {ad : Nat → Nat} {cy : Nat → ClassId} {o : Nat} (h : isO o) (f : Nat → Int32) (τ : Int64 × Nat × Nat) : eC ad cy (o + 7) f τ = .inl (cy 0, 5, .inl f) := by rcases h with rfl | rfl <;> rfl
theorem e_isO_8 {ad : Nat → Nat} {cy : Nat → ClassId} {o : Nat} (h : isO o) (f : Nat → Int32) (τ : Int64 × Nat × Nat) : eC ad cy (o + 8) f τ = .inl (cy 0, 5, .inl f) := by rcases h with rfl | rfl <;> rfl
theorem e_isN {ad : Nat → Nat} {cy : Nat → ClassId} {n : Nat} (h : isN n) (f : Nat → Int32) (τ : Int64 × Nat × Nat) : eC ad cy n f τ = .inr (2, [.int (f 0), .int (f 1), .int (f 2), .int (f 3), .int (f 4), .int (f 5), .ref (ad (n + 1))]) := by rcases h with rfl | rfl | rfl | rfl <;> rfl
theorem e_isN_1 {ad : Nat → Nat} {cy : Nat → ClassId} {n : Nat} (h : isN n) (f : Nat → Int32) (τ : Int64 × Nat × Nat) : eC ad cy (n + 1) f τ = .inl (cy 0, 5, .inl f) := by rcases h with rfl | rfl | rfl | rfl <;> rfl
theorem eRlikes_lt {i : Int32} (off : Nat) (h : vp_in i 8) (ho : off ≤ 0) : 39 + i.toNatClampNeg + off < 75 := by have := vp_lt h; omega
theorem eRlikes {ad : Nat → Nat} {cy : Nat → ClassId} {i : Int32} (h : vp_in i 8) (f : Nat → Int32) (τ : Int64 × Nat × Nat) : eC ad cy (39 + i.toNatClampNeg) f τ = .inl (cy 0, 8, .inl f) := by
  have h1 := vp_lt h
  generalize i.toNatClampNeg = j at h1 ⊢
  rcases (show j = 0 ∨ j = 1 ∨ j = 2 ∨ j = 3 ∨ j = 4 ∨ j = 5 ∨ j = 6 ∨ j = 7 by omega) with rfl | rfl | rfl | rfl | rfl | rfl | rfl | rfl <;> rfl
theorem eRgains_lt {i : Int32} (off : Nat) (h : vp_in i 5) (ho : off ≤ 0) : 53 + i.toNatClampNeg + off < 75 := by have := vp_lt h; omega
theorem eRgains {ad : Nat → Nat} {cy : Nat → ClassId} {i : Int32} (h : vp_in i 5) (f : Nat → Int32) (τ : Int64 × Nat × Nat) : eC ad cy (53 + i.toNatClampNeg) f τ = .inl (cy 0, 16, .inl f) := by
  have h1 := vp_lt h
  generalize i.toNatClampNeg = j at h1 ⊢
  rcases (show j = 0 ∨ j = 1 ∨ j = 2 ∨ j = 3 ∨ j = 4 by omega) with rfl | rfl | rfl | rfl | rfl <;> rfl
theorem eRmost_lt {i : Int32} (off : Nat) (h : vp_in i 6) (ho : off ≤ 0) : 59 + i.toNatClampNeg + off < 75 := by have := vp_lt h; omega
theorem eRmost {ad : Nat → Nat} {cy : Nat → ClassId} {i : Int32} (h : vp_in i 6) (f : Nat → Int32) (τ : Int64 × Nat × Nat) : eC ad cy (59 + i.toNatClampNeg) f τ = .inl (cy 0, 256, .inl f) := by
  have h1 := vp_lt h
  generalize i.toNatClampNeg = j at h1 ⊢
  rcases (show j = 0 ∨ j = 1 ∨ j = 2 ∨ j = 3 ∨ j = 4 ∨ j = 5 by omega) with rfl | rfl | rfl | rfl | rfl | rfl <;> rfl
section WR
variable {p : Program} {l : Launch} {e : Env} {R : Room} {s : State} {m : MethodId} {args : Array Value} {below : List Frame} {meth : Method} {c : Code} {Q : State → Prop} {cc : ByteArray} {nL : Nat} {D : va_G} {cy : Nat → ClassId} {ad zb : Nat → Nat} {w : WD} {Ts : List Cond} {own : String} {σ : St} {lv : List (Nat × Value)} {st : List Value} {pc q : Nat}
theorem vv_nm (h : ∀ σ' : St, σ' = σ → VV p l e R s m args below meth c Q nL D w σ' pc lv st) : VV p l e R s m args below meth c Q nL D w σ pc lv st := h σ rfl
theorem vv_gets0 (X : XX p s m args meth c cc nL D cy (wC ad cy zb) Ts own) {index : Nat} (hlink : Cond.fieldLink own index "HalfLadders" "KIND_ABOVE" "[I" ∈ Ts) (hdg : decode cc pc = .ok (.getstatic index, 3)) (hq : pc + 3 = q) (h : VV p l e R s m args below meth c Q nL D (wC ad cy zb) σ q lv (.ref (zb 0) :: st)) : VV p l e R s m args below meth c Q nL D (wC ad cy zb) σ pc lv st := by
  subst hq
  exact fun ls hls H locs hP hS => va_gets (C := "HalfLadders") X.1.1 X.1.2.1 (X.2.2.2.1.1 0 (by decide)).1 hS X.1.2.2.2.1 (X.1.2.2.2.2 _ hlink) (fun _ h9 => h9) hdg (h ls hls H locs hP hS)
theorem vv_gets1 (X : XX p s m args meth c cc nL D cy (wC ad cy zb) Ts own) {index : Nat} (hlink : Cond.fieldLink own index "HalfLadders" "KIND_TRACE" "[I" ∈ Ts) (hdg : decode cc pc = .ok (.getstatic index, 3)) (hq : pc + 3 = q) (h : VV p l e R s m args below meth c Q nL D (wC ad cy zb) σ q lv (.ref (zb 1) :: st)) : VV p l e R s m args below meth c Q nL D (wC ad cy zb) σ pc lv st := by
  subst hq
  exact fun ls hls H locs hP hS => va_gets (C := "HalfLadders") X.1.1 X.1.2.1 (X.2.2.2.1.1 1 (by decide)).1 hS X.1.2.2.2.1 (X.1.2.2.2.2 _ hlink) (fun _ h9 => h9) hdg (h ls hls H locs hP hS)
theorem vv_gets2 (X : XX p s m args meth c cc nL D cy (wC ad cy zb) Ts own) {index : Nat} (hlink : Cond.fieldLink own index "HalfLadders" "FACTORIALS" "[I" ∈ Ts) (hdg : decode cc pc = .ok (.getstatic index, 3)) (hq : pc + 3 = q) (h : VV p l e R s m args below meth c Q nL D (wC ad cy zb) σ q lv (.ref (zb 2) :: st)) : VV p l e R s m args below meth c Q nL D (wC ad cy zb) σ pc lv st := by
  subst hq
  exact fun ls hls H locs hP hS => va_gets (C := "HalfLadders") X.1.1 X.1.2.1 (X.2.2.2.1.1 2 (by decide)).1 hS X.1.2.2.2.1 (X.1.2.2.2.2 _ hlink) (fun _ h9 => h9) hdg (h ls hls H locs hP hS)
theorem vv_getsN (X : XX p s m args meth c cc nL D cy (wC ad cy zb) Ts RX7) (hdg : decode cc pc = .ok (.getstatic 49, 3)) (hq : pc + 3 = q) (h : VV p l e R s m args below meth c Q nL D (wC ad cy zb) σ q lv (.ref (zb 2) :: st)) : VV p l e R s m args below meth c Q nL D (wC ad cy zb) σ pc lv st := by
  subst hq
  exact fun ls hls H locs hP hS => va_getsN (C := "HalfLadders") (ref := RX9) (host := RX9) X.1.1 X.1.2.1 (X.2.2.2.1.1 2 (by decide)).1 hS X.1.2.2.2.1 (va_Nw.use rfl X.2.2.2.1.2.2.1) (fun _ h9 => h9) hdg (h ls hls H locs hP hS)
theorem vv_siald (X : XX p s m args meth c cc nL D cy (wC ad cy zb) Ts own) (k n : Nat) {i : Int32} (hk : k < 3) (hn : zL k = n) (hin : vp_in i n) (hdg : decode cc pc = .ok (.iaload, 1)) (hq : pc + 1 = q) (h : VV p l e R s m args below meth c Q nL D (wC ad cy zb) σ q lv (.int (zT k i.toNatClampNeg) :: st)) : VV p l e R s m args below meth c Q nL D (wC ad cy zb) σ pc lv (.int i :: .ref (zb k) :: st) := by
  subst hq
  subst hn
  exact fun ls hls H locs hP hS => va_ti X.1.1 X.1.2.1 (X.2.2.2.1.1 k hk).2 hS hin rfl hdg (h ls hls H locs hP hS)
theorem zC_nest {U : State} {H : Heap} (h : zC ad zb U H) : va_Nw (.methodLinkNest RX1 59 yX9_restsFrom RX9) U := h.2.1
/-- a String constant's parts -/
theorem vv_ldcS (X : XX p s m args meth c cc nL D cy (wC ad cy zb) Ts RX8) (i : Nat) (hi : i < 4) (hdg : decode cc pc = .ok (.ldc (zSix i), 2)) (hq : pc + 2 = q) (h : VV p l e R s m args below meth c Q nL D (wC ad cy zb) σ q lv (.ref (zb (10 + i)) :: st)) : VV p l e R s m args below meth c Q nL D (wC ad cy zb) σ pc lv st := by
  subst hq
  exact fun ls hls H locs hP hS => va_ldcS X.1.1 X.1.2.1 X.1.2.2.2.1 (X.2.2.2.1.2.2.2.2.1 i hi) hdg (h ls hls H locs hP hS)
theorem vv_sval (X : XX p s m args meth c cc nL D cy (wC ad cy zb) Ts own) (i : Nat) (hi : i < 4) {index : Nat} (hlink : Cond.fieldLink own index "java/lang/String" "value" "[B" ∈ Ts) (hdg : decode cc pc = .ok (.getfield index, 3)) (hq : pc + 3 = q) (h : VV p l e R s m args below meth c Q nL D (wC ad cy zb) σ q lv (.ref (zb (20 + i)) :: st)) : VV p l e R s m args below meth c Q nL D (wC ad cy zb) σ pc lv (.ref (zb (10 + i)) :: st) := by
  subst hq
  exact fun ls hls H locs hP hS => vk_getf X.1.1 X.1.2.1 (X.2.2.2.1.2.2.2.1.1 i hi).2.2.1 hS X.1.2.2.2.1 (X.1.2.2.2.2 _ hlink) (fun _ h9 => h9) hdg (h ls hls H locs hP hS)
theorem vv_scod (X : XX p s m args meth c cc nL D cy (wC ad cy zb) Ts own) (i : Nat) (hi : i < 4) {index : Nat} (hlink : Cond.fieldLink own index "java/lang/String" "coder" "B" ∈ Ts) (hdg : decode cc pc = .ok (.getfield index, 3)) (hq : pc + 3 = q) (h : VV p l e R s m args below meth c Q nL D (wC ad cy zb) σ q lv (.int 0 :: st)) : VV p l e R s m args below meth c Q nL D (wC ad cy zb) σ pc lv (.ref (zb (10 + i)) :: st) := by
  subst hq
  exact fun ls hls H locs hP hS => vk_getf X.1.1 X.1.2.1 (X.2.2.2.1.2.2.2.1.1 i hi).2.1 hS X.1.2.2.2.1 (X.1.2.2.2.2 _ hlink) (fun _ h9 => h9) hdg (h ls hls H locs hP hS)
theorem vv_scomp (X : XX p s m args meth c cc nL D cy (wC ad cy zb) Ts own) {index : Nat} (hlink : Cond.fieldLink own index "java/lang/String" "COMPACT_STRINGS" "Z" ∈ Ts) (hdg : decode cc pc = .ok (.getstatic index, 3)) (hq : pc + 3 = q) (h : VV p l e R s m args below meth c Q nL D (wC ad cy zb) σ q lv (.int 1 :: st)) : VV p l e R s m args below meth c Q nL D (wC ad cy zb) σ pc lv st := by
  subst hq
  exact fun ls hls H locs hP hS => va_gets (C := "java/lang/String") X.1.1 X.1.2.1 X.2.2.2.1.2.2.2.2.2.1 hS X.1.2.2.2.1 (X.1.2.2.2.2 _ hlink) (fun _ h9 => h9) hdg (h ls hls H locs hP hS)
theorem vv_sioo (X : XX p s m args meth c cc nL D cy (wC ad cy zb) Ts own) {index : Nat} (hlink : Cond.fieldLink own index "jdk/internal/util/Preconditions" "SIOOBE_FORMATTER" "Ljava/util/function/BiFunction;" ∈ Ts) (hdg : decode cc pc = .ok (.getstatic index, 3)) (hq : pc + 3 = q) (h : VV p l e R s m args below meth c Q nL D (wC ad cy zb) σ q lv (zq zb :: st)) : VV p l e R s m args below meth c Q nL D (wC ad cy zb) σ pc lv st := by
  subst hq
  exact fun ls hls H locs hP hS => va_gets (C := "jdk/internal/util/Preconditions") X.1.1 X.1.2.1 X.2.2.2.1.2.2.2.2.2.2 hS X.1.2.2.2.1 (X.1.2.2.2.2 _ hlink) (fun _ h9 => h9) hdg (h ls hls H locs hP hS)
def isS (i : Nat) : Prop := i < 4
theorem vv_slen (X : XX p s m args meth c cc nL D cy (wC ad cy zb) Ts own) (i : Nat) (hi : i < 4) (hdg : decode cc pc = .ok (.arraylength, 1)) (hq : pc + 1 = q) (h : VV p l e R s m args below meth c Q nL D (wC ad cy zb) σ q lv (.int (Int32.ofNat (zSlen.getD i 0)) :: st)) : VV p l e R s m args below meth c Q nL D (wC ad cy zb) σ pc lv (.ref (zb (20 + i)) :: st) := by
  subst hq
  exact fun ls hls H locs hP hS => va_tlen X.1.1 X.1.2.1 (X.2.2.2.1.2.2.2.1.1 i hi).2.2.2 hS rfl hdg (h ls hls H locs hP hS)
theorem vv_sbald (X : XX p s m args meth c cc nL D cy (wC ad cy zb) Ts own) (i : Nat) (hi : i < 4) {j : Int32} (hin : vp_in j (zSlen.getD i 0)) (hdg : decode cc pc = .ok (.baload, 1)) (hq : pc + 1 = q) (h : VV p l e R s m args below meth c Q nL D (wC ad cy zb) σ q lv (.int ((zSbyt.getD i []).getD j.toNatClampNeg 0) :: st)) : VV p l e R s m args below meth c Q nL D (wC ad cy zb) σ pc lv (.int j :: .ref (zb (20 + i)) :: st) := by
  subst hq
  exact fun ls hls H locs hP hS => va_tb X.1.1 X.1.2.1 (X.2.2.2.1.2.2.2.1.1 i hi).2.2.2 hS hin rfl hdg (h ls hls H locs hP hS)
theorem vv_cVis (X : XX p s m args meth c cc nL D cy (wC ad cy zb) Ts own) (i : Nat) (hi : i < 4) {y : MethodName} {bytes : ByteArray} {maxL n index : Nat} {ty : FieldType} {ws : List Cond} {rm : Room} {P : Int32 → St → Prop} {st0 : List Value} (As : List Value) (hM : MI l y ws rm D cy (wC ad cy zb) (.ref (zb (10 + i)) :: As) σ P) (cw : CallW R s args own "java/lang/String" index y bytes maxL (some ty) ws rm 0 0 n) (hn : As.length = n) (hst : st0 = As.reverse ++ .ref (zb (10 + i)) :: st) (hW : (st.map fun v => v.category).sum ≤ 8) (hdg : decode cc pc = .ok (.invokevirtual index, 3)) (hq : pc + 3 = q) (h : ∀ (r : Int32) (σ' : St), P r σ' → VV p l e R s m args below meth c Q nL D (wC ad cy zb) σ' q lv (.int r :: st)) : VV p l e R s m args below meth c Q nL D (wC ad cy zb) σ pc lv st0 := by
  subst hq
  subst hst
  intro ls hls H locs hP hS
  exact va_calli (va_runV (As := As) (rest := st) X.1 hM cw ⟨xPre_blind X.2.2.1, vk_recv X.2.2.2.1.2.2.2.1 hi hS, fun U hU hW9 => xPre_at X hP hS U hU hW9⟩ rfl hn hls.1 rfl (lv_room hW) hdg ⟨Nat.zero_le _, Nat.zero_le _⟩) hS (fun q _ h9 => h9) (fun q h9 => h9) (fun r u t H1 locs1 ht _ hp hB _ _ hS1 => h r u hp ls hls H1 locs1 (by unfold xPost at hB; rw [ht] at hB; exact hB) hS1)
end WR
