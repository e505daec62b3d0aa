/-! the fixed world: cells by number; a state is what the cells hold -/
section XV
abbrev St : Type := (Nat → Nat → Int32) × (Int64 × Nat × Nat)
/-- what a cell holds by its number, how many cells, their addresses, what is known besides -/
abbrev WD : Type := (Nat → (Nat → Int32) → (Int64 × Nat × Nat) → va_E) × Nat × (Nat → Nat) × (State → Heap → Prop)
def xW (w : WD) (σ : St) : va_W := (List.range w.2.1).map (fun i => (w.2.2.1 i, w.1 i (σ.1 i) σ.2))
def xA (w : WD) : Nat → Prop := fun q => ∃ i, i < w.2.1 ∧ w.2.2.1 i = q
def xOk (w : WD) : Prop := (∀ i j, i < w.2.1 → j < w.2.1 → w.2.2.1 i = w.2.2.1 j → i = j) ∧ (∀ (u U : State) (H : Heap), U.vm = u.vm → w.2.2.2 u H → w.2.2.2 U H) ∧ (∀ (s U : State) (H : Heap), s.WarmedH U.vm → (∀ q : Nat, q < s.heap.size → ¬ xA w q → H[q]? = s.heap[q]?) → w.2.2.2 s s.heap → w.2.2.2 U H)
def xTy (cy : Nat → ClassId) : List (ClassId × FieldType) := [(cy 0, .int), (cy 1, .byte), (cy 2, .boolean), (cy 3, .array .int), (cy 4, .object "HalfLadders$Now")]
def sI (σ : St) (k j : Nat) (v : Int32) : St := (fun i => if i = k then upd (σ.1 k) j v else σ.1 i, σ.2)
theorem sI_self (σ : St) (k j : Nat) (v : Int32) : (sI σ k j v).1 k = upd (σ.1 k) j v := by simp [sI]
theorem sI_ne {σ : St} {k j : Nat} {v : Int32} {i : Nat} (h : i ≠ k) : (sI σ k j v).1 i = σ.1 i := by simp [sI, h]
theorem sI_at (σ : St) (k j : Nat) (v : Int32) : (sI σ k j v).1 k j = v := by simp [sI, upd]
theorem sI_off {σ : St} {k j : Nat} {v : Int32} {i : Nat} (h : i ≠ j) : (sI σ k j v).1 k i = σ.1 k i := by simp [sI, upd, h]
theorem sI_2 (σ : St) (k j : Nat) (v : Int32) : (sI σ k j v).2 = σ.2 := rfl
theorem sI_get (σ : St) (k j : Nat) (v : Int32) (a b : Nat) : (sI σ k j v).1 a b = if a = k ∧ b = j then v else σ.1 a b := by
  by_cases h : a = k
  · subst h
    by_cases h2 : b = j
    · subst h2; simp [sI, upd]
    · simp [sI, upd, h2]
  · simp [sI, h]
theorem xW_at {w : WD} {σ : St} {k : Nat} (h : k < w.2.1) : (xW w σ)[k]? = some (w.2.2.1 k, w.1 k (σ.1 k) σ.2) := by
  unfold xW
  rw [List.getElem?_map, List.getElem?_range h]
  rfl
theorem xW_of {w : WD} {σ : St} {k : Nat} {q : Nat × va_E} (h : (xW w σ)[k]? = some q) : k < w.2.1 ∧ q = (w.2.2.1 k, w.1 k (σ.1 k) σ.2) := by
  have hl : k < (xW w σ).length := (List.getElem?_eq_some_iff.mp h).1
  have hl2 : k < w.2.1 := by simpa [xW] using hl
  rw [xW_at hl2] at h
  exact ⟨hl2, (Option.some.inj h).symm⟩
theorem xW_D {w : WD} (hw : xOk w) (σ : St) : va_D (xA w) (xW w σ) := by
  refine ⟨fun i j p q hi hj h => ?_, fun k q hk => ?_⟩
  · obtain ⟨h1, rfl⟩ := xW_of hi
    obtain ⟨h2, rfl⟩ := xW_of hj
    exact hw.1 i j h1 h2 h
  · obtain ⟨h1, rfl⟩ := xW_of hk
    exact ⟨k, h1, rfl⟩
theorem xW_set {w : WD} {σ : St} {k j : Nat} {v : Int32} {e : va_E} (hk : k < w.2.1) (he : w.1 k (upd (σ.1 k) j v) σ.2 = e) : (xW w σ).set k (w.2.2.1 k, e) = xW w (sI σ k j v) := by
  apply List.ext_getElem?
  intro i
  by_cases h : i = k
  · subst h
    rw [List.getElem?_set_self (by simpa [xW] using hk), xW_at hk, sI_self, sI_2, he]
  · rw [List.getElem?_set_ne (fun e => h e.symm)]
    by_cases hi : i < w.2.1
    · rw [xW_at hi, xW_at hi, sI_ne h, sI_2]
    · rw [List.getElem?_eq_none (by simpa [xW] using hi), List.getElem?_eq_none (by simpa [xW] using hi)]
theorem xW_setT {w : WD} {σ : St} {τ : Int64 × Nat × Nat} {e : va_E} (hk : 0 < w.2.1) (hT : ∀ i f, i ≠ 0 → w.1 i f σ.2 = w.1 i f τ) (he : w.1 0 (σ.1 0) τ = e) : (xW w σ).set 0 (w.2.2.1 0, e) = xW w (σ.1, τ) := by
  apply List.ext_getElem?
  intro i
  by_cases h : i = 0
  · subst h
    rw [List.getElem?_set_self (by simpa [xW] using hk), xW_at hk, he]
  · rw [List.getElem?_set_ne (fun e => h e.symm)]
    by_cases hi : i < w.2.1
    · rw [xW_at hi, xW_at hi, hT i _ h]
    · rw [List.getElem?_eq_none (by simpa [xW] using hi), List.getElem?_eq_none (by simpa [xW] using hi)]
def VV (p : Program) (l : Launch) (e : Env) (R : Room) (s : State) (m : MethodId) (args : Array Value) (below : List Frame) (meth : Method) (c : Code) (Q : State → Prop) (nL : Nat) (D : va_G) (w : WD) (σ : St) (pc : Nat) (lv : List (Nat × Value)) (st : List Value) : Prop :=
  ∀ (ls : Array Slot), lv_has ls nL lv → ∀ (H : Heap) (locs : List Loc), va_P D vwCl (xW w σ) H → va_S (xA w) s.heap H locs → W p l e R s m args below meth c H locs 0 0 Q (F0 m pc ls st)
def XX (p : Program) (s : State) (m : MethodId) (args : Array Value) (meth : Method) (c : Code) (cc : ByteArray) (nL : Nat) (D : va_G) (cy : Nat → ClassId) (w : WD) (Ts : List Cond) (own : String) : Prop :=
  CallFix p m c cc nL s args Ts own ∧ va_K D vwCl (xTy cy) s ∧ xOk w ∧ w.2.2.2 s s.heap ∧ meth.locks = false
def xPre (D : va_G) (cy : Nat → ClassId) (w : WD) (σ : St) : State → Prop := fun U => va_P D vwCl (xW w σ) U.heap ∧ va_K D vwCl (xTy cy) U ∧ w.2.2.2 U U.heap
def xPost (D : va_G) (w : WD) (σ : St) (t : State) : Prop := va_P D vwCl (xW w σ) t.heap
/-- contracts: with an int, nothing, a long as the answer -/
def MI (l : Launch) (y : MethodName) (ws : List Cond) (rm : Room) (D : va_G) (cy : Nat → ClassId) (w : WD) (av : List Value) (σ : St) (P : Int32 → St → Prop) : Prop := Met l y ws rm (va_Pc av (xPre D cy w σ)) (va_Qi P (xPost D w) (xA w)) 0 0 (xA w)
def MV (l : Launch) (y : MethodName) (ws : List Cond) (rm : Room) (D : va_G) (cy : Nat → ClassId) (w : WD) (av : List Value) (σ : St) (P : St → Prop) : Prop := Met l y ws rm (va_Pc av (xPre D cy w σ)) (va_Qv P (xPost D w) (xA w)) 0 0 (xA w)
def ML (l : Launch) (y : MethodName) (ws : List Cond) (rm : Room) (D : va_G) (cy : Nat → ClassId) (w : WD) (av : List Value) (σ : St) (P : Int64 → St → Prop) : Prop := Met l y ws rm (va_Pc av (xPre D cy w σ)) (va_Ql P (xPost D w) (xA w)) 0 0 (xA w)
variable {p : Program} {l : Launch} {e : Env} {R : Room} {s : State} {m : MethodId} {args : Array Value} {below : List Frame} {meth : Method} {c : Code} {Q : State → Prop} {cc : ByteArray} {nL : Nat} {D : va_G} {cy : Nat → ClassId} {w : WD} {Ts : List Cond} {own : String} {σ : St} {lv : List (Nat × Value)} {st : List Value} {pc q : Nat}
theorem vv_met {y : MethodName} {ws ws' : List Cond} {rm : Room} {maxL : Nat} {ret : Option FieldType} {Qc : Array Value → State → Outcome → State → Prop} (hw : xOk w) (hy : plainName y.cls = true) (hws : ws = Cond.code y cc maxL ret :: ws') (av : List Value) (hn : (lg_sl av).length ≤ maxL)
    (body : ∀ (p : Program) (e : Env) (s : State) (m : MethodId) (args : Array Value) (below : List Frame) (meth : Method) (c : Code), XX p s m args meth c cc maxL D cy w ws y.cls → meth.sig.returnType = ret → VV p l e rm s m args below meth c (MQ below Qc args s 0 0 (xA w)) maxL D w σ 0 (lv_args 0 av) []) : Met l y ws rm (va_Pc av (xPre D cy w σ)) Qc 0 0 (xA w) := by
  refine Met.ofW (cc := cc) (maxL := maxL) (ret := ret) hy hws ?_
  intro p e s m args below meth c s₁ B hml hv
  obtain ⟨rfl, hP, hK, hZ⟩ := hv
  have hts := atoms_spec (ws := ws) B.pre
  have hown : s.vm.findClass y.cls = some m.cls := findClass_of_methodNamed B.named
  have hl := lv_entry av (n := maxL) hn
  rw [lg_entry_eq]
  exact body p e s m _ below meth c ⟨⟨B.exec, B.bytes, hml, hown, hts⟩, hK, hw, hZ, B.notSynchronized⟩ B.returns _ hl s.heap [] hP va_S.rf
theorem vv_topi {x : Int32} (k : ∀ y : Int32, y = x → VV p l e R s m args below meth c Q nL D w σ pc lv (.int y :: st)) : VV p l e R s m args below meth c Q nL D w σ pc lv (.int x :: st) := k x rfl
theorem vv_topl {x : Int64} (k : ∀ y : Int64, y = x → VV p l e R s m args below meth c Q nL D w σ pc lv (.long y :: st)) : VV p l e R s m args below meth c Q nL D w σ pc lv (.long x :: st) := k x rfl
theorem vv_sub {lv' : List (Nat × Value)} (ks : List Nat) (hk : lv_pick lv ks = lv') (h : VV p l e R s m args below meth c Q nL D w σ pc lv' st) : VV p l e R s m args below meth c Q nL D w σ pc lv st := fun ls hls => h ls (lv_sub hls ks hk)
theorem vv_st {σ' : St} (hs : σ = σ') (h : VV p l e R s m args below meth c Q nL D w σ' pc lv st) : VV p l e R s m args below meth c Q nL D w σ pc lv st := hs ▸ h

theorem vv_iadd (X : XX p s m args meth c cc nL D cy w Ts own) {x y : Int32} (hdg : decode cc pc = .ok (.iadd, 1))  (hq : pc + 1 = q) (h : VV p l e R s m args below meth c Q nL D w σ q lv (.int (x + y) :: st)) : VV p l e R s m args below meth c Q nL D w σ pc lv (.int y :: .int x :: st) := by
  subst hq
  exact fun ls hls H locs hP hS => lv_iadd X.1.1 X.1.2.1 hdg (h ls hls H locs hP hS)
theorem vv_isub (X : XX p s m args meth c cc nL D cy w Ts own) {x y : Int32} (hdg : decode cc pc = .ok (.isub, 1))  (hq : pc + 1 = q) (h : VV p l e R s m args below meth c Q nL D w σ q lv (.int (x - y) :: st)) : VV p l e R s m args below meth c Q nL D w σ pc lv (.int y :: .int x :: st) := by
  subst hq
  exact fun ls hls H locs hP hS => lv_isub X.1.1 X.1.2.1 hdg (h ls hls H locs hP hS)
theorem vv_imul (X : XX p s m args meth c cc nL D cy w Ts own) {x y : Int32} (hdg : decode cc pc = .ok (.imul, 1))  (hq : pc + 1 = q) (h : VV p l e R s m args below meth c Q nL D w σ q lv (.int (x * y) :: st)) : VV p l e R s m args below meth c Q nL D w σ pc lv (.int y :: .int x :: st) := by
  subst hq
  exact fun ls hls H locs hP hS => lv_imul X.1.1 X.1.2.1 hdg (h ls hls H locs hP hS)
theorem vv_iand (X : XX p s m args meth c cc nL D cy w Ts own) {x y : Int32} (hdg : decode cc pc = .ok (.iand, 1))  (hq : pc + 1 = q) (h : VV p l e R s m args below meth c Q nL D w σ q lv (.int (x &&& y) :: st)) : VV p l e R s m args below meth c Q nL D w σ pc lv (.int y :: .int x :: st) := by
  subst hq
  exact fun ls hls H locs hP hS => lv_iand X.1.1 X.1.2.1 hdg (h ls hls H locs hP hS)
theorem vv_ior (X : XX p s m args meth c cc nL D cy w Ts own) {x y : Int32} (hdg : decode cc pc = .ok (.ior, 1))  (hq : pc + 1 = q) (h : VV p l e R s m args below meth c Q nL D w σ q lv (.int (x ||| y) :: st)) : VV p l e R s m args below meth c Q nL D w σ pc lv (.int y :: .int x :: st) := by
  subst hq
  exact fun ls hls H locs hP hS => lv_ior X.1.1 X.1.2.1 hdg (h ls hls H locs hP hS)
theorem vv_ixor (X : XX p s m args meth c cc nL D cy w Ts own) {x y : Int32} (hdg : decode cc pc = .ok (.ixor, 1))  (hq : pc + 1 = q) (h : VV p l e R s m args below meth c Q nL D w σ q lv (.int (x ^^^ y) :: st)) : VV p l e R s m args below meth c Q nL D w σ pc lv (.int y :: .int x :: st) := by
  subst hq
  exact fun ls hls H locs hP hS => lv_ixor X.1.1 X.1.2.1 hdg (h ls hls H locs hP hS)
theorem vv_ishl (X : XX p s m args meth c cc nL D cy w Ts own) {x y : Int32} (hdg : decode cc pc = .ok (.ishl, 1))  (hq : pc + 1 = q) (h : VV p l e R s m args below meth c Q nL D w σ q lv (.int (x <<< (y &&& 31)) :: st)) : VV p l e R s m args below meth c Q nL D w σ pc lv (.int y :: .int x :: st) := by
  subst hq
  exact fun ls hls H locs hP hS => lv_ishl X.1.1 X.1.2.1 hdg (h ls hls H locs hP hS)
theorem vv_ishr (X : XX p s m args meth c cc nL D cy w Ts own) {x y : Int32} (hdg : decode cc pc = .ok (.ishr, 1))  (hq : pc + 1 = q) (h : VV p l e R s m args below meth c Q nL D w σ q lv (.int (x >>> (y &&& 31)) :: st)) : VV p l e R s m args below meth c Q nL D w σ pc lv (.int y :: .int x :: st) := by
  subst hq
  exact fun ls hls H locs hP hS => lv_ishr X.1.1 X.1.2.1 hdg (h ls hls H locs hP hS)
theorem vv_iushr (X : XX p s m args meth c cc nL D cy w Ts own) {x y : Int32} (hdg : decode cc pc = .ok (.iushr, 1))  (hq : pc + 1 = q) (h : VV p l e R s m args below meth c Q nL D w σ q lv (.int ((x.toUInt32 >>> (y.toUInt32 &&& Int32.toUInt32 31)).toInt32) :: st)) : VV p l e R s m args below meth c Q nL D w σ pc lv (.int y :: .int x :: st) := by
  subst hq
  exact fun ls hls H locs hP hS => lv_iushr X.1.1 X.1.2.1 hdg rfl (h ls hls H locs hP hS)
theorem vv_idiv (X : XX p s m args meth c cc nL D cy w Ts own) {x y : Int32} (hdg : decode cc pc = .ok (.idiv, 1)) (hne : ¬ y = 0) (hq : pc + 1 = q) (h : VV p l e R s m args below meth c Q nL D w σ q lv (.int (x / y) :: st)) : VV p l e R s m args below meth c Q nL D w σ pc lv (.int y :: .int x :: st) := by
  subst hq
  exact fun ls hls H locs hP hS => lv_idiv X.1.1 X.1.2.1 hdg hne (h ls hls H locs hP hS)
theorem vv_irem (X : XX p s m args meth c cc nL D cy w Ts own) {x y : Int32} (hdg : decode cc pc = .ok (.irem, 1)) (hne : ¬ y = 0) (hq : pc + 1 = q) (h : VV p l e R s m args below meth c Q nL D w σ q lv (.int (x - x / y * y) :: st)) : VV p l e R s m args below meth c Q nL D w σ pc lv (.int y :: .int x :: st) := by
  subst hq
  exact fun ls hls H locs hP hS => lv_irem X.1.1 X.1.2.1 hdg hne (h ls hls H locs hP hS)
theorem vv_ineg (X : XX p s m args meth c cc nL D cy w Ts own) {x : Int32} (hdg : decode cc pc = .ok (.ineg, 1))  (hq : pc + 1 = q) (h : VV p l e R s m args below meth c Q nL D w σ q lv (.int (-x) :: st)) : VV p l e R s m args below meth c Q nL D w σ pc lv (.int x :: st) := by
  subst hq
  exact fun ls hls H locs hP hS => lv_ineg X.1.1 X.1.2.1 hdg (h ls hls H locs hP hS)
theorem vv_ladd (X : XX p s m args meth c cc nL D cy w Ts own) {x y : Int64} (hdg : decode cc pc = .ok (.ladd, 1))  (hq : pc + 1 = q) (h : VV p l e R s m args below meth c Q nL D w σ q lv (.long (x + y) :: st)) : VV p l e R s m args below meth c Q nL D w σ pc lv (.long y :: .long x :: st) := by
  subst hq
  exact fun ls hls H locs hP hS => lv_ladd X.1.1 X.1.2.1 hdg (h ls hls H locs hP hS)
theorem vv_land (X : XX p s m args meth c cc nL D cy w Ts own) {x y : Int64} (hdg : decode cc pc = .ok (.land, 1))  (hq : pc + 1 = q) (h : VV p l e R s m args below meth c Q nL D w σ q lv (.long (x &&& y) :: st)) : VV p l e R s m args below meth c Q nL D w σ pc lv (.long y :: .long x :: st) := by
  subst hq
  exact fun ls hls H locs hP hS => lv_land X.1.1 X.1.2.1 hdg (h ls hls H locs hP hS)
theorem vv_lor (X : XX p s m args meth c cc nL D cy w Ts own) {x y : Int64} (hdg : decode cc pc = .ok (.lor, 1))  (hq : pc + 1 = q) (h : VV p l e R s m args below meth c Q nL D w σ q lv (.long (x ||| y) :: st)) : VV p l e R s m args below meth c Q nL D w σ pc lv (.long y :: .long x :: st) := by
  subst hq
  exact fun ls hls H locs hP hS => lv_lor X.1.1 X.1.2.1 hdg (h ls hls H locs hP hS)
theorem vv_lshl (X : XX p s m args meth c cc nL D cy w Ts own) {x : Int64} {y : Int32} (hdg : decode cc pc = .ok (.lshl, 1))  (hq : pc + 1 = q) (h : VV p l e R s m args below meth c Q nL D w σ q lv (.long (x <<< (y.toInt64 &&& 63)) :: st)) : VV p l e R s m args below meth c Q nL D w σ pc lv (.int y :: .long x :: st) := by
  subst hq
  exact fun ls hls H locs hP hS => lv_lshl X.1.1 X.1.2.1 hdg rfl (h ls hls H locs hP hS)
theorem vv_lshr (X : XX p s m args meth c cc nL D cy w Ts own) {x : Int64} {y : Int32} (hdg : decode cc pc = .ok (.lshr, 1))  (hq : pc + 1 = q) (h : VV p l e R s m args below meth c Q nL D w σ q lv (.long (x >>> (y.toInt64 &&& 63)) :: st)) : VV p l e R s m args below meth c Q nL D w σ pc lv (.int y :: .long x :: st) := by
  subst hq
  exact fun ls hls H locs hP hS => lv_lshr X.1.1 X.1.2.1 hdg rfl (h ls hls H locs hP hS)
theorem vv_lushr (X : XX p s m args meth c cc nL D cy w Ts own) {x : Int64} {y : Int32} (hdg : decode cc pc = .ok (.lushr, 1))  (hq : pc + 1 = q) (h : VV p l e R s m args below meth c Q nL D w σ q lv (.long ((x.toUInt64 >>> (y.toInt64.toUInt64 &&& Int64.toUInt64 63)).toInt64) :: st)) : VV p l e R s m args below meth c Q nL D w σ pc lv (.int y :: .long x :: st) := by
  subst hq
  exact fun ls hls H locs hP hS => lv_lushr X.1.1 X.1.2.1 hdg rfl (h ls hls H locs hP hS)
theorem vv_i2l (X : XX p s m args meth c cc nL D cy w Ts own) {x : Int32} (hdg : decode cc pc = .ok (.i2l, 1))  (hq : pc + 1 = q) (h : VV p l e R s m args below meth c Q nL D w σ q lv (.long (x.toInt64) :: st)) : VV p l e R s m args below meth c Q nL D w σ pc lv (.int x :: st) := by
  subst hq
  exact fun ls hls H locs hP hS => lv_i2l X.1.1 X.1.2.1 hdg rfl (h ls hls H locs hP hS)
theorem vv_l2i (X : XX p s m args meth c cc nL D cy w Ts own) {x : Int64} (hdg : decode cc pc = .ok (.l2i, 1))  (hq : pc + 1 = q) (h : VV p l e R s m args below meth c Q nL D w σ q lv (.int (x.toInt32) :: st)) : VV p l e R s m args below meth c Q nL D w σ pc lv (.long x :: st) := by
  subst hq
  exact fun ls hls H locs hP hS => lv_l2i X.1.1 X.1.2.1 hdg rfl (h ls hls H locs hP hS)
theorem vv_i2b (X : XX p s m args meth c cc nL D cy w Ts own) {x : Int32} (hdg : decode cc pc = .ok (.i2b, 1))  (hq : pc + 1 = q) (h : VV p l e R s m args below meth c Q nL D w σ q lv (.int (x.toInt8.toInt32) :: st)) : VV p l e R s m args below meth c Q nL D w σ pc lv (.int x :: st) := by
  subst hq
  exact fun ls hls H locs hP hS => lv_i2b X.1.1 X.1.2.1 hdg rfl (h ls hls H locs hP hS)
theorem vv_i2c (X : XX p s m args meth c cc nL D cy w Ts own) {x : Int32} (hdg : decode cc pc = .ok (.i2c, 1))  (hq : pc + 1 = q) (h : VV p l e R s m args below meth c Q nL D w σ q lv (.int ((x.toUInt32 % 65536).toInt32) :: st)) : VV p l e R s m args below meth c Q nL D w σ pc lv (.int x :: st) := by
  subst hq
  exact fun ls hls H locs hP hS => lv_i2c X.1.1 X.1.2.1 hdg rfl (h ls hls H locs hP hS)
theorem vv_iconst (X : XX p s m args meth c cc nL D cy w Ts own) {n : Int} (v : Int32) (hdg : decode cc pc = .ok (.iconst n, 1)) (hv : Int32.ofInt n = v) (hq : pc + 1 = q) (h : VV p l e R s m args below meth c Q nL D w σ q lv (.int v :: st)) : VV p l e R s m args below meth c Q nL D w σ pc lv (st) := by
  subst hq
  exact fun ls hls H locs hP hS => lv_iconst X.1.1 X.1.2.1 hdg hv (h ls hls H locs hP hS)
theorem vv_bipush (X : XX p s m args meth c cc nL D cy w Ts own) {n : Int} (v : Int32) (hdg : decode cc pc = .ok (.bipush n, 2)) (hv : (Int8.ofInt n).toInt32 = v) (hq : pc + 2 = q) (h : VV p l e R s m args below meth c Q nL D w σ q lv (.int v :: st)) : VV p l e R s m args below meth c Q nL D w σ pc lv (st) := by
  subst hq
  exact fun ls hls H locs hP hS => lv_bipush X.1.1 X.1.2.1 hdg hv (h ls hls H locs hP hS)
theorem vv_sipush (X : XX p s m args meth c cc nL D cy w Ts own) {n : Int} (v : Int32) (hdg : decode cc pc = .ok (.sipush n, 3)) (hv : (Int16.ofInt n).toInt32 = v) (hq : pc + 3 = q) (h : VV p l e R s m args below meth c Q nL D w σ q lv (.int v :: st)) : VV p l e R s m args below meth c Q nL D w σ pc lv (st) := by
  subst hq
  exact fun ls hls H locs hP hS => lv_sipush X.1.1 X.1.2.1 hdg hv (h ls hls H locs hP hS)
theorem vv_lconst (X : XX p s m args meth c cc nL D cy w Ts own) {n : Fin 2} (v : Int64) (hdg : decode cc pc = .ok (.lconst n, 1)) (hv : Int64.ofNat (n : Nat) = v) (hq : pc + 1 = q) (h : VV p l e R s m args below meth c Q nL D w σ q lv (.long v :: st)) : VV p l e R s m args below meth c Q nL D w σ pc lv (st) := by
  subst hq
  exact fun ls hls H locs hP hS => lv_lconst X.1.1 X.1.2.1 hdg hv (h ls hls H locs hP hS)
theorem vv_ldc (X : XX p s m args meth c cc nL D cy w Ts own) {index : Nat} (v : Int32) (hdg : decode cc pc = .ok (.ldc index, 2)) (hc : Cond.constant own index v ∈ Ts) (hq : pc + 2 = q) (h : VV p l e R s m args below meth c Q nL D w σ q lv (.int v :: st)) : VV p l e R s m args below meth c Q nL D w σ pc lv (st) := by
  subst hq
  exact fun ls hls H locs hP hS => lv_ldc X.1.1 X.1.2.1 X.1.2.2.2.1 (X.1.2.2.2.2 _ hc) hdg (h ls hls H locs hP hS)
theorem vv_ldcw (X : XX p s m args meth c cc nL D cy w Ts own) {index : Nat} (v : Int32) (hdg : decode cc pc = .ok (.ldc_w index, 3)) (hc : Cond.constant own index v ∈ Ts) (hq : pc + 3 = q) (h : VV p l e R s m args below meth c Q nL D w σ q lv (.int v :: st)) : VV p l e R s m args below meth c Q nL D w σ pc lv (st) := by
  subst hq
  exact fun ls hls H locs hP hS => lv_ldcw X.1.1 X.1.2.1 X.1.2.2.2.1 (X.1.2.2.2.2 _ hc) hdg (h ls hls H locs hP hS)
theorem vv_ldc2 (X : XX p s m args meth c cc nL D cy w Ts own) {index : Nat} (v : Int64) (hdg : decode cc pc = .ok (.ldc2_w index, 3)) (hc : Cond.constantLong own index v ∈ Ts) (hq : pc + 3 = q) (h : VV p l e R s m args below meth c Q nL D w σ q lv (.long v :: st)) : VV p l e R s m args below meth c Q nL D w σ pc lv (st) := by
  subst hq
  exact fun ls hls H locs hP hS => lv_ldc2 X.1.1 X.1.2.1 X.1.2.2.2.1 (X.1.2.2.2.2 _ hc) hdg (h ls hls H locs hP hS)
theorem vv_dup (X : XX p s m args meth c cc nL D cy w Ts own) {v : Value} (hdg : decode cc pc = .ok (.dup, 1)) (hv : v.category = 1) (hq : pc + 1 = q) (h : VV p l e R s m args below meth c Q nL D w σ q lv (v :: v :: st)) : VV p l e R s m args below meth c Q nL D w σ pc lv (v :: st) := by
  subst hq
  exact fun ls hls H locs hP hS => lv_dup X.1.1 X.1.2.1 hdg hv (h ls hls H locs hP hS)
theorem vv_pop (X : XX p s m args meth c cc nL D cy w Ts own) {v : Value} (hdg : decode cc pc = .ok (.pop, 1)) (hv : v.category = 1) (hq : pc + 1 = q) (h : VV p l e R s m args below meth c Q nL D w σ q lv (st)) : VV p l e R s m args below meth c Q nL D w σ pc lv (v :: st) := by
  subst hq
  exact fun ls hls H locs hP hS => lv_pop X.1.1 X.1.2.1 hdg hv (h ls hls H locs hP hS)
theorem vv_dup2 (X : XX p s m args meth c cc nL D cy w Ts own) {v u : Value} (hdg : decode cc pc = .ok (.dup2, 1)) (hv : v.category = 1) (hu : u.category = 1) (hq : pc + 1 = q) (h : VV p l e R s m args below meth c Q nL D w σ q lv (v :: u :: v :: u :: st)) : VV p l e R s m args below meth c Q nL D w σ pc lv (v :: u :: st) := by
  subst hq
  exact fun ls hls H locs hP hS => lv_dup2_11 X.1.1 X.1.2.1 hdg hv hu (h ls hls H locs hP hS)
theorem vv_iload_n (X : XX p s m args meth c cc nL D cy w Ts own) {k : Fin 4} {i : Nat} {x : Int32} (kk : Nat) (hdg : decode cc pc = .ok (.iload_n k, 1)) (hi : (k : Nat) = i) (hl : lv[kk]? = some (i, .int x)) (hq : pc + 1 = q) (h : VV p l e R s m args below meth c Q nL D w σ q lv (.int x :: st)) : VV p l e R s m args below meth c Q nL D w σ pc lv st := by
  subst hq
  exact fun ls hls H locs hP hS => lv_iload_n X.1.1 X.1.2.1 hdg hi (lv_at hls kk hl) (h ls hls H locs hP hS)
theorem vv_iload (X : XX p s m args meth c cc nL D cy w Ts own) {i : Nat} {x : Int32} (kk : Nat) (hdg : decode cc pc = .ok (.iload i, 2)) (hl : lv[kk]? = some (i, .int x)) (hq : pc + 2 = q) (h : VV p l e R s m args below meth c Q nL D w σ q lv (.int x :: st)) : VV p l e R s m args below meth c Q nL D w σ pc lv st := by
  subst hq
  exact fun ls hls H locs hP hS => lv_iload X.1.1 X.1.2.1 hdg (lv_at hls kk hl) (h ls hls H locs hP hS)
theorem vv_lload_n (X : XX p s m args meth c cc nL D cy w Ts own) {k : Fin 4} {i : Nat} {x : Int64} (kk : Nat) (hdg : decode cc pc = .ok (.lload_n k, 1)) (hi : (k : Nat) = i) (hl : lv[kk]? = some (i, .long x)) (hq : pc + 1 = q) (h : VV p l e R s m args below meth c Q nL D w σ q lv (.long x :: st)) : VV p l e R s m args below meth c Q nL D w σ pc lv st := by
  subst hq
  exact fun ls hls H locs hP hS => lv_lload_n X.1.1 X.1.2.1 hdg hi (lv_at hls kk hl) (h ls hls H locs hP hS)
theorem vv_lload (X : XX p s m args meth c cc nL D cy w Ts own) {i : Nat} {x : Int64} (kk : Nat) (hdg : decode cc pc = .ok (.lload i, 2)) (hl : lv[kk]? = some (i, .long x)) (hq : pc + 2 = q) (h : VV p l e R s m args below meth c Q nL D w σ q lv (.long x :: st)) : VV p l e R s m args below meth c Q nL D w σ pc lv st := by
  subst hq
  exact fun ls hls H locs hP hS => lv_lload X.1.1 X.1.2.1 hdg (lv_at hls kk hl) (h ls hls H locs hP hS)
theorem vv_aload_n (X : XX p s m args meth c cc nL D cy w Ts own) {k : Fin 4} {i : Nat} {x : Nat} (kk : Nat) (hdg : decode cc pc = .ok (.aload_n k, 1)) (hi : (k : Nat) = i) (hl : lv[kk]? = some (i, .ref x)) (hq : pc + 1 = q) (h : VV p l e R s m args below meth c Q nL D w σ q lv (.ref x :: st)) : VV p l e R s m args below meth c Q nL D w σ pc lv st := by
  subst hq
  exact fun ls hls H locs hP hS => lv_aload_n X.1.1 X.1.2.1 hdg hi (lv_at hls kk hl) (h ls hls H locs hP hS)
theorem vv_aload (X : XX p s m args meth c cc nL D cy w Ts own) {i : Nat} {x : Nat} (kk : Nat) (hdg : decode cc pc = .ok (.aload i, 2)) (hl : lv[kk]? = some (i, .ref x)) (hq : pc + 2 = q) (h : VV p l e R s m args below meth c Q nL D w σ q lv (.ref x :: st)) : VV p l e R s m args below meth c Q nL D w σ pc lv st := by
  subst hq
  exact fun ls hls H locs hP hS => lv_aload X.1.1 X.1.2.1 hdg (lv_at hls kk hl) (h ls hls H locs hP hS)
theorem vv_istore_n (X : XX p s m args meth c cc nL D cy w Ts own) {k : Fin 4} {i : Nat} {x : Int32} {lv2 : List (Nat × Value)} (hdg : decode cc pc = .ok (.istore_n k, 1)) (hi : (k : Nat) = i) (hn : i < nL) (hl : (i, Value.int x) :: lv.filter (fun q => !(q.1 == i) && !(q.1 + 1 == i && q.2.category == 2)) = lv2) (hq : pc + 1 = q) (h : VV p l e R s m args below meth c Q nL D w σ q lv2 st) : VV p l e R s m args below meth c Q nL D w σ pc lv (.int x :: st) := by
  subst hq
  exact fun ls hls H locs hP hS => lv_istore_n X.1.1 X.1.2.1 hdg hi hls hn hl (fun ls1 h1 => h ls1 h1 H locs hP hS)
theorem vv_istore (X : XX p s m args meth c cc nL D cy w Ts own) {i : Nat} {x : Int32} {lv2 : List (Nat × Value)} (hdg : decode cc pc = .ok (.istore i, 2)) (hn : i < nL) (hl : (i, Value.int x) :: lv.filter (fun q => !(q.1 == i) && !(q.1 + 1 == i && q.2.category == 2)) = lv2) (hq : pc + 2 = q) (h : VV p l e R s m args below meth c Q nL D w σ q lv2 st) : VV p l e R s m args below meth c Q nL D w σ pc lv (.int x :: st) := by
  subst hq
  exact fun ls hls H locs hP hS => lv_istore X.1.1 X.1.2.1 hdg hls hn hl (fun ls1 h1 => h ls1 h1 H locs hP hS)
theorem vv_astore_n (X : XX p s m args meth c cc nL D cy w Ts own) {k : Fin 4} {i : Nat} {x : Nat} {lv2 : List (Nat × Value)} (hdg : decode cc pc = .ok (.astore_n k, 1)) (hi : (k : Nat) = i) (hn : i < nL) (hl : (i, Value.ref x) :: lv.filter (fun q => !(q.1 == i) && !(q.1 + 1 == i && q.2.category == 2)) = lv2) (hq : pc + 1 = q) (h : VV p l e R s m args below meth c Q nL D w σ q lv2 st) : VV p l e R s m args below meth c Q nL D w σ pc lv (.ref x :: st) := by
  subst hq
  exact fun ls hls H locs hP hS => lv_astore_n X.1.1 X.1.2.1 hdg hi hls hn hl (fun ls1 h1 => h ls1 h1 H locs hP hS)
theorem vv_astore (X : XX p s m args meth c cc nL D cy w Ts own) {i : Nat} {x : Nat} {lv2 : List (Nat × Value)} (hdg : decode cc pc = .ok (.astore i, 2)) (hn : i < nL) (hl : (i, Value.ref x) :: lv.filter (fun q => !(q.1 == i) && !(q.1 + 1 == i && q.2.category == 2)) = lv2) (hq : pc + 2 = q) (h : VV p l e R s m args below meth c Q nL D w σ q lv2 st) : VV p l e R s m args below meth c Q nL D w σ pc lv (.ref x :: st) := by
  subst hq
  exact fun ls hls H locs hP hS => lv_astore X.1.1 X.1.2.1 hdg hls hn hl (fun ls1 h1 => h ls1 h1 H locs hP hS)
theorem vv_iinc (X : XX p s m args meth c cc nL D cy w Ts own) {i : Nat} {n : Int} {x v : Int32} {lv2 : List (Nat × Value)} (kk : Nat) (hdg : decode cc pc = .ok (.iinc i n, 3)) (hk : lv[kk]? = some (i, .int x)) (hv : x + Int32.ofInt n = v) (hn : i < nL) (hl : (i, Value.int v) :: lv.filter (fun q => !(q.1 == i) && !(q.1 + 1 == i && q.2.category == 2)) = lv2) (hq : pc + 3 = q) (h : VV p l e R s m args below meth c Q nL D w σ q lv2 st) : VV p l e R s m args below meth c Q nL D w σ pc lv st := by
  subst hq
  exact fun ls hls H locs hP hS => lv_iinc (k := kk) X.1.1 X.1.2.1 hdg hls hk hv hn hl (fun ls1 h1 => h ls1 h1 H locs hP hS)
theorem vv_icmp_eq (X : XX p s m args meth c cc nL D cy w Ts own) {x y : Int32} {off : Int} (tgt : Nat) (hdg : decode cc pc = .ok (.if_icmp .eq off, 3)) (ht : (pc : Int) + off = (tgt : Int)) (hq : pc + 3 = q) (kt : x = y → VV p l e R s m args below meth c Q nL D w σ tgt lv st) (kf : ¬ x = y → VV p l e R s m args below meth c Q nL D w σ q lv st) : VV p l e R s m args below meth c Q nL D w σ pc lv (.int y :: .int x :: st) := by
  subst hq
  exact fun ls hls H locs hP hS => lv_icmp_eq X.1.1 X.1.2.1 hdg ht (fun c1 => kt c1 ls hls H locs hP hS) (fun c1 => kf c1 ls hls H locs hP hS)
theorem vv_if_eq (X : XX p s m args meth c cc nL D cy w Ts own) {x : Int32} {off : Int} (tgt : Nat) (hdg : decode cc pc = .ok (.ifCond .eq off, 3)) (ht : (pc : Int) + off = (tgt : Int)) (hq : pc + 3 = q) (kt : x = 0 → VV p l e R s m args below meth c Q nL D w σ tgt lv st) (kf : ¬ x = 0 → VV p l e R s m args below meth c Q nL D w σ q lv st) : VV p l e R s m args below meth c Q nL D w σ pc lv (.int x :: st) := by
  subst hq
  exact fun ls hls H locs hP hS => lv_if_eq X.1.1 X.1.2.1 hdg ht (fun c1 => kt c1 ls hls H locs hP hS) (fun c1 => kf c1 ls hls H locs hP hS)
theorem vv_icmp_ne (X : XX p s m args meth c cc nL D cy w Ts own) {x y : Int32} {off : Int} (tgt : Nat) (hdg : decode cc pc = .ok (.if_icmp .ne off, 3)) (ht : (pc : Int) + off = (tgt : Int)) (hq : pc + 3 = q) (kt : ¬ x = y → VV p l e R s m args below meth c Q nL D w σ tgt lv st) (kf : x = y → VV p l e R s m args below meth c Q nL D w σ q lv st) : VV p l e R s m args below meth c Q nL D w σ pc lv (.int y :: .int x :: st) := by
  subst hq
  exact fun ls hls H locs hP hS => lv_icmp_ne X.1.1 X.1.2.1 hdg ht (fun c1 => kt c1 ls hls H locs hP hS) (fun c1 => kf c1 ls hls H locs hP hS)
theorem vv_if_ne (X : XX p s m args meth c cc nL D cy w Ts own) {x : Int32} {off : Int} (tgt : Nat) (hdg : decode cc pc = .ok (.ifCond .ne off, 3)) (ht : (pc : Int) + off = (tgt : Int)) (hq : pc + 3 = q) (kt : ¬ x = 0 → VV p l e R s m args below meth c Q nL D w σ tgt lv st) (kf : x = 0 → VV p l e R s m args below meth c Q nL D w σ q lv st) : VV p l e R s m args below meth c Q nL D w σ pc lv (.int x :: st) := by
  subst hq
  exact fun ls hls H locs hP hS => lv_if_ne X.1.1 X.1.2.1 hdg ht (fun c1 => kt c1 ls hls H locs hP hS) (fun c1 => kf c1 ls hls H locs hP hS)
theorem vv_icmp_lt (X : XX p s m args meth c cc nL D cy w Ts own) {x y : Int32} {off : Int} (tgt : Nat) (hdg : decode cc pc = .ok (.if_icmp .lt off, 3)) (ht : (pc : Int) + off = (tgt : Int)) (hq : pc + 3 = q) (kt : x < y → VV p l e R s m args below meth c Q nL D w σ tgt lv st) (kf : ¬ x < y → VV p l e R s m args below meth c Q nL D w σ q lv st) : VV p l e R s m args below meth c Q nL D w σ pc lv (.int y :: .int x :: st) := by
  subst hq
  exact fun ls hls H locs hP hS => lv_icmp_lt X.1.1 X.1.2.1 hdg ht (fun c1 => kt c1 ls hls H locs hP hS) (fun c1 => kf c1 ls hls H locs hP hS)
theorem vv_if_lt (X : XX p s m args meth c cc nL D cy w Ts own) {x : Int32} {off : Int} (tgt : Nat) (hdg : decode cc pc = .ok (.ifCond .lt off, 3)) (ht : (pc : Int) + off = (tgt : Int)) (hq : pc + 3 = q) (kt : x < 0 → VV p l e R s m args below meth c Q nL D w σ tgt lv st) (kf : ¬ x < 0 → VV p l e R s m args below meth c Q nL D w σ q lv st) : VV p l e R s m args below meth c Q nL D w σ pc lv (.int x :: st) := by
  subst hq
  exact fun ls hls H locs hP hS => lv_if_lt X.1.1 X.1.2.1 hdg ht (fun c1 => kt c1 ls hls H locs hP hS) (fun c1 => kf c1 ls hls H locs hP hS)
theorem vv_icmp_ge (X : XX p s m args meth c cc nL D cy w Ts own) {x y : Int32} {off : Int} (tgt : Nat) (hdg : decode cc pc = .ok (.if_icmp .ge off, 3)) (ht : (pc : Int) + off = (tgt : Int)) (hq : pc + 3 = q) (kt : y ≤ x → VV p l e R s m args below meth c Q nL D w σ tgt lv st) (kf : ¬ y ≤ x → VV p l e R s m args below meth c Q nL D w σ q lv st) : VV p l e R s m args below meth c Q nL D w σ pc lv (.int y :: .int x :: st) := by
  subst hq
  exact fun ls hls H locs hP hS => lv_icmp_ge X.1.1 X.1.2.1 hdg ht (fun c1 => kt c1 ls hls H locs hP hS) (fun c1 => kf c1 ls hls H locs hP hS)
theorem vv_if_ge (X : XX p s m args meth c cc nL D cy w Ts own) {x : Int32} {off : Int} (tgt : Nat) (hdg : decode cc pc = .ok (.ifCond .ge off, 3)) (ht : (pc : Int) + off = (tgt : Int)) (hq : pc + 3 = q) (kt : 0 ≤ x → VV p l e R s m args below meth c Q nL D w σ tgt lv st) (kf : ¬ 0 ≤ x → VV p l e R s m args below meth c Q nL D w σ q lv st) : VV p l e R s m args below meth c Q nL D w σ pc lv (.int x :: st) := by
  subst hq
  exact fun ls hls H locs hP hS => lv_if_ge X.1.1 X.1.2.1 hdg ht (fun c1 => kt c1 ls hls H locs hP hS) (fun c1 => kf c1 ls hls H locs hP hS)
theorem vv_icmp_gt (X : XX p s m args meth c cc nL D cy w Ts own) {x y : Int32} {off : Int} (tgt : Nat) (hdg : decode cc pc = .ok (.if_icmp .gt off, 3)) (ht : (pc : Int) + off = (tgt : Int)) (hq : pc + 3 = q) (kt : y < x → VV p l e R s m args below meth c Q nL D w σ tgt lv st) (kf : ¬ y < x → VV p l e R s m args below meth c Q nL D w σ q lv st) : VV p l e R s m args below meth c Q nL D w σ pc lv (.int y :: .int x :: st) := by
  subst hq
  exact fun ls hls H locs hP hS => lv_icmp_gt X.1.1 X.1.2.1 hdg ht (fun c1 => kt c1 ls hls H locs hP hS) (fun c1 => kf c1 ls hls H locs hP hS)
theorem vv_if_gt (X : XX p s m args meth c cc nL D cy w Ts own) {x : Int32} {off : Int} (tgt : Nat) (hdg : decode cc pc = .ok (.ifCond .gt off, 3)) (ht : (pc : Int) + off = (tgt : Int)) (hq : pc + 3 = q) (kt : 0 < x → VV p l e R s m args below meth c Q nL D w σ tgt lv st) (kf : ¬ 0 < x → VV p l e R s m args below meth c Q nL D w σ q lv st) : VV p l e R s m args below meth c Q nL D w σ pc lv (.int x :: st) := by
  subst hq
  exact fun ls hls H locs hP hS => lv_if_gt X.1.1 X.1.2.1 hdg ht (fun c1 => kt c1 ls hls H locs hP hS) (fun c1 => kf c1 ls hls H locs hP hS)
theorem vv_icmp_le (X : XX p s m args meth c cc nL D cy w Ts own) {x y : Int32} {off : Int} (tgt : Nat) (hdg : decode cc pc = .ok (.if_icmp .le off, 3)) (ht : (pc : Int) + off = (tgt : Int)) (hq : pc + 3 = q) (kt : x ≤ y → VV p l e R s m args below meth c Q nL D w σ tgt lv st) (kf : ¬ x ≤ y → VV p l e R s m args below meth c Q nL D w σ q lv st) : VV p l e R s m args below meth c Q nL D w σ pc lv (.int y :: .int x :: st) := by
  subst hq
  exact fun ls hls H locs hP hS => lv_icmp_le X.1.1 X.1.2.1 hdg ht (fun c1 => kt c1 ls hls H locs hP hS) (fun c1 => kf c1 ls hls H locs hP hS)
theorem vv_if_le (X : XX p s m args meth c cc nL D cy w Ts own) {x : Int32} {off : Int} (tgt : Nat) (hdg : decode cc pc = .ok (.ifCond .le off, 3)) (ht : (pc : Int) + off = (tgt : Int)) (hq : pc + 3 = q) (kt : x ≤ 0 → VV p l e R s m args below meth c Q nL D w σ tgt lv st) (kf : ¬ x ≤ 0 → VV p l e R s m args below meth c Q nL D w σ q lv st) : VV p l e R s m args below meth c Q nL D w σ pc lv (.int x :: st) := by
  subst hq
  exact fun ls hls H locs hP hS => lv_if_le X.1.1 X.1.2.1 hdg ht (fun c1 => kt c1 ls hls H locs hP hS) (fun c1 => kf c1 ls hls H locs hP hS)
theorem vv_goto (X : XX p s m args meth c cc nL D cy w Ts own) {off : Int} (tgt : Nat) (hdg : decode cc pc = .ok (.goto off, 3)) (ht : (pc : Int) + off = (tgt : Int)) (h : VV p l e R s m args below meth c Q nL D w σ tgt lv st) : VV p l e R s m args below meth c Q nL D w σ pc lv st := fun ls hls H locs hP hS => lv_goto X.1.1 X.1.2.1 hdg ht (h ls hls H locs hP hS)
theorem vv_tabIn (X : XX p s m args meth c cc nL D cy w Ts own) {dflt lo hi : Int} {offs : Array Int} {len : Nat} {x : Int32} {off : Int} (tgt : Nat) (hdg : decode cc pc = .ok (.tableswitch dflt lo hi offs, len)) (h1 : ¬ x.toInt < lo) (h2 : ¬ hi < x.toInt) (ho : offs[(x.toInt - lo).toNat]? = some off) (ht : (pc : Int) + off = (tgt : Int)) (h : VV p l e R s m args below meth c Q nL D w σ tgt lv st) : VV p l e R s m args below meth c Q nL D w σ pc lv (.int x :: st) := fun ls hls H locs hP hS => lv_tableIn X.1.1 X.1.2.1 hdg h1 h2 ho ht (h ls hls H locs hP hS)
theorem vv_tabOut (X : XX p s m args meth c cc nL D cy w Ts own) {dflt lo hi : Int} {offs : Array Int} {len : Nat} {x : Int32} (tgt : Nat) (hdg : decode cc pc = .ok (.tableswitch dflt lo hi offs, len)) (h1 : x.toInt < lo ∨ hi < x.toInt) (ht : (pc : Int) + dflt = (tgt : Int)) (h : VV p l e R s m args below meth c Q nL D w σ tgt lv st) : VV p l e R s m args below meth c Q nL D w σ pc lv (.int x :: st) := fun ls hls H locs hP hS => lv_tableOut X.1.1 X.1.2.1 hdg h1 ht (h ls hls H locs hP hS)
theorem vv_lookup (X : XX p s m args meth c cc nL D cy w Ts own) {dflt : Int} {ps : Array (Int × Int)} {len : Nat} {x : Int32} {off : Int} (tgt : Nat) (hdg : decode cc pc = .ok (.lookupswitch dflt ps, len)) (hp : (ps.toList.zip (ps.toList.drop 1)).all (fun (a, next) => a.1 < next.1) = true) (ho : Op.lookupswitch.offset ps.toList dflt x.toInt = off) (ht : (pc : Int) + off = (tgt : Int)) (h : VV p l e R s m args below meth c Q nL D w σ tgt lv st) : VV p l e R s m args below meth c Q nL D w σ pc lv (.int x :: st) := fun ls hls H locs hP hS => lv_lookup X.1.1 X.1.2.1 hdg hp ho ht (h ls hls H locs hP hS)
theorem i32_ne {x v : Int32} (h : ¬ x = v) : ¬ x.toInt = v.toInt := fun e => h (Int32.toInt_inj.mp e)
theorem vv_getf (X : XX p s m args meth c cc nL D cy w Ts own) (k ci j : Nat) {fs : List Value} {C ref : String} {T : u_T} {N index : Nat} {v : Value} (hk : k < w.2.1) (he : w.1 k (σ.1 k) σ.2 = .inr (ci, fs)) (hc : vwCl[ci]? = some (C, T, N)) (hj : j < N) (hin : ∀ w ∈ u_ws C T N, w ∈ Ts) (hlink : Cond.fieldLink own index ref (T j).2.1 (T j).2.2.1 ∈ Ts) (hsame : ref = (T j).1) (hv : fs[j]? = some v) (hdg : decode cc pc = .ok (.getfield index, 3)) (hq : pc + 3 = q) (h : VV p l e R s m args below meth c Q nL D w σ q lv (v :: st)) : VV p l e R s m args below meth c Q nL D w σ pc lv (.ref (w.2.2.1 k) :: st) := by
  subst hq
  exact fun ls hls H locs hP hS => va_get X.1.1 X.1.2.1 X.1.2.2.2.2 hin X.1.2.2.2.1 X.2.1 hP k ((xW_at hk).trans (by rw [he])) hc j hj (X.1.2.2.2.2 _ hlink) (fun x h9 => by rw [hsame]; exact h9) hv hdg (h ls hls H locs hP hS)
theorem vv_putf (X : XX p s m args meth c cc nL D cy w Ts own) (k ci j : Nat) {fs : List Value} {C ref : String} {T : u_T} {N index : Nat} {v : Int32} (ty0 : Nat → FieldType) (hty : ∀ k, k < N → parseFieldDescriptor (T k).2.2.1 = some (ty0 k)) (hnm : ∀ a, a < N → ∀ b, b < N → a ≠ b → (T a).2.1 ≠ (T b).2.1) (hk : k < w.2.1) (he : w.1 k (σ.1 k) σ.2 = .inr (ci, fs)) (he2 : w.1 k (upd (σ.1 k) j v) σ.2 = .inr (ci, fs.set j (.int v))) (hc : vwCl[ci]? = some (C, T, N)) (hj : j < N) (hl : fs.length = N) (hin : ∀ w ∈ u_ws C T N, w ∈ Ts) (hlink : Cond.fieldLink own index ref (T j).2.1 (T j).2.2.1 ∈ Ts) (hsame : ref = (T j).1) (hfin : (T j).2.2.2 = false) (hd : ty0 j = .int) (hdg : decode cc pc = .ok (.putfield index, 3)) (hq : pc + 3 = q) (h : VV p l e R s m args below meth c Q nL D w (sI σ k j v) q lv st) : VV p l e R s m args below meth c Q nL D w σ pc lv (.int v :: .ref (w.2.2.1 k) :: st) := by
  subst hq
  exact fun ls hls H locs hP hS => va_put X.1.1 X.1.2.1 X.1.2.2.2.2 hin ty0 hty hnm X.1.2.2.2.1 X.2.1 hP (xW_D X.2.2.1 σ) hS k ((xW_at hk).trans (by rw [he])) hc j hj (X.1.2.2.2.2 _ hlink) (fun x h9 => by rw [hsame]; exact h9) hfin ((hty j hj).trans (by rw [hd])) rfl rfl (by rw [hl]; exact hj) hdg (fun H1 locs1 hP1 _ hS1 => h ls hls H1 locs1 (by rw [xW_set hk he2] at hP1; exact hP1) hS1)
theorem vv_getfN (X : XX p s m args meth c cc nL D cy w Ts own) (k ci j : Nat) {fs : List Value} {C ref : String} {host : String} {T : u_T} {N index : Nat} {v : Value} (hk : k < w.2.1) (he : w.1 k (σ.1 k) σ.2 = .inr (ci, fs)) (hc : vwCl[ci]? = some (C, T, N)) (hj : j < N) (hin : ∀ w ∈ u_ws C T N, w ∈ Ts) (hlink : Cond.fieldLinkNest own index ref (T j).2.1 (T j).2.2.1 host ∈ Ts) (hsame : ref = (T j).1) (hv : fs[j]? = some v) (hdg : decode cc pc = .ok (.getfield index, 3)) (hq : pc + 3 = q) (h : VV p l e R s m args below meth c Q nL D w σ q lv (v :: st)) : VV p l e R s m args below meth c Q nL D w σ pc lv (.ref (w.2.2.1 k) :: st) := by
  subst hq
  exact fun ls hls H locs hP hS => va_getN X.1.1 X.1.2.1 X.1.2.2.2.2 hin X.1.2.2.2.1 X.2.1 hP k ((xW_at hk).trans (by rw [he])) hc j hj (X.1.2.2.2.2 _ hlink) (fun x h9 => by rw [hsame]; exact h9) hv hdg (h ls hls H locs hP hS)
theorem vv_putfN (X : XX p s m args meth c cc nL D cy w Ts own) (k ci j : Nat) {fs : List Value} {C ref : String} {host : String} {T : u_T} {N index : Nat} {v : Int32} (ty0 : Nat → FieldType) (hty : ∀ k, k < N → parseFieldDescriptor (T k).2.2.1 = some (ty0 k)) (hnm : ∀ a, a < N → ∀ b, b < N → a ≠ b → (T a).2.1 ≠ (T b).2.1) (hk : k < w.2.1) (he : w.1 k (σ.1 k) σ.2 = .inr (ci, fs)) (he2 : w.1 k (upd (σ.1 k) j v) σ.2 = .inr (ci, fs.set j (.int v))) (hc : vwCl[ci]? = some (C, T, N)) (hj : j < N) (hl : fs.length = N) (hin : ∀ w ∈ u_ws C T N, w ∈ Ts) (hlink : Cond.fieldLinkNest own index ref (T j).2.1 (T j).2.2.1 host ∈ Ts) (hsame : ref = (T j).1) (hfin : (T j).2.2.2 = false) (hd : ty0 j = .int) (hdg : decode cc pc = .ok (.putfield index, 3)) (hq : pc + 3 = q) (h : VV p l e R s m args below meth c Q nL D w (sI σ k j v) q lv st) : VV p l e R s m args below meth c Q nL D w σ pc lv (.int v :: .ref (w.2.2.1 k) :: st) := by
  subst hq
  exact fun ls hls H locs hP hS => va_putN X.1.1 X.1.2.1 X.1.2.2.2.2 hin ty0 hty hnm X.1.2.2.2.1 X.2.1 hP (xW_D X.2.2.1 σ) hS k ((xW_at hk).trans (by rw [he])) hc j hj (X.1.2.2.2.2 _ hlink) (fun x h9 => by rw [hsame]; exact h9) hfin ((hty j hj).trans (by rw [hd])) rfl rfl (by rw [hl]; exact hj) hdg (fun H1 locs1 hP1 _ hS1 => h ls hls H1 locs1 (by rw [xW_set hk he2] at hP1; exact hP1) hS1)
/-- cell 0 changes in what is no int: told, draft, the trace -/
theorem vv_putT (X : XX p s m args meth c cc nL D cy w Ts own) (ci j : Nat) {fs : List Value} {C ref : String} {T : u_T} {N index : Nat} {v : Value} (τ : Int64 × Nat × Nat) (ty0 : Nat → FieldType) (hty : ∀ k, k < N → parseFieldDescriptor (T k).2.2.1 = some (ty0 k)) (hnm : ∀ a, a < N → ∀ b, b < N → a ≠ b → (T a).2.1 ≠ (T b).2.1) (hk : 0 < w.2.1) (he : w.1 0 (σ.1 0) σ.2 = .inr (ci, fs)) (hT : ∀ i f, i ≠ 0 → w.1 i f σ.2 = w.1 i f τ) (he2 : w.1 0 (σ.1 0) τ = .inr (ci, fs.set j v)) (hc : vwCl[ci]? = some (C, T, N)) (hj : j < N) (hl : fs.length = N) (hin : ∀ w ∈ u_ws C T N, w ∈ Ts) (hlink : Cond.fieldLink own index ref (T j).2.1 (T j).2.2.1 ∈ Ts) (hsame : ref = (T j).1) (hfin : (T j).2.2.2 = false) {ty : FieldType} (hd : ty0 j = ty) (hn : narrow ty v = v) (hfit : fits ty v = true) (hdg : decode cc pc = .ok (.putfield index, 3)) (hq : pc + 3 = q) (h : VV p l e R s m args below meth c Q nL D w (σ.1, τ) q lv st) : VV p l e R s m args below meth c Q nL D w σ pc lv (v :: .ref (w.2.2.1 0) :: st) := by
  subst hq
  exact fun ls hls H locs hP hS => va_put X.1.1 X.1.2.1 X.1.2.2.2.2 hin ty0 hty hnm X.1.2.2.2.1 X.2.1 hP (xW_D X.2.2.1 σ) hS 0 ((xW_at hk).trans (by rw [he])) hc j hj (X.1.2.2.2.2 _ hlink) (fun x h9 => by rw [hsame]; exact h9) hfin ((hty j hj).trans (by rw [hd])) hn hfit (by rw [hl]; exact hj) hdg (fun H1 locs1 hP1 _ hS1 => h ls hls H1 locs1 (by rw [xW_setT hk hT he2] at hP1; exact hP1) hS1)
theorem vv_iald (X : XX p s m args meth c cc nL D cy w Ts own) (k n : Nat) {i : Int32} (hk : k < w.2.1) (he : ∀ f, w.1 k f σ.2 = .inl (cy 0, n, .inl f)) (hin : vp_in i n) (hdg : decode cc pc = .ok (.iaload, 1)) (hq : pc + 1 = q) (h : VV p l e R s m args below meth c Q nL D w σ q lv (.int (σ.1 k i.toNatClampNeg) :: st)) : VV p l e R s m args below meth c Q nL D w σ pc lv (.int i :: .ref (w.2.2.1 k) :: st) := by
  subst hq
  exact fun ls hls H locs hP hS => va_iald X.1.1 X.1.2.1 X.2.1 hP k 0 ((xW_at hk).trans (by rw [he])) rfl hin hdg (h ls hls H locs hP hS)
theorem vv_iast (X : XX p s m args meth c cc nL D cy w Ts own) (k n : Nat) {i x : Int32} (hk : k < w.2.1) (he : ∀ f, w.1 k f σ.2 = .inl (cy 0, n, .inl f)) (hin : vp_in i n) (hdg : decode cc pc = .ok (.iastore, 1)) (hq : pc + 1 = q) (h : VV p l e R s m args below meth c Q nL D w (sI σ k i.toNatClampNeg x) q lv st) : VV p l e R s m args below meth c Q nL D w σ pc lv (.int x :: .int i :: .ref (w.2.2.1 k) :: st) := by
  subst hq
  exact fun ls hls H locs hP hS => va_iast X.1.1 X.1.2.1 X.2.1 hP (xW_D X.2.2.1 σ) hS k 0 ((xW_at hk).trans (by rw [he])) rfl hin hdg (fun H1 locs1 hP1 _ hS1 => h ls hls H1 locs1 (by rw [xW_set hk (he _)] at hP1; exact hP1) hS1)
theorem vv_bald (X : XX p s m args meth c cc nL D cy w Ts own) (k n : Nat) {i : Int32} (hk : k < w.2.1) (he : ∀ f, w.1 k f σ.2 = .inl (cy 1, n, .inl f)) (hin : vp_in i n) (hdg : decode cc pc = .ok (.baload, 1)) (hq : pc + 1 = q) (h : VV p l e R s m args below meth c Q nL D w σ q lv (.int (σ.1 k i.toNatClampNeg) :: st)) : VV p l e R s m args below meth c Q nL D w σ pc lv (.int i :: .ref (w.2.2.1 k) :: st) := by
  subst hq
  exact fun ls hls H locs hP hS => va_bald X.1.1 X.1.2.1 X.2.1 hP k 1 ((xW_at hk).trans (by rw [he])) rfl hin hdg (h ls hls H locs hP hS)
theorem vv_bast (X : XX p s m args meth c cc nL D cy w Ts own) (k n : Nat) {i x : Int32} (hk : k < w.2.1) (he : ∀ f, w.1 k f σ.2 = .inl (cy 1, n, .inl f)) (hin : vp_in i n) (hdg : decode cc pc = .ok (.bastore, 1)) (hq : pc + 1 = q) (h : VV p l e R s m args below meth c Q nL D w (sI σ k i.toNatClampNeg (vp_nar .byte x)) q lv st) : VV p l e R s m args below meth c Q nL D w σ pc lv (.int x :: .int i :: .ref (w.2.2.1 k) :: st) := by
  subst hq
  exact fun ls hls H locs hP hS => va_bast X.1.1 X.1.2.1 X.2.1 hP (xW_D X.2.2.1 σ) hS k 1 ((xW_at hk).trans (by rw [he])) rfl hin hdg (fun H1 locs1 hP1 _ hS1 => h ls hls H1 locs1 (by rw [xW_set hk (he _)] at hP1; exact hP1) hS1)
theorem vv_zald (X : XX p s m args meth c cc nL D cy w Ts own) (k n : Nat) {i : Int32} (hk : k < w.2.1) (he : ∀ f, w.1 k f σ.2 = .inl (cy 2, n, .inl f)) (hin : vp_in i n) (hdg : decode cc pc = .ok (.baload, 1)) (hq : pc + 1 = q) (h : VV p l e R s m args below meth c Q nL D w σ q lv (.int (σ.1 k i.toNatClampNeg) :: st)) : VV p l e R s m args below meth c Q nL D w σ pc lv (.int i :: .ref (w.2.2.1 k) :: st) := by
  subst hq
  exact fun ls hls H locs hP hS => va_zald X.1.1 X.1.2.1 X.2.1 hP k 2 ((xW_at hk).trans (by rw [he])) rfl hin hdg (h ls hls H locs hP hS)
theorem vv_zast (X : XX p s m args meth c cc nL D cy w Ts own) (k n : Nat) {i x : Int32} (hk : k < w.2.1) (he : ∀ f, w.1 k f σ.2 = .inl (cy 2, n, .inl f)) (hin : vp_in i n) (hdg : decode cc pc = .ok (.bastore, 1)) (hq : pc + 1 = q) (h : VV p l e R s m args below meth c Q nL D w (sI σ k i.toNatClampNeg (vp_nar .boolean x)) q lv st) : VV p l e R s m args below meth c Q nL D w σ pc lv (.int x :: .int i :: .ref (w.2.2.1 k) :: st) := by
  subst hq
  exact fun ls hls H locs hP hS => va_zast X.1.1 X.1.2.1 X.2.1 hP (xW_D X.2.2.1 σ) hS k 2 ((xW_at hk).trans (by rw [he])) rfl hin hdg (fun H1 locs1 hP1 _ hS1 => h ls hls H1 locs1 (by rw [xW_set hk (he _)] at hP1; exact hP1) hS1)
theorem vv_alen (X : XX p s m args meth c cc nL D cy w Ts own) (k t0 n : Nat) {ty : FieldType} {v : Int32} {x : vp_A} (hk : k < w.2.1) (he : ∀ f, w.1 k f σ.2 = .inl (cy t0, n, .inl f)) (ht : (xTy cy)[t0]? = some (cy t0, ty)) (hv : Int32.ofNat n = v) (hdg : decode cc pc = .ok (.arraylength, 1)) (hq : pc + 1 = q) (h : VV p l e R s m args below meth c Q nL D w σ q lv (.int v :: st)) : VV p l e R s m args below meth c Q nL D w σ pc lv (.ref (w.2.2.1 k) :: st) := by
  subst hq
  exact fun ls hls H locs hP hS => va_alen X.1.1 X.1.2.1 X.2.1 hP k t0 ((xW_at hk).trans (by rw [he])) ht hv hdg (h ls hls H locs hP hS)
theorem va_aldA {H : Heap} {locs : List Loc} {cells slots : Nat} {ls : Array Slot} {rest : List Value} {cl : List vw_C} {tys : List (ClassId × FieldType)} {ws : va_W} {a : Nat} (hexec : p.tables.exec = Jvm.exec) (hb : c.code = cc) (hK : va_K D cl tys s) (hP : va_P D cl ws H) (q0 t0 : Nat) {cA : ClassId} {et : FieldType} {n : Nat} {f : Nat → Option Nat} (ha : ws[q0]? = some (a, .inl (cA, n, .inr (.inr (.inr (.inr f)))))) (ht : tys[t0]? = some (cA, .array et)) {i : Int32} (hin : vp_in i n) (hdg : decode cc pc = .ok (.aaload, 1))
    (kk : W p l e R s m args below meth c H locs cells slots Q (F0 m (pc + 1) ls (va_rf (f i.toNatClampNeg) :: rest))) : W p l e R s m args below meth c H locs cells slots Q (F0 m pc ls (.int i :: .ref a :: rest)) := by
  have hlt : i.toNatClampNeg < n := Nat.not_le.mp fun q => hin (Or.inr q)
  exact W.aald (v := va_rf (f i.toNatClampNeg)) (ty := .array et) hexec hb (hP q0 _ ha) ((hK.2 t0 _ ht).1 n (fun j => va_rf (f j))) rfl (fun q => by cases q) (by show ¬ (i < 0 ∨ (arrV _ _ _).slots.size ≤ _); rw [arrV_size]; exact hin) (by show (arrV _ _ _).slots[_]? = _; rw [arrV_read _ _ hlt]) rfl rfl hdg kk
theorem vv_aldA (X : XX p s m args meth c cc nL D cy w Ts own) (k n : Nat) {g : Nat → Nat} {i : Int32} (hk : k < w.2.1) (he : w.1 k (σ.1 k) σ.2 = .inl (cy 3, n, .inr (.inr (.inr (.inr (fun j => some (g j))))))) (hin : vp_in i n) (hdg : decode cc pc = .ok (.aaload, 1)) (hq : pc + 1 = q) (h : VV p l e R s m args below meth c Q nL D w σ q lv (.ref (g i.toNatClampNeg) :: st)) : VV p l e R s m args below meth c Q nL D w σ pc lv (.int i :: .ref (w.2.2.1 k) :: st) := by
  subst hq
  exact fun ls hls H locs hP hS => va_aldA (f := fun j => some (g j)) X.1.1 X.1.2.1 X.2.1 hP k 3 ((xW_at hk).trans (by rw [he])) rfl hin hdg (h ls hls H locs hP hS)
theorem vv_aldN (X : XX p s m args meth c cc nL D cy w Ts own) (k n : Nat) {g : Nat → Nat} {i : Int32} (hk : k < w.2.1) (he : w.1 k (σ.1 k) σ.2 = .inl (cy 4, n, .inr (.inr (.inr (.inr (fun j => some (g j))))))) (hin : vp_in i n) (hdg : decode cc pc = .ok (.aaload, 1)) (hq : pc + 1 = q) (h : VV p l e R s m args below meth c Q nL D w σ q lv (.ref (g i.toNatClampNeg) :: st)) : VV p l e R s m args below meth c Q nL D w σ pc lv (.int i :: .ref (w.2.2.1 k) :: st) := by
  subst hq
  exact fun ls hls H locs hP hS => va_aldq (f := fun j => some (g j)) X.1.1 X.1.2.1 X.2.1 hP k 4 ((xW_at hk).trans (by rw [he])) rfl hin hdg (h ls hls H locs hP hS)

theorem vv_mmax (X : XX p s m args meth c cc nL D cy w Ts own) {index : Nat} {x y : Int32} (hlink : Cond.methodLink own index Lib.Math.max.name ∈ Ts) (hstat : Cond.static Lib.Math.max.name ∈ Ts) (hini : Cond.initialized "java/lang/Math" ∈ Ts) (hcode : Cond.code Lib.Math.max.name Lib.Math.max.code 2 (some .int) ∈ Ts) (hframes : 1 ≤ R.frames) (hlocals : (st.map fun v => v.category).sum + 13 ≤ R.locals) (hdg : decode cc pc = .ok (.invokestatic index, 3)) (hq : pc + 3 = q) (h : VV p l e R s m args below meth c Q nL D w σ q lv (.int (if x < y then y else x) :: st)) : VV p l e R s m args below meth c Q nL D w σ pc lv (.int y :: .int x :: st) := by
  subst hq
  exact fun ls hls H locs hP hS => va_mmax X.1.1 X.1.2.1 (X.1.2.2.1.trans hls.1.symm) X.1.2.2.2.1 (X.1.2.2.2.2 _ hlink) (X.1.2.2.2.2 _ hstat) (X.1.2.2.2.2 _ hini) (X.1.2.2.2.2 _ hcode) hframes hlocals (Nat.zero_le _) (Nat.zero_le _) hdg (h ls hls H locs hP hS)
theorem vv_mmin (X : XX p s m args meth c cc nL D cy w Ts own) {index : Nat} {x y : Int32} (hlink : Cond.methodLink own index Lib.Math.min.name ∈ Ts) (hstat : Cond.static Lib.Math.min.name ∈ Ts) (hini : Cond.initialized "java/lang/Math" ∈ Ts) (hcode : Cond.code Lib.Math.min.name Lib.Math.min.code 2 (some .int) ∈ Ts) (hframes : 1 ≤ R.frames) (hlocals : (st.map fun v => v.category).sum + 13 ≤ R.locals) (hdg : decode cc pc = .ok (.invokestatic index, 3)) (hq : pc + 3 = q) (h : VV p l e R s m args below meth c Q nL D w σ q lv (.int (if y < x then y else x) :: st)) : VV p l e R s m args below meth c Q nL D w σ pc lv (.int y :: .int x :: st) := by
  subst hq
  exact fun ls hls H locs hP hS => va_mmin X.1.1 X.1.2.1 (X.1.2.2.1.trans hls.1.symm) X.1.2.2.2.1 (X.1.2.2.2.2 _ hlink) (X.1.2.2.2.2 _ hstat) (X.1.2.2.2.2 _ hini) (X.1.2.2.2.2 _ hcode) hframes hlocals (Nat.zero_le _) (Nat.zero_le _) hdg (h ls hls H locs hP hS)
theorem vv_mabs (X : XX p s m args meth c cc nL D cy w Ts own) {index : Nat} {x : Int32} (hlink : Cond.methodLink own index Lib.Math.abs.name ∈ Ts) (hstat : Cond.static Lib.Math.abs.name ∈ Ts) (hini : Cond.initialized "java/lang/Math" ∈ Ts) (hcode : Cond.code Lib.Math.abs.name Lib.Math.abs.code 1 (some .int) ∈ Ts) (hframes : 1 ≤ R.frames) (hlocals : (st.map fun v => v.category).sum + 13 ≤ R.locals) (hdg : decode cc pc = .ok (.invokestatic index, 3)) (hq : pc + 3 = q) (h : VV p l e R s m args below meth c Q nL D w σ q lv (.int (if 0 ≤ x then x else 0 - x) :: st)) : VV p l e R s m args below meth c Q nL D w σ pc lv (.int x :: st) := by
  subst hq
  exact fun ls hls H locs hP hS => va_mabs X.1.1 X.1.2.1 (X.1.2.2.1.trans hls.1.symm) X.1.2.2.2.1 (X.1.2.2.2.2 _ hlink) (X.1.2.2.2.2 _ hstat) (X.1.2.2.2.2 _ hini) (X.1.2.2.2.2 _ hcode) hframes hlocals (Nat.zero_le _) (Nat.zero_le _) hdg (h ls hls H locs hP hS)
theorem xPost_F {P : Int32 → St → Prop} {v : Int32} {H : Heap} {locs : List Loc} {ar : Array Value} (hp : P v σ) (hP : va_P D vwCl (xW w σ) H) (hS : va_S (xA w) s.heap H locs) (t : State) (ht : t.heap = H) : va_Qi P (xPost D w) (xA w) ar s (.returned (some (.int v))) t := ⟨⟨v, σ, rfl, hp, by unfold xPost; rw [ht]; exact hP⟩, hS.F ht⟩
theorem vv_iret (X : XX p s m args meth c cc nL D cy w Ts own) {P : Int32 → St → Prop} {v : Int32} (hr : meth.sig.returnType = some .int) (hdg : decode cc pc = .ok (.ireturn, 1)) (hp : P v σ) : VV p l e R s m args below meth c (MQ below (va_Qi P (xPost D w) (xA w)) args s 0 0 (xA w)) nL D w σ pc lv [.int v] :=
  fun ls hls H locs hP hS => W.iret X.1.1 X.1.2.1 hr (fun t ht _ => xPost_F hp hP hS t ht) hS.2.2 hdg X.2.2.2.2
theorem vv_zret (X : XX p s m args meth c cc nL D cy w Ts own) {P : Int32 → St → Prop} {v : Int32} {ty : FieldType} (hr : meth.sig.returnType = some ty) (hn : narrow ty (.int v) = .int v) (hdg : decode cc pc = .ok (.ireturn, 1)) (hp : P v σ) : VV p l e R s m args below meth c (MQ below (va_Qi P (xPost D w) (xA w)) args s 0 0 (xA w)) nL D w σ pc lv [.int v] :=
  fun ls hls H locs hP hS => W.zret X.1.1 X.1.2.1 hr hn (fun t ht _ => xPost_F hp hP hS t ht) hS.2.2 hdg X.2.2.2.2
theorem vv_lret (X : XX p s m args meth c cc nL D cy w Ts own) {P : Int64 → St → Prop} {v : Int64} (hr : meth.sig.returnType = some .long) (hdg : decode cc pc = .ok (.lreturn, 1)) (hp : P v σ) : VV p l e R s m args below meth c (MQ below (va_Ql P (xPost D w) (xA w)) args s 0 0 (xA w)) nL D w σ pc lv [.long v] :=
  fun ls hls H locs hP hS => W.lret X.1.1 X.1.2.1 hr (fun t ht _ => ⟨⟨v, σ, rfl, hp, by unfold xPost; rw [ht]; exact hP⟩, hS.F ht⟩) hS.2.2 hdg X.2.2.2.2
theorem vv_vret (X : XX p s m args meth c cc nL D cy w Ts own) {P : St → Prop} (hr : meth.sig.returnType = none) (hdg : decode cc pc = .ok (.return_, 1)) (hp : P σ) : VV p l e R s m args below meth c (MQ below (va_Qv P (xPost D w) (xA w)) args s 0 0 (xA w)) nL D w σ pc lv [] :=
  fun ls hls H locs hP hS => W.vret X.1.1 X.1.2.1 hr (fun t ht _ => ⟨⟨σ, rfl, hp, by unfold xPost; rw [ht]; exact hP⟩, hS.F ht⟩) hS.2.2 hdg X.2.2.2.2
theorem xPre_blind {av : List Value} (hw : xOk w) : FrameBlind (va_Pc av (xPre D cy w σ)) := fun a U g mk q => by
  obtain ⟨q0, qP, qK, qZ⟩ := q
  exact ⟨q0, qP, va_K.moved (u := U) (U := U.calling g mk a) (Vm.Alike.refl U.vm) qK, hw.2.1 U (U.calling g mk a) _ rfl qZ⟩
theorem xPre_at (X : XX p s m args meth c cc nL D cy w Ts own) {av : List Value} {H : Heap} {locs : List Loc} (hP : va_P D vwCl (xW w σ) H) (hS : va_S (xA w) s.heap H locs) (U : State) (hU : U.heap = H) (hW : s.WarmedH U.vm) : va_Pc av (xPre D cy w σ) av.toArray U :=
  ⟨rfl, by rw [hU]; exact hP, va_K.moved hW.alike X.2.1, by rw [hU]; exact X.2.2.1.2.2 s U H hW hS.2.1 X.2.2.2.1⟩

theorem vv_cVi (X : XX p s m args meth c cc nL D cy w Ts own) (k ci : Nat) {fs : List Value} {C : String} {T : u_T} {N : Nat} {y : MethodName} {bytes : ByteArray} {maxL n index : Nat} {ty : FieldType} {ws : List Cond} {rm : Room} {P : Int32 → St → Prop} {st0 : List Value} (As : List Value) (hM : MI l y ws rm D cy w (.ref (w.2.2.1 k) :: As) σ P) (cw : CallW R s args own C index y bytes maxL (some ty) ws rm 0 0 n) (hk : k < w.2.1) (he : w.1 k (σ.1 k) σ.2 = .inr (ci, fs)) (hc : vwCl[ci]? = some (C, T, N)) (hn : As.length = n) (hst : st0 = As.reverse ++ .ref (w.2.2.1 k) :: st) (hW : (st.map fun v => v.category).sum ≤ 8) (hdg : decode cc pc = .ok (.invokevirtual index, 3)) (hq : pc + 3 = q) (h : ∀ (r : Int32) (σ' : St), P r σ' → VV p l e R s m args below meth c Q nL D w σ' q lv (.int r :: st)) : VV p l e R s m args below meth c Q nL D w σ pc lv st0 := by
  subst hq
  subst hst
  intro ls hls H locs hP hS
  exact va_calli (va_runV (As := As) (rest := st) X.1 hM cw ⟨xPre_blind X.2.2.1, va_recv X.2.1 hP hc ((xW_at hk).trans (by rw [he])), fun U hU hW9 => xPre_at X hP hS U hU hW9⟩ rfl hn hls.1 rfl (lv_room hW) hdg ⟨Nat.zero_le _, Nat.zero_le _⟩) hS (fun q _ h9 => h9) (fun q h9 => h9) (fun r u t H1 locs1 ht _ hp hB _ _ hS1 => h r u hp ls hls H1 locs1 (by unfold xPost at hB; rw [ht] at hB; exact hB) hS1)
theorem vv_cVv (X : XX p s m args meth c cc nL D cy w Ts own) (k ci : Nat) {fs : List Value} {C : String} {T : u_T} {N : Nat} {y : MethodName} {bytes : ByteArray} {maxL n index : Nat}  {ws : List Cond} {rm : Room} {P : St → Prop} {st0 : List Value} (As : List Value) (hM : MV l y ws rm D cy w (.ref (w.2.2.1 k) :: As) σ P) (cw : CallW R s args own C index y bytes maxL none ws rm 0 0 n) (hk : k < w.2.1) (he : w.1 k (σ.1 k) σ.2 = .inr (ci, fs)) (hc : vwCl[ci]? = some (C, T, N)) (hn : As.length = n) (hst : st0 = As.reverse ++ .ref (w.2.2.1 k) :: st) (hW : (st.map fun v => v.category).sum ≤ 8) (hdg : decode cc pc = .ok (.invokevirtual index, 3)) (hq : pc + 3 = q) (h : ∀ (σ' : St), P σ' → VV p l e R s m args below meth c Q nL D w σ' q lv st) : VV p l e R s m args below meth c Q nL D w σ pc lv st0 := by
  subst hq
  subst hst
  intro ls hls H locs hP hS
  exact va_callv (va_runV (As := As) (rest := st) X.1 hM cw ⟨xPre_blind X.2.2.1, va_recv X.2.1 hP hc ((xW_at hk).trans (by rw [he])), fun U hU hW9 => xPre_at X hP hS U hU hW9⟩ rfl hn hls.1 rfl (lv_room hW) hdg ⟨Nat.zero_le _, Nat.zero_le _⟩) hS (fun q _ h9 => h9) (fun q h9 => h9) (fun u t H1 locs1 ht _ hp hB _ _ hS1 => h u hp ls hls H1 locs1 (by unfold xPost at hB; rw [ht] at hB; exact hB) hS1)
theorem vv_cVl (X : XX p s m args meth c cc nL D cy w Ts own) (k ci : Nat) {fs : List Value} {C : String} {T : u_T} {N : Nat} {y : MethodName} {bytes : ByteArray} {maxL n index : Nat} {ty : FieldType} {ws : List Cond} {rm : Room} {P : Int64 → St → Prop} {st0 : List Value} (As : List Value) (hM : ML l y ws rm D cy w (.ref (w.2.2.1 k) :: As) σ P) (cw : CallW R s args own C index y bytes maxL (some ty) ws rm 0 0 n) (hk : k < w.2.1) (he : w.1 k (σ.1 k) σ.2 = .inr (ci, fs)) (hc : vwCl[ci]? = some (C, T, N)) (hn : As.length = n) (hst : st0 = As.reverse ++ .ref (w.2.2.1 k) :: st) (hW : (st.map fun v => v.category).sum ≤ 8) (hdg : decode cc pc = .ok (.invokevirtual index, 3)) (hq : pc + 3 = q) (h : ∀ (r : Int64) (σ' : St), P r σ' → VV p l e R s m args below meth c Q nL D w σ' q lv (.long r :: st)) : VV p l e R s m args below meth c Q nL D w σ pc lv st0 := by
  subst hq
  subst hst
  intro ls hls H locs hP hS
  exact va_calll (va_runV (As := As) (rest := st) X.1 hM cw ⟨xPre_blind X.2.2.1, va_recv X.2.1 hP hc ((xW_at hk).trans (by rw [he])), fun U hU hW9 => xPre_at X hP hS U hU hW9⟩ rfl hn hls.1 rfl (lv_room hW) hdg ⟨Nat.zero_le _, Nat.zero_le _⟩) hS (fun q _ h9 => h9) (fun q h9 => h9) (fun r u t H1 locs1 ht _ hp hB _ _ hS1 => h r u hp ls hls H1 locs1 (by unfold xPost at hB; rw [ht] at hB; exact hB) hS1)
theorem vv_cSi (X : XX p s m args meth c cc nL D cy w Ts own) {y : MethodName} {bytes : ByteArray} {maxL n index : Nat} {ty : FieldType} {ws : List Cond} {rm : Room} {P : Int32 → St → Prop} {st0 : List Value} (As : List Value) (hM : MI l y ws rm D cy w As σ P) (cw : CallB R s args own index y bytes maxL (some ty) ws rm 0 0 n ∧ (Cond.static y).before args s = true) (hn : As.length = n) (hst : st0 = As.reverse ++ st) (hW : (st.map fun v => v.category).sum ≤ 8) (hdg : decode cc pc = .ok (.invokestatic index, 3)) (hq : pc + 3 = q) (h : ∀ (r : Int32) (σ' : St), P r σ' → VV p l e R s m args below meth c Q nL D w σ' q lv (.int r :: st)) : VV p l e R s m args below meth c Q nL D w σ pc lv st0 := by
  subst hq
  subst hst
  intro ls hls H locs hP hS
  exact va_calli (va_runS (As := As) (rest := st) X.1 hM cw ⟨xPre_blind X.2.2.1, fun U hU hW9 => xPre_at X hP hS U hU hW9⟩ rfl hn hls.1 rfl (lv_room hW) hdg ⟨Nat.zero_le _, Nat.zero_le _⟩) hS (fun q _ h9 => h9) (fun q h9 => h9) (fun r u t H1 locs1 ht _ hp hB _ _ hS1 => h r u hp ls hls H1 locs1 (by unfold xPost at hB; rw [ht] at hB; exact hB) hS1)
theorem vv_cSv (X : XX p s m args meth c cc nL D cy w Ts own) {y : MethodName} {bytes : ByteArray} {maxL n index : Nat}  {ws : List Cond} {rm : Room} {P : St → Prop} {st0 : List Value} (As : List Value) (hM : MV l y ws rm D cy w As σ P) (cw : CallB R s args own index y bytes maxL none ws rm 0 0 n ∧ (Cond.static y).before args s = true) (hn : As.length = n) (hst : st0 = As.reverse ++ st) (hW : (st.map fun v => v.category).sum ≤ 8) (hdg : decode cc pc = .ok (.invokestatic index, 3)) (hq : pc + 3 = q) (h : ∀ (σ' : St), P σ' → VV p l e R s m args below meth c Q nL D w σ' q lv st) : VV p l e R s m args below meth c Q nL D w σ pc lv st0 := by
  subst hq
  subst hst
  intro ls hls H locs hP hS
  exact va_callv (va_runS (As := As) (rest := st) X.1 hM cw ⟨xPre_blind X.2.2.1, fun U hU hW9 => xPre_at X hP hS U hU hW9⟩ rfl hn hls.1 rfl (lv_room hW) hdg ⟨Nat.zero_le _, Nat.zero_le _⟩) hS (fun q _ h9 => h9) (fun q h9 => h9) (fun u t H1 locs1 ht _ hp hB _ _ hS1 => h u hp ls hls H1 locs1 (by unfold xPost at hB; rw [ht] at hB; exact hB) hS1)
theorem vv_cSl (X : XX p s m args meth c cc nL D cy w Ts own) {y : MethodName} {bytes : ByteArray} {maxL n index : Nat} {ty : FieldType} {ws : List Cond} {rm : Room} {P : Int64 → St → Prop} {st0 : List Value} (As : List Value) (hM : ML l y ws rm D cy w As σ P) (cw : CallB R s args own index y bytes maxL (some ty) ws rm 0 0 n ∧ (Cond.static y).before args s = true) (hn : As.length = n) (hst : st0 = As.reverse ++ st) (hW : (st.map fun v => v.category).sum ≤ 8) (hdg : decode cc pc = .ok (.invokestatic index, 3)) (hq : pc + 3 = q) (h : ∀ (r : Int64) (σ' : St), P r σ' → VV p l e R s m args below meth c Q nL D w σ' q lv (.long r :: st)) : VV p l e R s m args below meth c Q nL D w σ pc lv st0 := by
  subst hq
  subst hst
  intro ls hls H locs hP hS
  exact va_calll (va_runS (As := As) (rest := st) X.1 hM cw ⟨xPre_blind X.2.2.1, fun U hU hW9 => xPre_at X hP hS U hU hW9⟩ rfl hn hls.1 rfl (lv_room hW) hdg ⟨Nat.zero_le _, Nat.zero_le _⟩) hS (fun q _ h9 => h9) (fun q h9 => h9) (fun r u t H1 locs1 ht _ hp hB _ _ hS1 => h r u hp ls hls H1 locs1 (by unfold xPost at hB; rw [ht] at hB; exact hB) hS1)
theorem vv_cVNi (X : XX p s m args meth c cc nL D cy w Ts own) (k ci : Nat) {fs : List Value} {C : String} {T : u_T} {N : Nat} {host : String} {y : MethodName} {bytes : ByteArray} {maxL n index : Nat} {ty : FieldType} {ws : List Cond} {rm : Room} {P : Int32 → St → Prop} {st0 : List Value} (As : List Value) (hM : MI l y ws rm D cy w (.ref (w.2.2.1 k) :: As) σ P) (cw : va_CN R s args own index y host bytes maxL (some ty) ws rm 0 0 n ∧ (Cond.instanceMethod y).before args s = true ∧ (Cond.selects C y y).before args s = true) (hk : k < w.2.1) (he : w.1 k (σ.1 k) σ.2 = .inr (ci, fs)) (hc : vwCl[ci]? = some (C, T, N)) (hn : As.length = n) (hst : st0 = As.reverse ++ .ref (w.2.2.1 k) :: st) (hW : (st.map fun v => v.category).sum ≤ 8) (hdg : decode cc pc = .ok (.invokevirtual index, 3)) (hq : pc + 3 = q) (h : ∀ (r : Int32) (σ' : St), P r σ' → VV p l e R s m args below meth c Q nL D w σ' q lv (.int r :: st)) : VV p l e R s m args below meth c Q nL D w σ pc lv st0 := by
  subst hq
  subst hst
  intro ls hls H locs hP hS
  exact va_calli (va_runVN (As := As) (rest := st) X.1 hM cw ⟨xPre_blind X.2.2.1, va_recv X.2.1 hP hc ((xW_at hk).trans (by rw [he])), fun U hU hW9 => xPre_at X hP hS U hU hW9⟩ rfl hn hls.1 rfl (lv_room hW) hdg ⟨Nat.zero_le _, Nat.zero_le _⟩) hS (fun q _ h9 => h9) (fun q h9 => h9) (fun r u t H1 locs1 ht _ hp hB _ _ hS1 => h r u hp ls hls H1 locs1 (by unfold xPost at hB; rw [ht] at hB; exact hB) hS1)
theorem vv_cVNv (X : XX p s m args meth c cc nL D cy w Ts own) (k ci : Nat) {fs : List Value} {C : String} {T : u_T} {N : Nat} {host : String} {y : MethodName} {bytes : ByteArray} {maxL n index : Nat}  {ws : List Cond} {rm : Room} {P : St → Prop} {st0 : List Value} (As : List Value) (hM : MV l y ws rm D cy w (.ref (w.2.2.1 k) :: As) σ P) (cw : va_CN R s args own index y host bytes maxL none ws rm 0 0 n ∧ (Cond.instanceMethod y).before args s = true ∧ (Cond.selects C y y).before args s = true) (hk : k < w.2.1) (he : w.1 k (σ.1 k) σ.2 = .inr (ci, fs)) (hc : vwCl[ci]? = some (C, T, N)) (hn : As.length = n) (hst : st0 = As.reverse ++ .ref (w.2.2.1 k) :: st) (hW : (st.map fun v => v.category).sum ≤ 8) (hdg : decode cc pc = .ok (.invokevirtual index, 3)) (hq : pc + 3 = q) (h : ∀ (σ' : St), P σ' → VV p l e R s m args below meth c Q nL D w σ' q lv st) : VV p l e R s m args below meth c Q nL D w σ pc lv st0 := by
  subst hq
  subst hst
  intro ls hls H locs hP hS
  exact va_callv (va_runVN (As := As) (rest := st) X.1 hM cw ⟨xPre_blind X.2.2.1, va_recv X.2.1 hP hc ((xW_at hk).trans (by rw [he])), fun U hU hW9 => xPre_at X hP hS U hU hW9⟩ rfl hn hls.1 rfl (lv_room hW) hdg ⟨Nat.zero_le _, Nat.zero_le _⟩) hS (fun q _ h9 => h9) (fun q h9 => h9) (fun u t H1 locs1 ht _ hp hB _ _ hS1 => h u hp ls hls H1 locs1 (by unfold xPost at hB; rw [ht] at hB; exact hB) hS1)
theorem vv_cVNl (X : XX p s m args meth c cc nL D cy w Ts own) (k ci : Nat) {fs : List Value} {C : String} {T : u_T} {N : Nat} {host : String} {y : MethodName} {bytes : ByteArray} {maxL n index : Nat} {ty : FieldType} {ws : List Cond} {rm : Room} {P : Int64 → St → Prop} {st0 : List Value} (As : List Value) (hM : ML l y ws rm D cy w (.ref (w.2.2.1 k) :: As) σ P) (cw : va_CN R s args own index y host bytes maxL (some ty) ws rm 0 0 n ∧ (Cond.instanceMethod y).before args s = true ∧ (Cond.selects C y y).before args s = true) (hk : k < w.2.1) (he : w.1 k (σ.1 k) σ.2 = .inr (ci, fs)) (hc : vwCl[ci]? = some (C, T, N)) (hn : As.length = n) (hst : st0 = As.reverse ++ .ref (w.2.2.1 k) :: st) (hW : (st.map fun v => v.category).sum ≤ 8) (hdg : decode cc pc = .ok (.invokevirtual index, 3)) (hq : pc + 3 = q) (h : ∀ (r : Int64) (σ' : St), P r σ' → VV p l e R s m args below meth c Q nL D w σ' q lv (.long r :: st)) : VV p l e R s m args below meth c Q nL D w σ pc lv st0 := by
  subst hq
  subst hst
  intro ls hls H locs hP hS
  exact va_calll (va_runVN (As := As) (rest := st) X.1 hM cw ⟨xPre_blind X.2.2.1, va_recv X.2.1 hP hc ((xW_at hk).trans (by rw [he])), fun U hU hW9 => xPre_at X hP hS U hU hW9⟩ rfl hn hls.1 rfl (lv_room hW) hdg ⟨Nat.zero_le _, Nat.zero_le _⟩) hS (fun q _ h9 => h9) (fun q h9 => h9) (fun r u t H1 locs1 ht _ hp hB _ _ hS1 => h r u hp ls hls H1 locs1 (by unfold xPost at hB; rw [ht] at hB; exact hB) hS1)
theorem vv_cSNi (X : XX p s m args meth c cc nL D cy w Ts own) {host : String} {y : MethodName} {bytes : ByteArray} {maxL n index : Nat} {ty : FieldType} {ws : List Cond} {rm : Room} {P : Int32 → St → Prop} {st0 : List Value} (As : List Value) (hM : MI l y ws rm D cy w As σ P) (cw : va_CN R s args own index y host bytes maxL (some ty) ws rm 0 0 n ∧ (Cond.static y).before args s = true ∧ True) (hn : As.length = n) (hst : st0 = As.reverse ++ st) (hW : (st.map fun v => v.category).sum ≤ 8) (hdg : decode cc pc = .ok (.invokestatic index, 3)) (hq : pc + 3 = q) (h : ∀ (r : Int32) (σ' : St), P r σ' → VV p l e R s m args below meth c Q nL D w σ' q lv (.int r :: st)) : VV p l e R s m args below meth c Q nL D w σ pc lv st0 := by
  subst hq
  subst hst
  intro ls hls H locs hP hS
  exact va_calli (va_runSN (As := As) (rest := st) X.1 hM cw ⟨xPre_blind X.2.2.1, fun U hU hW9 => xPre_at X hP hS U hU hW9⟩ rfl hn hls.1 rfl (lv_room hW) hdg ⟨Nat.zero_le _, Nat.zero_le _⟩) hS (fun q _ h9 => h9) (fun q h9 => h9) (fun r u t H1 locs1 ht _ hp hB _ _ hS1 => h r u hp ls hls H1 locs1 (by unfold xPost at hB; rw [ht] at hB; exact hB) hS1)
theorem vv_cSNv (X : XX p s m args meth c cc nL D cy w Ts own) {host : String} {y : MethodName} {bytes : ByteArray} {maxL n index : Nat}  {ws : List Cond} {rm : Room} {P : St → Prop} {st0 : List Value} (As : List Value) (hM : MV l y ws rm D cy w As σ P) (cw : va_CN R s args own index y host bytes maxL none ws rm 0 0 n ∧ (Cond.static y).before args s = true ∧ True) (hn : As.length = n) (hst : st0 = As.reverse ++ st) (hW : (st.map fun v => v.category).sum ≤ 8) (hdg : decode cc pc = .ok (.invokestatic index, 3)) (hq : pc + 3 = q) (h : ∀ (σ' : St), P σ' → VV p l e R s m args below meth c Q nL D w σ' q lv st) : VV p l e R s m args below meth c Q nL D w σ pc lv st0 := by
  subst hq
  subst hst
  intro ls hls H locs hP hS
  exact va_callv (va_runSN (As := As) (rest := st) X.1 hM cw ⟨xPre_blind X.2.2.1, fun U hU hW9 => xPre_at X hP hS U hU hW9⟩ rfl hn hls.1 rfl (lv_room hW) hdg ⟨Nat.zero_le _, Nat.zero_le _⟩) hS (fun q _ h9 => h9) (fun q h9 => h9) (fun u t H1 locs1 ht _ hp hB _ _ hS1 => h u hp ls hls H1 locs1 (by unfold xPost at hB; rw [ht] at hB; exact hB) hS1)
theorem vv_cSNl (X : XX p s m args meth c cc nL D cy w Ts own) {host : String} {y : MethodName} {bytes : ByteArray} {maxL n index : Nat} {ty : FieldType} {ws : List Cond} {rm : Room} {P : Int64 → St → Prop} {st0 : List Value} (As : List Value) (hM : ML l y ws rm D cy w As σ P) (cw : va_CN R s args own index y host bytes maxL (some ty) ws rm 0 0 n ∧ (Cond.static y).before args s = true ∧ True) (hn : As.length = n) (hst : st0 = As.reverse ++ st) (hW : (st.map fun v => v.category).sum ≤ 8) (hdg : decode cc pc = .ok (.invokestatic index, 3)) (hq : pc + 3 = q) (h : ∀ (r : Int64) (σ' : St), P r σ' → VV p l e R s m args below meth c Q nL D w σ' q lv (.long r :: st)) : VV p l e R s m args below meth c Q nL D w σ pc lv st0 := by
  subst hq
  subst hst
  intro ls hls H locs hP hS
  exact va_calll (va_runSN (As := As) (rest := st) X.1 hM cw ⟨xPre_blind X.2.2.1, fun U hU hW9 => xPre_at X hP hS U hU hW9⟩ rfl hn hls.1 rfl (lv_room hW) hdg ⟨Nat.zero_le _, Nat.zero_le _⟩) hS (fun q _ h9 => h9) (fun q h9 => h9) (fun r u t H1 locs1 ht _ hp hB _ _ hS1 => h r u hp ls hls H1 locs1 (by unfold xPost at hB; rw [ht] at hB; exact hB) hS1)
end XV
