/-! constructors: worlds that grow -/
section CJS
def CJ (p : Program) (l : Launch) (e : Env) (R : Room) (s : State) (m : MethodId) (args : Array Value) (below : List Frame) (meth : Method) (c : Code) (Q : State → Prop) (nL : Nat) (D : va_G) (A : Nat → Prop) (ws : va_W) (cells slots : Nat) (pc : Nat) (lv : List (Nat × Value)) (st : List Value) : Prop :=
  ∀ (ls : Array Slot), lv_has ls nL lv → ∀ (H : Heap) (locs : List Loc), va_P D vwCl ws H → va_D A ws → va_S A s.heap H locs → W p l e R s m args below meth c H locs cells slots Q (F0 m pc ls st)
def YY (p : Program) (s : State) (m : MethodId) (args : Array Value) (meth : Method) (c : Code) (cc : ByteArray) (nL : Nat) (D : va_G) (cy : Nat → ClassId) (A : Nat → Prop) (Ts : List Cond) (own : String) : Prop :=
  CallFix p m c cc nL s args Ts own ∧ va_K D vwCl (xTy cy) s ∧ meth.locks = false ∧ meth.name = "<init>" ∧ (∀ q, s.heap.size ≤ q → A q) ∧ va_AOA .int s
def SPre (D : va_G) (cy : Nat → ClassId) (ws0 : va_W) (sz : Nat) : State → Prop := fun U => U.heap.size = sz ∧ va_P D vwCl ws0 U.heap ∧ va_K D vwCl (xTy cy) U ∧ va_AOA .int U
/-- a constructor's contract: what the new cells are, behind it -/
def SC (l : Launch) (y : MethodName) (ws : List Cond) (rm : Room) (D : va_G) (cy : Nat → ClassId) (h0 : Nat) (e0 : va_E) (As : List Value) (seg : (Nat → Nat → Nat) → va_W) (mc ms sz : Nat) : Prop :=
  Met l y ws rm (va_Pc (.ref h0 :: As) (SPre D cy [(h0, e0)] sz)) (va_Qv (fun _ : Nat → Nat → Nat => True) (fun ad t => va_P D vwCl (seg ad) t.heap ∧ va_D (va_A [(h0, e0)] sz) (seg ad)) (va_A [(h0, e0)] sz)) mc ms (va_A [(h0, e0)] sz)
theorem d1_self (x : Nat × va_E) (sz : Nat) : va_D (va_A [x] sz) [x] := by
  refine ⟨fun i j p q hi hj _ => ?_, fun k q hk => va_A.in hk⟩
  have h1 := (List.getElem?_eq_some_iff.mp hi).1
  have h2 := (List.getElem?_eq_some_iff.mp hj).1
  simp at h1 h2
  omega
theorem nd_range (n : Nat) : va_nd (List.range n) = true := by
  have key : ∀ (l : List Nat), l.Nodup → va_nd l = true := by
    intro l
    induction l with
    | nil => intro _; rfl
    | cons a l ih =>
      intro h
      rw [List.nodup_cons] at h
      simp only [va_nd, Bool.and_eq_true, decide_eq_true_eq]
      exact ⟨h.1, ih h.2⟩
  exact key _ List.nodup_range
theorem cj_join {A0 : Nat → Prop} {D : va_G} {cl : List vw_C} {ws0 w1 : va_W} {x : Nat × va_E} {H H1 : Heap} (hP : va_P D cl (ws0 ++ [x]) H) (hD : va_D A0 (ws0 ++ [x]))
    (hk : ∀ q : Nat, q < H.size → ¬ va_A [x] H.size q → H1[q]? = H[q]?) (hF : ∀ q, va_A [x] H.size q → A0 q) (hP1 : va_P D cl w1 H1) (hD1 : va_D (va_A [x] H.size) w1) : va_P D cl (ws0 ++ w1) H1 ∧ va_D A0 (ws0 ++ w1) := by
  refine va_join (wc := [x]) (wr := ws0) hP hD [ws0.length] (List.range ws0.length) (by simp) ?_ (nd_range _) ?_ hk hF hP1 hD1
  · apply List.ext_getElem?
    intro i
    by_cases h : i < ws0.length
    · rw [List.getElem?_map, List.getElem?_range h, List.getElem?_map, List.getElem?_eq_getElem h]
      show some ((ws0 ++ [x])[i]?) = _
      rw [List.getElem?_append_left h, List.getElem?_eq_getElem h]; rfl
    · rw [List.getElem?_eq_none (by simp; omega), List.getElem?_eq_none (by simp; omega)]
  · intro i hi hc
    rw [List.mem_range] at hi
    rw [List.mem_singleton] at hc
    omega
theorem va_P_eqv {D : va_G} {cl : List vw_C} {ws : va_W} {H : Heap} {k a : Nat} {cA : ClassId} {x x' : vp_A} (h : va_P D cl ws H) (hk : ws[k]? = some (a, .inl (cA, x))) (hx : vp_cell cA x = vp_cell cA x') : va_P D cl (ws.set k (a, .inl (cA, x'))) H := by
  intro i q hi
  by_cases e : i = k
  · subst e
    have hl := (List.getElem?_eq_some_iff.mp hk).1
    rw [List.getElem?_set_self hl] at hi
    cases hi
    have := h i _ hk
    show H[a]? = some (vp_cell cA x')
    rw [← hx]; exact this
  · rw [List.getElem?_set_ne (fun q => e q.symm)] at hi
    exact h i q hi
theorem va_D_eqv {A : Nat → Prop} {ws : va_W} {k a : Nat} {v v' : va_E} (h : va_D A ws) (hk : ws[k]? = some (a, v)) : va_D A (ws.set k (a, v')) := by
  have key : ∀ (i : Nat) (q : Nat × va_E), (ws.set k (a, v'))[i]? = some q → ∃ q' : Nat × va_E, ws[i]? = some q' ∧ q'.1 = q.1 := by
    intro i q hi
    by_cases e : i = k
    · subst e
      have hl := (List.getElem?_eq_some_iff.mp hk).1
      rw [List.getElem?_set_self hl] at hi
      cases hi
      exact ⟨_, hk, rfl⟩
    · rw [List.getElem?_set_ne (fun q => e q.symm)] at hi
      exact ⟨q, hi, rfl⟩
  refine ⟨fun i j p q hi hj hpq => ?_, fun i q hi => ?_⟩
  · obtain ⟨p', h1, h2⟩ := key i p hi
    obtain ⟨q', h3, h4⟩ := key j q hj
    exact h.1 i j p' q' h1 h3 (by rw [h2, h4]; exact hpq)
  · obtain ⟨q', h3, h4⟩ := key i q hi
    rw [← h4]; exact h.2 i q' h3
theorem arrV_cg {c : ClassId} {N : Nat} {f g : Nat → Value} (h : ∀ j, j < N → f j = g j) : arrV c N f = arrV c N g := by
  unfold arrV
  congr 1
  congr 1
  funext j
  exact h j.val j.isLt
variable {p : Program} {l : Launch} {e : Env} {R : Room} {s : State} {m : MethodId} {args : Array Value} {below : List Frame} {meth : Method} {c : Code} {Q : State → Prop} {cc : ByteArray} {nL : Nat} {D : va_G} {cy : Nat → ClassId} {A : Nat → Prop} {ws : va_W} {cells slots : Nat} {Ts : List Cond} {own : String} {lv : List (Nat × Value)} {st : List Value} {pc q : Nat}
theorem cj_met {y : MethodName} {wsy ws' : List Cond} {rm : Room} {maxL : Nat} {h0 : Nat} {e0 : va_E} {seg : (Nat → Nat → Nat) → va_W} {mc ms sz : Nat} (As : List Value) (hy : plainName y.cls = true) (hws : wsy = Cond.code y cc maxL none :: ws') (hnm : y.name = "<init>") (hn : (lg_sl (.ref h0 :: As)).length ≤ maxL)
    (body : ∀ (p : Program) (e : Env) (s : State) (m : MethodId) (args : Array Value) (below : List Frame) (meth : Method) (c : Code), YY p s m args meth c cc maxL D cy (va_A [(h0, e0)] sz) wsy y.cls → meth.sig.returnType = none →
      CJ p l e rm s m args below meth c (MQ below (va_Qv (fun _ : Nat → Nat → Nat => True) (fun ad t => va_P D vwCl (seg ad) t.heap ∧ va_D (va_A [(h0, e0)] sz) (seg ad)) (va_A [(h0, e0)] sz)) args s mc ms (va_A [(h0, e0)] sz)) maxL D (va_A [(h0, e0)] sz) [(h0, e0)] 0 0 0 (lv_args 0 (.ref h0 :: As)) []) : SC l y wsy rm D cy h0 e0 As seg mc ms sz := by
  unfold SC
  refine Met.ofW (cc := cc) (maxL := maxL) (ret := none) hy hws ?_
  intro p e s m args below meth c s₁ B hml hv
  obtain ⟨rfl, hsz, hP, hK, hO⟩ := hv
  have hts := atoms_spec (ws := wsy) B.pre
  have hown : s.vm.findClass y.cls = some m.cls := findClass_of_methodNamed B.named
  have hin : meth.name = "<init>" := ((name_of_methodNamed B.named B.method).1).trans hnm
  have hl := lv_entry (.ref h0 :: As) (n := maxL) hn
  rw [lg_entry_eq]
  refine body p e s m _ below meth c ⟨⟨B.exec, B.bytes, hml, hown, hts⟩, hK, B.notSynchronized, hin, fun q hq => Or.inr (by rw [← hsz]; exact hq), hO⟩ B.returns _ hl s.heap [] hP (d1_self _ _) va_S.rf
theorem cj_ws {ws' : va_W} (hw : ws = ws') (h : CJ p l e R s m args below meth c Q nL D A ws' cells slots pc lv st) : CJ p l e R s m args below meth c Q nL D A ws cells slots pc lv st := hw ▸ h
theorem cj_eqv (k : Nat) {a : Nat} {cA : ClassId} {x x' : vp_A} {ws' : va_W} (hk : ws[k]? = some (a, .inl (cA, x))) (hx : vp_cell cA x = vp_cell cA x') (hw : ws.set k (a, .inl (cA, x')) = ws') (h : CJ p l e R s m args below meth c Q nL D A ws' cells slots pc lv st) : CJ p l e R s m args below meth c Q nL D A ws cells slots pc lv st := by
  subst hw
  exact fun ls hls H locs hP hD hS => h ls hls H locs (va_P_eqv hP hk hx) (va_D_eqv hD hk) hS
theorem cj_sub {lv' : List (Nat × Value)} (ks : List Nat) (hk : lv_pick lv ks = lv') (h : CJ p l e R s m args below meth c Q nL D A ws cells slots pc lv' st) : CJ p l e R s m args below meth c Q nL D A ws cells slots pc lv st := fun ls hls => h ls (lv_sub hls ks hk)
theorem cj_iconst (X : YY p s m args meth c cc nL D cy A Ts own) {n : Int} (v : Int32) (hdg : decode cc pc = .ok (.iconst n, 1)) (hv : Int32.ofInt n = v) (hq : pc + 1 = q) (h : CJ p l e R s m args below meth c Q nL D A ws cells slots q lv (.int v :: st)) : CJ p l e R s m args below meth c Q nL D A ws cells slots pc lv (st) := by
  subst hq
  exact fun ls hls H locs hP hD hS => lv_iconst X.1.1 X.1.2.1 hdg hv (h ls hls H locs hP hD hS)
theorem cj_bipush (X : YY p s m args meth c cc nL D cy A Ts own) {n : Int} (v : Int32) (hdg : decode cc pc = .ok (.bipush n, 2)) (hv : (Int8.ofInt n).toInt32 = v) (hq : pc + 2 = q) (h : CJ p l e R s m args below meth c Q nL D A ws cells slots q lv (.int v :: st)) : CJ p l e R s m args below meth c Q nL D A ws cells slots pc lv (st) := by
  subst hq
  exact fun ls hls H locs hP hD hS => lv_bipush X.1.1 X.1.2.1 hdg hv (h ls hls H locs hP hD hS)
theorem cj_sipush (X : YY p s m args meth c cc nL D cy A Ts own) {n : Int} (v : Int32) (hdg : decode cc pc = .ok (.sipush n, 3)) (hv : (Int16.ofInt n).toInt32 = v) (hq : pc + 3 = q) (h : CJ p l e R s m args below meth c Q nL D A ws cells slots q lv (.int v :: st)) : CJ p l e R s m args below meth c Q nL D A ws cells slots pc lv (st) := by
  subst hq
  exact fun ls hls H locs hP hD hS => lv_sipush X.1.1 X.1.2.1 hdg hv (h ls hls H locs hP hD hS)
theorem cj_lconst (X : YY p s m args meth c cc nL D cy A Ts own) {n : Fin 2} (v : Int64) (hdg : decode cc pc = .ok (.lconst n, 1)) (hv : Int64.ofNat (n : Nat) = v) (hq : pc + 1 = q) (h : CJ p l e R s m args below meth c Q nL D A ws cells slots q lv (.long v :: st)) : CJ p l e R s m args below meth c Q nL D A ws cells slots pc lv (st) := by
  subst hq
  exact fun ls hls H locs hP hD hS => lv_lconst X.1.1 X.1.2.1 hdg hv (h ls hls H locs hP hD hS)
theorem cj_dup (X : YY p s m args meth c cc nL D cy A Ts own) {v : Value} (hdg : decode cc pc = .ok (.dup, 1)) (hv : v.category = 1) (hq : pc + 1 = q) (h : CJ p l e R s m args below meth c Q nL D A ws cells slots q lv (v :: v :: st)) : CJ p l e R s m args below meth c Q nL D A ws cells slots pc lv (v :: st) := by
  subst hq
  exact fun ls hls H locs hP hD hS => lv_dup X.1.1 X.1.2.1 hdg hv (h ls hls H locs hP hD hS)
theorem cj_iload_n (X : YY p s m args meth c cc nL D cy A Ts own) {k : Fin 4} {i : Nat} {x : Int32} (kk : Nat) (hdg : decode cc pc = .ok (.iload_n k, 1)) (hi : (k : Nat) = i) (hl : lv[kk]? = some (i, .int x)) (hq : pc + 1 = q) (h : CJ p l e R s m args below meth c Q nL D A ws cells slots q lv (.int x :: st)) : CJ p l e R s m args below meth c Q nL D A ws cells slots pc lv st := by
  subst hq
  exact fun ls hls H locs hP hD hS => lv_iload_n X.1.1 X.1.2.1 hdg hi (lv_at hls kk hl) (h ls hls H locs hP hD hS)
theorem cj_aload_n (X : YY p s m args meth c cc nL D cy A Ts own) {k : Fin 4} {i : Nat} {x : Nat} (kk : Nat) (hdg : decode cc pc = .ok (.aload_n k, 1)) (hi : (k : Nat) = i) (hl : lv[kk]? = some (i, .ref x)) (hq : pc + 1 = q) (h : CJ p l e R s m args below meth c Q nL D A ws cells slots q lv (.ref x :: st)) : CJ p l e R s m args below meth c Q nL D A ws cells slots pc lv st := by
  subst hq
  exact fun ls hls H locs hP hD hS => lv_aload_n X.1.1 X.1.2.1 hdg hi (lv_at hls kk hl) (h ls hls H locs hP hD hS)
theorem cj_istore_n (X : YY p s m args meth c cc nL D cy A Ts own) {k : Fin 4} {i : Nat} {x : Int32} {lv2 : List (Nat × Value)} (hdg : decode cc pc = .ok (.istore_n k, 1)) (hi : (k : Nat) = i) (hn : i < nL) (hl : (i, Value.int x) :: lv.filter (fun q => !(q.1 == i) && !(q.1 + 1 == i && q.2.category == 2)) = lv2) (hq : pc + 1 = q) (h : CJ p l e R s m args below meth c Q nL D A ws cells slots q lv2 st) : CJ p l e R s m args below meth c Q nL D A ws cells slots pc lv (.int x :: st) := by
  subst hq
  exact fun ls hls H locs hP hD hS => lv_istore_n X.1.1 X.1.2.1 hdg hi hls hn hl (fun ls1 h1 => h ls1 h1 H locs hP hD hS)
theorem cj_iinc (X : YY p s m args meth c cc nL D cy A Ts own) {i : Nat} {n : Int} {x v : Int32} {lv2 : List (Nat × Value)} (kk : Nat) (hdg : decode cc pc = .ok (.iinc i n, 3)) (hk : lv[kk]? = some (i, .int x)) (hv : x + Int32.ofInt n = v) (hn : i < nL) (hl : (i, Value.int v) :: lv.filter (fun q => !(q.1 == i) && !(q.1 + 1 == i && q.2.category == 2)) = lv2) (hq : pc + 3 = q) (h : CJ p l e R s m args below meth c Q nL D A ws cells slots q lv2 st) : CJ p l e R s m args below meth c Q nL D A ws cells slots pc lv st := by
  subst hq
  exact fun ls hls H locs hP hD hS => lv_iinc (k := kk) X.1.1 X.1.2.1 hdg hls hk hv hn hl (fun ls1 h1 => h ls1 h1 H locs hP hD hS)
theorem cj_icmp_ge (X : YY p s m args meth c cc nL D cy A Ts own) {x y : Int32} {off : Int} (tgt : Nat) (hdg : decode cc pc = .ok (.if_icmp .ge off, 3)) (ht : (pc : Int) + off = (tgt : Int)) (hq : pc + 3 = q) (kt : y ≤ x → CJ p l e R s m args below meth c Q nL D A ws cells slots tgt lv st) (kf : ¬ y ≤ x → CJ p l e R s m args below meth c Q nL D A ws cells slots q lv st) : CJ p l e R s m args below meth c Q nL D A ws cells slots pc lv (.int y :: .int x :: st) := by
  subst hq
  exact fun ls hls H locs hP hD hS => lv_icmp_ge X.1.1 X.1.2.1 hdg ht (fun c1 => kt c1 ls hls H locs hP hD hS) (fun c1 => kf c1 ls hls H locs hP hD hS)
theorem cj_goto (X : YY p s m args meth c cc nL D cy A Ts own) {off : Int} (tgt : Nat) (hdg : decode cc pc = .ok (.goto off, 3)) (ht : (pc : Int) + off = (tgt : Int)) (h : CJ p l e R s m args below meth c Q nL D A ws cells slots tgt lv st) : CJ p l e R s m args below meth c Q nL D A ws cells slots pc lv st := fun ls hls H locs hP hD hS => lv_goto X.1.1 X.1.2.1 hdg ht (h ls hls H locs hP hD hS)

theorem cj_obj (X : YY p s m args meth c cc nL D cy A Ts own) {index : Nat} {a : Nat} (hlink : Cond.methodLink own index Lib.objectInit ∈ Ts) (hinst : Cond.instanceMethod Lib.objectInit ∈ Ts) (hcode : Cond.code Lib.objectInit ⟨#[0xb1]⟩ 1 none ∈ Ts) (hW : (st.map fun v => v.category).sum ≤ 8) (hfr : 1 ≤ R.frames) (hlo : 20 ≤ R.locals) (hdg : decode cc pc = .ok (.invokespecial index, 3)) (hq : pc + 3 = q) (h : CJ p l e R s m args below meth c Q nL D A ws cells slots q lv st) : CJ p l e R s m args below meth c Q nL D A ws cells slots pc lv (.ref a :: st) := by
  subst hq
  intro ls hls H locs hP hD hS
  have hm := lv_room (m := m) (pc := pc) (ls := ls) (rest := .ref a :: st) hW
  refine W.objInit X.1.1 X.1.2.1 X.1.2.2.2.1 (X.1.2.2.2.2 _ hlink) (X.1.2.2.2.2 _ hinst) (X.1.2.2.2.2 _ hcode) rfl (by rw [X.1.2.2.1]; exact hls.1) rfl hdg hfr (by omega) ?_
  exact h ls hls H locs hP hD hS
theorem cj_get (X : YY p s m args meth c cc nL D cy A Ts own) (k ci j : Nat) {a : Nat} {fs : List Value} {C ref : String} {T : u_T} {N index : Nat} {v : Value} (he : ws[k]? = some (a, .inr (ci, fs))) (hc : vwCl[ci]? = some (C, T, N)) (hj : j < N) (hin : ∀ w ∈ u_ws C T N, w ∈ Ts) (hlink : Cond.fieldLink own index ref (T j).2.1 (T j).2.2.1 ∈ Ts) (hsame : ref = (T j).1) (hv : fs[j]? = some v) (hdg : decode cc pc = .ok (.getfield index, 3)) (hq : pc + 3 = q) (h : CJ p l e R s m args below meth c Q nL D A ws cells slots q lv (v :: st)) : CJ p l e R s m args below meth c Q nL D A ws cells slots pc lv (.ref a :: st) := by
  subst hq
  exact fun ls hls H locs hP hD hS => va_get X.1.1 X.1.2.1 X.1.2.2.2.2 hin X.1.2.2.2.1 X.2.1 hP k he hc j hj (X.1.2.2.2.2 _ hlink) (fun x h9 => by rw [hsame]; exact h9) hv hdg (h ls hls H locs hP hD hS)
theorem cj_putF (X : YY p s m args meth c cc nL D cy A Ts own) (k ci j : Nat) {a : Nat} {fs : List Value} {C ref : String} {T : u_T} {N index : Nat} {v : Value} {ty : FieldType} {ws' : va_W} (ty0 : Nat → FieldType) (hty : ∀ k, k < N → parseFieldDescriptor (T k).2.2.1 = some (ty0 k)) (hnm : ∀ a, a < N → ∀ b, b < N → a ≠ b → (T a).2.1 ≠ (T b).2.1) (he : ws[k]? = some (a, .inr (ci, fs))) (hc : vwCl[ci]? = some (C, T, N)) (hj : j < N) (hl : fs.length = N) (hin : ∀ w ∈ u_ws C T N, w ∈ Ts) (hlink : Cond.fieldLink own index ref (T j).2.1 (T j).2.2.1 ∈ Ts) (hsame : ref = (T j).1) (hfin : (T j).2.2.2 = true) (hdecl : (T j).1 = own) (hd : ty0 j = ty) (hn : narrow ty v = v) (hfit : fits ty v = true) (hw : ws.set k (a, .inr (ci, fs.set j v)) = ws') (hdg : decode cc pc = .ok (.putfield index, 3)) (hq : pc + 3 = q) (h : CJ p l e R s m args below meth c Q nL D A ws' cells slots q lv st) : CJ p l e R s m args below meth c Q nL D A ws cells slots pc lv (v :: .ref a :: st) := by
  subst hq
  subst hw
  exact fun ls hls H locs hP hD hS => va_putF X.1.1 X.1.2.1 X.1.2.2.2.2 hin ty0 hty hnm X.1.2.2.2.1 X.2.1 hP hD hS k he hc j hj (X.1.2.2.2.2 _ hlink) (fun x h9 => by rw [hsame]; exact h9) hfin X.2.2.2.1 hdecl ((hty j hj).trans (by rw [hd])) hn hfit (by rw [hl]; exact hj) hdg (fun H1 locs1 hP1 hD1 hS1 => h ls hls H1 locs1 hP1 hD1 hS1)
theorem cj_put (X : YY p s m args meth c cc nL D cy A Ts own) (k ci j : Nat) {a : Nat} {fs : List Value} {C ref : String} {T : u_T} {N index : Nat} {v : Value} {ty : FieldType} {ws' : va_W} (ty0 : Nat → FieldType) (hty : ∀ k, k < N → parseFieldDescriptor (T k).2.2.1 = some (ty0 k)) (hnm : ∀ a, a < N → ∀ b, b < N → a ≠ b → (T a).2.1 ≠ (T b).2.1) (he : ws[k]? = some (a, .inr (ci, fs))) (hc : vwCl[ci]? = some (C, T, N)) (hj : j < N) (hl : fs.length = N) (hin : ∀ w ∈ u_ws C T N, w ∈ Ts) (hlink : Cond.fieldLink own index ref (T j).2.1 (T j).2.2.1 ∈ Ts) (hsame : ref = (T j).1) (hfin : (T j).2.2.2 = false) (hd : ty0 j = ty) (hn : narrow ty v = v) (hfit : fits ty v = true) (hw : ws.set k (a, .inr (ci, fs.set j v)) = ws') (hdg : decode cc pc = .ok (.putfield index, 3)) (hq : pc + 3 = q) (h : CJ p l e R s m args below meth c Q nL D A ws' cells slots q lv st) : CJ p l e R s m args below meth c Q nL D A ws cells slots pc lv (v :: .ref a :: st) := by
  subst hq
  subst hw
  exact fun ls hls H locs hP hD hS => va_put X.1.1 X.1.2.1 X.1.2.2.2.2 hin ty0 hty hnm X.1.2.2.2.1 X.2.1 hP hD hS k he hc j hj (X.1.2.2.2.2 _ hlink) (fun x h9 => by rw [hsame]; exact h9) hfin ((hty j hj).trans (by rw [hd])) hn hfit (by rw [hl]; exact hj) hdg (fun H1 locs1 hP1 hD1 hS1 => h ls hls H1 locs1 hP1 hD1 hS1)
theorem cj_new (X : YY p s m args meth c cc nL D cy A Ts own) (ci : Nat) {C : String} {T : u_T} {N index : Nat} (fs : List Value) (ty0 : Nat → FieldType) (hty : ∀ k, k < N → parseFieldDescriptor (T k).2.2.1 = some (ty0 k)) (hc : vwCl[ci]? = some (C, T, N)) (hin : ∀ w ∈ u_ws C T N, w ∈ Ts) (hcl : Cond.classLink own index C ∈ Ts) (hinst : Cond.instantiable C N ∈ Ts) (hini : Cond.initialized C ∈ Ts) (hfs : ∀ j, j < N → defaultValue (ty0 j) = vp_V fs j) (hcells : cells + 1 ≤ R.cells) (hslots : slots + N ≤ R.slots) (hdg : decode cc pc = .ok (.new index, 3)) (hq : pc + 3 = q) (h : ∀ a : Nat, CJ p l e R s m args below meth c Q nL D A (ws ++ [(a, .inr (ci, fs))]) (cells + 1) (slots + N) q lv (.ref a :: st)) : CJ p l e R s m args below meth c Q nL D A ws cells slots pc lv st := by
  subst hq
  exact fun ls hls H locs hP hD hS => va_new X.1.1 X.1.2.1 X.1.2.2.2.2 hin ty0 hty X.1.2.2.2.1 (X.1.2.2.2.2 _ hcl) (X.1.2.2.2.2 _ hinst) (X.1.2.2.2.2 _ hini) X.2.1 hP hD hS X.2.2.2.2.1 hc hfs hcells hslots hdg (fun a H1 hP1 hD1 hS1 => h a ls hls H1 locs hP1 hD1 hS1)
theorem cj_newi (X : YY p s m args meth c cc nL D cy A Ts own) {n : Int32} (N' : Nat) (harr : Cond.arrayClass .int ∈ Ts) (hn : ¬ n < 0) (hN : n.toNatClampNeg = N') (hb : N' * componentBytes .int ≤ 536870912) (hcells : cells + 1 ≤ R.cells) (hslots : slots + N' ≤ R.slots) (hdg : decode cc pc = .ok (.newarray .int, 2)) (hq : pc + 2 = q) (h : ∀ a : Nat, CJ p l e R s m args below meth c Q nL D A (ws ++ [(a, .inl (cy 0, N', .inl (fun _ => 0)))]) (cells + 1) (slots + N') q lv (.ref a :: st)) : CJ p l e R s m args below meth c Q nL D A ws cells slots pc lv (.int n :: st) := by
  subst hq
  intro ls hls H locs hP hD hS
  refine va_newa (atype := .int) (ty := .int) (a0 := (N', .inl (fun _ => 0))) X.1.1 X.1.2.1 (X.1.2.2.2.2 _ harr) rfl X.2.1 hP hD hS X.2.2.2.2.1 (fun _ => rfl) hn hN hb hcells hslots hdg (fun a cA H1 hK hP1 hD1 hS1 => ?_)
  have e : cA = cy 0 := Option.some.inj ((va_nm_int (hK.2 5 (cA, .int) rfl).2).symm.trans (va_nm_int (X.2.1.2 0 (cy 0, .int) rfl).2))
  subst e
  exact h a ls hls H1 locs hP1 hD1 hS1
theorem cj_newb (X : YY p s m args meth c cc nL D cy A Ts own) {n : Int32} (N' : Nat) (harr : Cond.arrayClass .byte ∈ Ts) (hn : ¬ n < 0) (hN : n.toNatClampNeg = N') (hb : N' * componentBytes .byte ≤ 536870912) (hcells : cells + 1 ≤ R.cells) (hslots : slots + N' ≤ R.slots) (hdg : decode cc pc = .ok (.newarray .byte, 2)) (hq : pc + 2 = q) (h : ∀ a : Nat, CJ p l e R s m args below meth c Q nL D A (ws ++ [(a, .inl (cy 1, N', .inl (fun _ => 0)))]) (cells + 1) (slots + N') q lv (.ref a :: st)) : CJ p l e R s m args below meth c Q nL D A ws cells slots pc lv (.int n :: st) := by
  subst hq
  intro ls hls H locs hP hD hS
  refine va_newa (atype := .byte) (ty := .byte) (a0 := (N', .inl (fun _ => 0))) X.1.1 X.1.2.1 (X.1.2.2.2.2 _ harr) rfl X.2.1 hP hD hS X.2.2.2.2.1 (fun _ => rfl) hn hN hb hcells hslots hdg (fun a cA H1 hK hP1 hD1 hS1 => ?_)
  have e : cA = cy 1 := Option.some.inj ((va_nm_byte (hK.2 5 (cA, .byte) rfl).2).symm.trans (va_nm_byte (X.2.1.2 1 (cy 1, .byte) rfl).2))
  subst e
  exact h a ls hls H1 locs hP1 hD1 hS1
theorem cj_newz (X : YY p s m args meth c cc nL D cy A Ts own) {n : Int32} (N' : Nat) (harr : Cond.arrayClass .boolean ∈ Ts) (hn : ¬ n < 0) (hN : n.toNatClampNeg = N') (hb : N' * componentBytes .boolean ≤ 536870912) (hcells : cells + 1 ≤ R.cells) (hslots : slots + N' ≤ R.slots) (hdg : decode cc pc = .ok (.newarray .boolean, 2)) (hq : pc + 2 = q) (h : ∀ a : Nat, CJ p l e R s m args below meth c Q nL D A (ws ++ [(a, .inl (cy 2, N', .inl (fun _ => 0)))]) (cells + 1) (slots + N') q lv (.ref a :: st)) : CJ p l e R s m args below meth c Q nL D A ws cells slots pc lv (.int n :: st) := by
  subst hq
  intro ls hls H locs hP hD hS
  refine va_newa (atype := .boolean) (ty := .boolean) (a0 := (N', .inl (fun _ => 0))) X.1.1 X.1.2.1 (X.1.2.2.2.2 _ harr) rfl X.2.1 hP hD hS X.2.2.2.2.1 (fun _ => rfl) hn hN hb hcells hslots hdg (fun a cA H1 hK hP1 hD1 hS1 => ?_)
  have e : cA = cy 2 := Option.some.inj ((va_nm_boolean (hK.2 5 (cA, .boolean) rfl).2).symm.trans (va_nm_boolean (X.2.1.2 2 (cy 2, .boolean) rfl).2))
  subst e
  exact h a ls hls H1 locs hP1 hD1 hS1
theorem cj_newq (X : YY p s m args meth c cc nL D cy A Ts own) {n : Int32} {index : Nat} (N' : Nat) (hcl : Cond.classLink own index "HalfLadders$Now" ∈ Ts) (hover : va_AO "HalfLadders$Now" s) (hn : ¬ n < 0) (hN : n.toNatClampNeg = N') (hb : N' * 4 ≤ 536870912) (hcells : cells + 1 ≤ R.cells) (hslots : slots + N' ≤ R.slots) (hdg : decode cc pc = .ok (.anewarray index, 3)) (hq : pc + 3 = q) (h : ∀ a : Nat, CJ p l e R s m args below meth c Q nL D A (ws ++ [(a, .inl (cy 4, N', .inr (.inr (.inr (.inr (fun _ => none))))))]) (cells + 1) (slots + N') q lv (.ref a :: st)) : CJ p l e R s m args below meth c Q nL D A ws cells slots pc lv (.int n :: st) := by
  subst hq
  intro ls hls H locs hP hD hS
  refine va_newq X.1.1 X.1.2.1 X.1.2.2.2.1 (X.1.2.2.2.2 _ hcl) hover X.2.1 hP hD hS X.2.2.2.2.1 hn hN hb hcells hslots hdg (fun a cA H1 hK hP1 hD1 hS1 => ?_)
  have e : cA = cy 4 := Option.some.inj ((va_nmO (hK.2 5 (cA, .object "HalfLadders$Now") rfl).2 rfl).symm.trans (va_nmO (X.2.1.2 4 (cy 4, .object "HalfLadders$Now") rfl).2 rfl))
  subst e
  exact h a ls hls H1 locs hP1 hD1 hS1
theorem cj_aast (X : YY p s m args meth c cc nL D cy A Ts own) (k qk : Nat) {a v n : Nat} {vs : List Value} {f : Nat → Option Nat} {i : Int32} {ws' : va_W} (ha : ws[k]? = some (a, .inl (cy 4, n, .inr (.inr (.inr (.inr f)))))) (hv : ws[qk]? = some (v, .inr (2, vs))) (hin : vp_in i n) (hw : ws.set k (a, .inl (cy 4, n, .inr (.inr (.inr (.inr (va_up f i.toNatClampNeg (some v))))))) = ws') (hdg : decode cc pc = .ok (.aastore, 1)) (hq : pc + 1 = q) (h : CJ p l e R s m args below meth c Q nL D A ws' cells slots q lv st) : CJ p l e R s m args below meth c Q nL D A ws cells slots pc lv (.ref v :: .int i :: .ref a :: st) := by
  subst hq
  subst hw
  exact fun ls hls H locs hP hD hS => va_astq X.1.1 X.1.2.1 X.2.1 hP hD hS k 4 qk 2 ha rfl hv rfl hin hdg (fun H1 locs1 hP1 hD1 hS1 => h ls hls H1 locs1 hP1 hD1 hS1)
theorem cj_iast (X : YY p s m args meth c cc nL D cy A Ts own) (k t0 : Nat) {a n : Nat} {f : Nat → Int32} {i v : Int32} {ws' : va_W} (ha : ws[k]? = some (a, .inl (cy 0, n, .inl f))) (hin : vp_in i n) (hw : ws.set k (a, .inl (cy 0, n, .inl (upd f i.toNatClampNeg v))) = ws') (hdg : decode cc pc = .ok (.iastore, 1)) (hq : pc + 1 = q) (h : CJ p l e R s m args below meth c Q nL D A ws' cells slots q lv st) : CJ p l e R s m args below meth c Q nL D A ws cells slots pc lv (.int v :: .int i :: .ref a :: st) := by
  subst hq
  subst hw
  exact fun ls hls H locs hP hD hS => va_iast X.1.1 X.1.2.1 X.2.1 hP hD hS k 0 ha rfl hin hdg (fun H1 locs1 hP1 hD1 hS1 => h ls hls H1 locs1 hP1 hD1 hS1)
theorem cj_mna (X : YY p s m args meth c cc nL D cy A Ts own) {n k : Int32} {index : Nat} (N' K' : Nat) (hcl : Cond.classLink own index "[[I" ∈ Ts) (harr : Cond.arrayClass .int ∈ Ts) (hn : ¬ n < 0) (hk : ¬ k < 0) (hN : n.toNatClampNeg = N') (hM : k.toNatClampNeg = K') (hb1 : N' * 4 ≤ 536870912) (hb2 : K' * componentBytes .int ≤ 536870912) (hb3 : K' ≤ 536870912) (hcells : cells + (1 + N') ≤ R.cells) (hslots : slots + (N' + N' * K') ≤ R.slots) (hdg : decode cc pc = .ok (.multianewarray index 2, 4)) (hq : pc + 4 = q)
    (h : ∀ (a : Nat) (r : Nat → Nat), CJ p l e R s m args below meth c Q nL D A (ws ++ ((a, .inl (cy 3, N', .inr (.inr (.inr (.inr (fun j => some (r j))))))) :: (List.range N').map (fun i => (r i, .inl (cy 0, K', .inl (fun _ => 0)))))) (cells + 1 + N') (slots + N' + N' * K') q lv (.ref a :: st)) : CJ p l e R s m args below meth c Q nL D A ws cells slots pc lv (.int k :: .int n :: st) := by
  subst hq
  intro ls hls H locs hP hD hS
  have hcy : s.vm.findClass (FieldType.array FieldType.int).toString = some (cy 0) := by
    rw [show (FieldType.array FieldType.int).toString = "[I" from by decide +kernel]
    exact va_nm_int (X.2.1.2 0 (cy 0, .int) rfl).2
  have ecl : ("[" ++ (FieldType.array FieldType.int).toString) = "[[I" := by decide +kernel
  have e0 : ws ++ va_pl [] (fun _ => .inl (cy 0, 0, .inl (fun _ => 0))) = ws := List.append_nil ws
  refine va_mna (X := ws) (L := []) (f := fun _ => .inl (cy 0, 0, .inl (fun _ => 0))) (ty := .int) (z := (K', .inl (fun _ => 0))) X.1.1 X.1.2.1 X.1.2.2.2.1 (by rw [ecl]; exact X.1.2.2.2.2 _ hcl) X.2.2.2.2.2 (X.1.2.2.2.2 _ harr) hcy X.2.1 (by rw [e0]; exact hP) (by rw [e0]; exact hD) hS X.2.2.2.2.1 hn hk hN hM hb1 hb2 hb3 rfl rfl hcells hslots (fun cI => arrV_new cI K' (.int 0)) hdg (fun a r cA H1 hr hrL hK hP1 hD1 hS1 => ?_)
  have e : cA = cy 3 := Option.some.inj ((hK.2 5 (cA, .array .int) rfl).2.symm.trans (X.2.1.2 3 (cy 3, .array .int) rfl).2)
  subst e
  have el : va_pl ([] ++ (List.range N').map r) (vr_up (fun _ => .inl (cy 0, 0, .inl (fun _ => 0))) ((List.range N').map r) (.inl (cy 0, K', .inl (fun _ => 0)))) = (List.range N').map (fun i => (r i, .inl (cy 0, K', .inl (fun _ => 0)))) := by
    unfold va_pl
    rw [List.nil_append, List.map_map]
    apply List.map_congr_left
    intro i hi
    show (r i, vr_up _ _ _ (r i)) = _
    rw [vr_up_in (List.mem_map.mpr ⟨i, hi, rfl⟩)]
  rw [el] at hP1 hD1
  have ew : (ws ++ [(a, Sum.inl (cy 3, N', Sum.inr (Sum.inr (Sum.inr (Sum.inr (fun i => if i < N' then some (r i) else none))))))]) ++ (List.range N').map (fun i => (r i, .inl (cy 0, K', .inl (fun _ => 0)))) = (ws ++ ((a, Sum.inl (cy 3, N', Sum.inr (Sum.inr (Sum.inr (Sum.inr (fun i => if i < N' then some (r i) else none)))))) :: (List.range N').map (fun i => (r i, .inl (cy 0, K', .inl (fun _ => 0)))) : va_W)) := by rw [List.append_assoc]; rfl
  rw [ew] at hP1 hD1
  have hk9 : (ws ++ ((a, Sum.inl (cy 3, N', Sum.inr (Sum.inr (Sum.inr (Sum.inr (fun i => if i < N' then some (r i) else none)))))) :: (List.range N').map (fun i => (r i, .inl (cy 0, K', .inl (fun _ => 0)))) : va_W))[ws.length]? = some (a, .inl (cy 3, N', .inr (.inr (.inr (.inr (fun i => if i < N' then some (r i) else none)))))) := by
    rw [List.getElem?_append_right (Nat.le_refl _), Nat.sub_self]; rfl
  have hx9 : vp_cell (cy 3) (N', .inr (.inr (.inr (.inr (fun i => if i < N' then some (r i) else none))))) = vp_cell (cy 3) (N', .inr (.inr (.inr (.inr (fun j => some (r j)))))) := by
    rw [vp_cell_q, vp_cell_q]
    exact arrV_cg (fun j hj => by rw [if_pos hj])
  have es : (ws ++ ((a, Sum.inl (cy 3, N', Sum.inr (Sum.inr (Sum.inr (Sum.inr (fun i => if i < N' then some (r i) else none)))))) :: (List.range N').map (fun i => (r i, .inl (cy 0, K', .inl (fun _ => 0)))) : va_W)).set ws.length (a, .inl (cy 3, N', .inr (.inr (.inr (.inr (fun j => some (r j))))))) = ws ++ ((a, .inl (cy 3, N', .inr (.inr (.inr (.inr (fun j => some (r j))))))) :: (List.range N').map (fun i => (r i, .inl (cy 0, K', .inl (fun _ => 0))))) := by
    rw [List.set_append_right _ _ (Nat.le_refl _), Nat.sub_self]; rfl
  have hP2 := va_P_eqv hP1 hk9 hx9
  have hD2 := va_D_eqv (v' := .inl (cy 3, N', .inr (.inr (.inr (.inr (fun j => some (r j))))))) hD1 hk9
  rw [es] at hP2 hD2
  exact h a r ls hls H1 locs hP2 hD2 hS1
theorem cj_vret (X : YY p s m args meth c cc nL D cy A Ts own) {seg : (Nat → Nat → Nat) → va_W} (hr : meth.sig.returnType = none) (ad : Nat → Nat → Nat) (hw : ws = seg ad) (hdg : decode cc pc = .ok (.return_, 1)) : CJ p l e R s m args below meth c (MQ below (va_Qv (fun _ : Nat → Nat → Nat => True) (fun ad t => va_P D vwCl (seg ad) t.heap ∧ va_D A (seg ad)) A) args s cells slots A) nL D A ws cells slots pc lv [] :=
  fun ls hls H locs hP hD hS => W.vret X.1.1 X.1.2.1 hr (fun t ht _ => ⟨⟨ad, rfl, trivial, by rw [ht, ← hw]; exact hP, by rw [← hw]; exact hD⟩, hS.F ht⟩) hS.2.2 hdg X.2.2.1
theorem sc_blind {av : List Value} {ws0 : va_W} {sz : Nat} : FrameBlind (va_Pc av (SPre D cy ws0 sz)) := fun a U g mk q => by
  obtain ⟨q0, q1, qP, qK, qO⟩ := q
  exact ⟨q0, q1, qP, va_K.moved (u := U) (U := U.calling g mk a) (Vm.Alike.refl U.vm) qK, over_moved (u := U) (E := U.calling g mk a) (Vm.Alike.refl U.vm) qO⟩
theorem last1 {ws0 : va_W} {x : Nat × va_E} {H : Heap} (hP : va_P D vwCl (ws0 ++ [x]) H) : va_P D vwCl [x] H := hP.sub [ws0.length] (by simp)
theorem cj_callN (X : YY p s m args meth c cc nL D cy A Ts own) {y : MethodName} {wsy : List Cond} {rm : Room} {bytes : ByteArray} {maxL n index mc ms : Nat} {host : String} {ws0 : va_W} {a : Nat} {e0 : va_E} {st0 : List Value} (As : List Value) {seg : (Nat → Nat → Nat) → va_W} (hM : ∀ sz, SC l y wsy rm D cy a e0 As seg mc ms sz) (cw : va_CN R s args own index y host bytes maxL none wsy rm mc ms n ∧ y.name = "<init>" ∧ (Cond.instanceMethod y).before args s = true) (hn : As.length = n) (hst : st0 = As.reverse ++ .ref a :: st) (hW : (st.map fun v => v.category).sum ≤ 8) (hdg : decode cc pc = .ok (.invokespecial index, 3)) (hq : pc + 3 = q) (hc : cells + mc ≤ R.cells) (hs : slots + ms ≤ R.slots) (h : ∀ ad : Nat → Nat → Nat, CJ p l e R s m args below meth c Q nL D A (ws0 ++ seg ad) (cells + mc) (slots + ms) q lv st) : CJ p l e R s m args below meth c Q nL D A (ws0 ++ [(a, e0)]) cells slots pc lv st0 := by
  subst hq
  subst hst
  intro ls hls H locs hP hD hS
  have hF : ∀ q, va_A [(a, e0)] H.size q → A q := va_free hD hS X.2.2.2.2.1 [ws0.length] (by simp)
  refine va_callv (va_runIN (As := As) (rest := st) X.1 (hM H.size) cw ⟨sc_blind, fun U hU hW => ⟨rfl, by rw [hU], by rw [hU]; exact last1 hP, va_K.moved hW.alike X.2.1, over_moved hW.alike X.2.2.2.2.2⟩⟩ rfl hn hls.1 rfl (lv_room hW) hdg ⟨hc, hs⟩) hS (fun q _ h9 => hF q h9) hF (fun ad t H1 locs1 ht _ _ hB _ hk1 hS1 => ?_)
  obtain ⟨hP1, hD1⟩ := hB
  rw [ht] at hP1
  obtain ⟨hP2, hD2⟩ := cj_join hP hD hk1 hF hP1 hD1
  exact h ad ls hls H1 locs1 hP2 hD2 hS1
theorem cj_callI (X : YY p s m args meth c cc nL D cy A Ts own) {y : MethodName} {wsy : List Cond} {rm : Room} {bytes : ByteArray} {maxL n index mc ms : Nat} {ws0 : va_W} {a : Nat} {e0 : va_E} {st0 : List Value} (As : List Value) {seg : (Nat → Nat → Nat) → va_W} (hM : ∀ sz, SC l y wsy rm D cy a e0 As seg mc ms sz) (cw : CallB R s args own index y bytes maxL none wsy rm mc ms n ∧ y.name = "<init>" ∧ (Cond.instanceMethod y).before args s = true) (hn : As.length = n) (hst : st0 = As.reverse ++ .ref a :: st) (hW : (st.map fun v => v.category).sum ≤ 8) (hdg : decode cc pc = .ok (.invokespecial index, 3)) (hq : pc + 3 = q) (hc : cells + mc ≤ R.cells) (hs : slots + ms ≤ R.slots) (h : ∀ ad : Nat → Nat → Nat, CJ p l e R s m args below meth c Q nL D A (ws0 ++ seg ad) (cells + mc) (slots + ms) q lv st) : CJ p l e R s m args below meth c Q nL D A (ws0 ++ [(a, e0)]) cells slots pc lv st0 := by
  subst hq
  subst hst
  intro ls hls H locs hP hD hS
  have hF : ∀ q, va_A [(a, e0)] H.size q → A q := va_free hD hS X.2.2.2.2.1 [ws0.length] (by simp)
  refine va_callv (va_runI (As := As) (rest := st) X.1 (hM H.size) cw ⟨sc_blind, fun U hU hW => ⟨rfl, by rw [hU], by rw [hU]; exact last1 hP, va_K.moved hW.alike X.2.1, over_moved hW.alike X.2.2.2.2.2⟩⟩ rfl hn hls.1 rfl (lv_room hW) hdg ⟨hc, hs⟩) hS (fun q _ h9 => hF q h9) hF (fun ad t H1 locs1 ht _ _ hB _ hk1 hS1 => ?_)
  obtain ⟨hP1, hD1⟩ := hB
  rw [ht] at hP1
  obtain ⟨hP2, hD2⟩ := cj_join hP hD hk1 hF hP1 hD1
  exact h ad ls hls H1 locs1 hP2 hD2 hS1
end CJS
