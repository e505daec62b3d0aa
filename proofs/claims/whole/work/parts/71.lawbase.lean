/-! THE CLAIM OUT OF ONE WALK OF THE LAW'S BODY. Your part is whole_start (and what it stands on); all else here is the same for every law, but numbers. -/
def R_law : String := "HalfLaddersLaw"
def lw_P (b : Addr) (xs : List Int32) (args : Array Value) (s : State) : Prop := args = #[.ref b] ∧ s.IntsAt b xs ∧ xs.length ≤ 2048 ∧ (Jvm.Cond.and given_1 narrow_1).before args s = true
def lw_Q (_ : Array Value) (s : State) (o : Outcome) (t : State) : Prop := o = .returned (some (.int 1)) ∧ Framed s o t [] 600000 7302250
def lw_Z (below : List Frame) (a : Array Value) (s : State) : State → Prop := fun t => ∃ o, t.status = .running ∧ Ended t below o ∧ lw_Q a s o t
/-- the law's own end, with 1 on the stack, nothing written that was there before, its room as the claim has it -/
theorem lw_ret {p : Program} {l : Launch} {e : Env} {s : State} {m : MethodId} {below : List Frame} {meth : Method} {c : Code} {b : Nat} (hx : p.tables.exec = Jvm.exec) (hb : c.code = code) (hr : meth.sig.returnType = ret) (hlocks : meth.locks = false) {pc : Nat} {H : Heap} {ls : Array Slot} (hdg : decode code pc = .ok (.ireturn, 1)) : W p l e room_1 s m #[Value.ref b] below meth c H [] 600000 7302250 (lw_Z below #[Value.ref b] s) (F0 m pc ls [.int 1]) := by
  intro T hT X
  obtain ⟨fs, hret, hrun, hended, hW, hframe⟩ := X.leave (v := some (.int 1)) (hlocks := hlocks) (fun h => by rw [hr] at h; cases h)
  have hmeth' : T.vm.method? m = some meth := X.method'
  refine ⟨T.setFrames fs, ?_, .returned (some (.int 1)), hrun, hended, rfl, ⟨_, rfl⟩, hW, hframe⟩
  jvm_step X.here [X.here.top, hx, hb, hdg, hmeth', hr, ret, narrow_b1]
  (try refine ⟨rfl, ?_⟩); (try refine ⟨rfl, ?_⟩)
  first | (intro acts; rw [hret _ acts rfl rfl rfl]) | rw [hret _ _ rfl rfl rfl]
  exact Steps.refl _
/-- what holds at the law's entry: the machine, the code, the tables' words (any of lw_tbl by 'hts w (by decide +kernel)'), the script of L ints xs at the cell b, what the Statement gives of the start (any of its parts by flat_of_before) -/
def lw_At (p : Program) (s : State) (m : MethodId) (meth : Method) (c : Code) (b L : Nat) (xs : Nat → Int32) : Prop :=
  p.tables.exec = Jvm.exec ∧ c.code = code ∧ meth.sig.returnType = ret ∧ c.maxLocals = 4 ∧ s.vm.findClass R_law = some m.cls ∧ (∀ w ∈ lw_tbl, w.before #[Value.ref b] s = true) ∧ va_X b L xs s s.heap ∧ b < s.heap.size ∧ meth.locks = false ∧ (Jvm.Cond.and given_1 narrow_1).before #[Value.ref b] s = true
section LLS
def ZZ (p : Program) (s : State) (m : MethodId) (args : Array Value) (meth : Method) (c : Code) (D : va_G) (cy : Nat → ClassId) (aC aM : Nat → Nat) (b L : Nat) (xs : Nat → Int32) (zb : Nat → Nat) : Prop :=
  CallFix p m c code 4 s args wsL_law RL ∧ va_K D vwCl (xTy cy) s ∧ va_X b L xs s s.heap ∧ b < s.heap.size ∧ zG (fun q => s.heap.size ≤ q) zb s s.heap ∧ (∀ i, i < 75 → s.heap.size ≤ aC i) ∧ (∀ j, j < 21 → s.heap.size ≤ aM j) ∧ xOk (wC aC cy zb) ∧ xOk (wM aM cy) ∧ (∀ i j, i < 75 → j < 21 → aC i ≠ aM j) ∧ L ≤ 2048
def LL (p : Program) (l : Launch) (e : Env) (s : State) (m : MethodId) (args : Array Value) (below : List Frame) (meth : Method) (c : Code) (Q : State → Prop) (D : va_G) (cy : Nat → ClassId) (aC aM : Nat → Nat) (zb : Nat → Nat) (σ μ : St) (pc : Nat) (lv : List (Nat × Value)) (st : List Value) : Prop :=
  ∀ (ls : Array Slot), lv_has ls 4 lv → ∀ (H : Heap) (locs : List Loc), va_P D vwCl (xW (wC aC cy zb) σ) H → va_P D vwCl (xW (wM aM cy) μ) H → va_S (fun q => s.heap.size ≤ q) s.heap H locs → W p l e room_1 s m args below meth c H locs 96 8744 Q (F0 m pc ls st)
variable {p : Program} {l : Launch} {e : Env} {s : State} {m : MethodId} {args : Array Value} {below : List Frame} {meth : Method} {c : Code} {Q : State → Prop} {D : va_G} {cy : Nat → ClassId} {aC aM : Nat → Nat} {b L : Nat} {xs : Nat → Int32} {zb : Nat → Nat} {σ μ : St} {lv : List (Nat × Value)} {st : List Value} {pc q : Nat}
theorem ll_sub {lv' : List (Nat × Value)} (ks : List Nat) (hk : lv_pick lv ks = lv') (h : LL p l e s m args below meth c Q D cy aC aM zb σ μ pc lv' st) : LL p l e s m args below meth c Q D cy aC aM zb σ μ pc lv st := fun ls hls => h ls (lv_sub hls ks hk)
theorem ll_len (X : ZZ p s m args meth c D cy aC aM b L xs zb) (hdg : decode code pc = .ok (.arraylength, 1)) (hq : pc + 1 = q) (h : LL p l e s m args below meth c Q D cy aC aM zb σ μ q lv (.int (nI L) :: st)) : LL p l e s m args below meth c Q D cy aC aM zb σ μ pc lv (.ref b :: st) := by
  subst hq
  exact fun ls hls H locs hP hM hS => va_slen X.1.1 X.1.2.1 X.2.2.1 X.2.2.2.1 (Nat.not_le.mpr X.2.2.2.1) hS hdg (h ls hls H locs hP hM hS)
theorem ll_iald (X : ZZ p s m args meth c D cy aC aM b L xs zb) {i : Int32} (hin : vp_in i L) (hdg : decode code pc = .ok (.iaload, 1)) (hq : pc + 1 = q) (h : LL p l e s m args below meth c Q D cy aC aM zb σ μ q lv (.int (xs i.toNatClampNeg) :: st)) : LL p l e s m args below meth c Q D cy aC aM zb σ μ pc lv (.int i :: .ref b :: st) := by
  subst hq
  exact fun ls hls H locs hP hM hS => va_sld X.1.1 X.1.2.1 X.2.2.1 X.2.2.2.1 (Nat.not_le.mpr X.2.2.2.1) hS hin hdg (h ls hls H locs hP hM hS)
theorem ll_lcmp (X : ZZ p s m args meth c D cy aC aM b L xs zb) {x y : Int64} (hdg : decode code pc = .ok (.lcmp, 1)) (hq : pc + 1 = q) (h : LL p l e s m args below meth c Q D cy aC aM zb σ μ q lv (.int (lg_cmp x y) :: st)) : LL p l e s m args below meth c Q D cy aC aM zb σ μ pc lv (.long y :: .long x :: st) := by
  subst hq
  exact fun ls hls H locs hP hM hS => W.lcmp X.1.1 X.1.2.1 hdg (h ls hls H locs hP hM hS)
theorem zz_C (X : ZZ p s m args meth c D cy aC aM b L xs zb) {H : Heap} {locs : List Loc} (hS : va_S (fun q => s.heap.size ≤ q) s.heap H locs) (hP : va_P D vwCl (xW (wC aC cy zb) σ) H) {av : List Value} (U : State) (hU : U.heap = H) (hW : s.WarmedH U.vm) : va_Pc av (xPre D cy (wC aC cy zb) σ) av.toArray U := by
  refine ⟨rfl, by rw [hU]; exact hP, va_K.moved hW.alike X.2.1, ?_⟩
  have z := zG_warm (H := H) hW hS.2.1 X.2.2.2.2.1
  rw [hU]
  exact zG_narrow z (fun q h => by
    obtain ⟨i, hi, e⟩ := h
    rw [← e]; exact X.2.2.2.2.2.1 i hi)
theorem zz_M (X : ZZ p s m args meth c D cy aC aM b L xs zb) {H : Heap} (hM : va_P D vwCl (xW (wM aM cy) μ) H) {av : List Value} (U : State) (hU : U.heap = H) (hW : s.WarmedH U.vm) : va_Pc av (xPre D cy (wM aM cy) μ) av.toArray U :=
  ⟨rfl, by rw [hU]; exact hM, va_K.moved hW.alike X.2.1, trivial⟩
theorem zz_cM (X : ZZ p s m args meth c D cy aC aM b L xs zb) {H H1 : Heap} (hM : va_P D vwCl (xW (wM aM cy) μ) H) (hk : ∀ q : Nat, q < H.size → ¬ xA (wC aC cy zb) q → H1[q]? = H[q]?) : va_P D vwCl (xW (wM aM cy) μ) H1 :=
  hM.kept (fun k x hx => hk x.1 (hM k x hx).lt (fun h => by
    obtain ⟨i, hi, e⟩ := h
    obtain ⟨hj, rfl⟩ := xW_of hx
    exact X.2.2.2.2.2.2.2.2.2.1 i k hi hj e))
theorem zz_cC (X : ZZ p s m args meth c D cy aC aM b L xs zb) {H H1 : Heap} (hP : va_P D vwCl (xW (wC aC cy zb) σ) H) (hk : ∀ q : Nat, q < H.size → ¬ xA (wM aM cy) q → H1[q]? = H[q]?) : va_P D vwCl (xW (wC aC cy zb) σ) H1 :=
  hP.kept (fun k x hx => hk x.1 (hP k x hx).lt (fun h => by
    obtain ⟨i, hi, e⟩ := h
    obtain ⟨hj, rfl⟩ := xW_of hx
    exact X.2.2.2.2.2.2.2.2.2.1 k i hj hi e.symm))
theorem zz_aC (X : ZZ p s m args meth c D cy aC aM b L xs zb) : ∀ q, xA (wC aC cy zb) q → s.heap.size ≤ q := fun q h => by
  obtain ⟨i, hi, e⟩ := h
  rw [← e]; exact X.2.2.2.2.2.1 i hi
theorem zz_aM (X : ZZ p s m args meth c D cy aC aM b L xs zb) : ∀ q, xA (wM aM cy) q → s.heap.size ≤ q := fun q h => by
  obtain ⟨i, hi, e⟩ := h
  rw [← e]; exact X.2.2.2.2.2.2.1 i hi
theorem ll_cC (X : ZZ p s m args meth c D cy aC aM b L xs zb) {y : MethodName} {bytes : ByteArray} {maxL n index : Nat} {wsy : List Cond} {rm : Room} {P : Int32 → St → Prop} {st0 : List Value} (As : List Value) (hc : MI l y wsy rm D cy (wC aC cy zb) (.ref (aC 0) :: As) σ P) (cw : CallW room_1 s args RL RX9 index y bytes maxL (some .int) wsy rm 0 0 n) (hn : As.length = n) (hst : st0 = As.reverse ++ .ref (aC 0) :: st) (hW : (st.map fun v => v.category).sum ≤ 8) (hdg : decode code pc = .ok (.invokevirtual index, 3)) (hq : pc + 3 = q) (h : ∀ (r : Int32) (σ' : St), P r σ' → LL p l e s m args below meth c Q D cy aC aM zb σ' μ q lv (.int r :: st)) : LL p l e s m args below meth c Q D cy aC aM zb σ μ pc lv st0 := by
  subst hq
  subst hst
  intro ls hls H locs hP hM hS
  exact va_calli (va_runV (As := As) (rest := st) X.1 hc cw ⟨xPre_blind X.2.2.2.2.2.2.2.1, va_recv (ci := 9) (q0 := 0) X.2.1 hP rfl (xW_at (w := wC aC cy zb) (σ := σ) (by show (0 : Nat) < 75; omega)), fun U hU hW9 => zz_C X hS hP U hU hW9⟩ rfl hn hls.1 rfl (lv_room hW) hdg ⟨Nat.le_of_ble_eq_true rfl, Nat.le_of_ble_eq_true rfl⟩) hS (fun q _ h9 => zz_aC X q h9) (zz_aC X) (fun r u t H1 locs1 ht _ hp hB _ hk1 hS1 => h r u hp ls hls H1 locs1 (by unfold xPost at hB; rw [ht] at hB; exact hB) (zz_cM X hM hk1) hS1)
theorem ll_cCl (X : ZZ p s m args meth c D cy aC aM b L xs zb) {y : MethodName} {bytes : ByteArray} {maxL n index : Nat} {wsy : List Cond} {rm : Room} {P : Int64 → St → Prop} {st0 : List Value} (As : List Value) (hc : ML l y wsy rm D cy (wC aC cy zb) (.ref (aC 0) :: As) σ P) (cw : CallW room_1 s args RL RX9 index y bytes maxL (some .long) wsy rm 0 0 n) (hn : As.length = n) (hst : st0 = As.reverse ++ .ref (aC 0) :: st) (hW : (st.map fun v => v.category).sum ≤ 8) (hdg : decode code pc = .ok (.invokevirtual index, 3)) (hq : pc + 3 = q) (h : ∀ (r : Int64) (σ' : St), P r σ' → LL p l e s m args below meth c Q D cy aC aM zb σ' μ q lv (.long r :: st)) : LL p l e s m args below meth c Q D cy aC aM zb σ μ pc lv st0 := by
  subst hq
  subst hst
  intro ls hls H locs hP hM hS
  exact va_calll (va_runV (As := As) (rest := st) X.1 hc cw ⟨xPre_blind X.2.2.2.2.2.2.2.1, va_recv (ci := 9) (q0 := 0) X.2.1 hP rfl (xW_at (w := wC aC cy zb) (σ := σ) (by show (0 : Nat) < 75; omega)), fun U hU hW9 => zz_C X hS hP U hU hW9⟩ rfl hn hls.1 rfl (lv_room hW) hdg ⟨Nat.le_of_ble_eq_true rfl, Nat.le_of_ble_eq_true rfl⟩) hS (fun q _ h9 => zz_aC X q h9) (zz_aC X) (fun r u t H1 locs1 ht _ hp hB _ hk1 hS1 => h r u hp ls hls H1 locs1 (by unfold xPost at hB; rw [ht] at hB; exact hB) (zz_cM X hM hk1) hS1)
theorem ll_cM (X : ZZ p s m args meth c D cy aC aM b L xs zb) {y : MethodName} {bytes : ByteArray} {maxL n index : Nat} {wsy : List Cond} {rm : Room} {P : Int32 → St → Prop} {st0 : List Value} (As : List Value) (hc : MI l y wsy rm D cy (wM aM cy) (.ref (aM 0) :: As) μ P) (cw : CallW room_1 s args RL RX10 index y bytes maxL (some .int) wsy rm 0 0 n) (hn : As.length = n) (hst : st0 = As.reverse ++ .ref (aM 0) :: st) (hW : (st.map fun v => v.category).sum ≤ 8) (hdg : decode code pc = .ok (.invokevirtual index, 3)) (hq : pc + 3 = q) (h : ∀ (r : Int32) (μ' : St), P r μ' → LL p l e s m args below meth c Q D cy aC aM zb σ μ' q lv (.int r :: st)) : LL p l e s m args below meth c Q D cy aC aM zb σ μ pc lv st0 := by
  subst hq
  subst hst
  intro ls hls H locs hP hM hS
  exact va_calli (va_runV (As := As) (rest := st) X.1 hc cw ⟨xPre_blind X.2.2.2.2.2.2.2.2.1, va_recv (ci := 10) (q0 := 0) X.2.1 hM rfl (xW_at (w := wM aM cy) (σ := μ) (by show (0 : Nat) < 21; omega)), fun U hU hW9 => zz_M X hM U hU hW9⟩ rfl hn hls.1 rfl (lv_room hW) hdg ⟨Nat.le_of_ble_eq_true rfl, Nat.le_of_ble_eq_true rfl⟩) hS (fun q _ h9 => zz_aM X q h9) (zz_aM X) (fun r u t H1 locs1 ht _ hp hB _ hk1 hS1 => h r u hp ls hls H1 locs1 (zz_cC X hP hk1) (by unfold xPost at hB; rw [ht] at hB; exact hB) hS1)
theorem ll_cMl (X : ZZ p s m args meth c D cy aC aM b L xs zb) {y : MethodName} {bytes : ByteArray} {maxL n index : Nat} {wsy : List Cond} {rm : Room} {P : Int64 → St → Prop} {st0 : List Value} (As : List Value) (hc : ML l y wsy rm D cy (wM aM cy) (.ref (aM 0) :: As) μ P) (cw : CallW room_1 s args RL RX10 index y bytes maxL (some .long) wsy rm 0 0 n) (hn : As.length = n) (hst : st0 = As.reverse ++ .ref (aM 0) :: st) (hW : (st.map fun v => v.category).sum ≤ 8) (hdg : decode code pc = .ok (.invokevirtual index, 3)) (hq : pc + 3 = q) (h : ∀ (r : Int64) (μ' : St), P r μ' → LL p l e s m args below meth c Q D cy aC aM zb σ μ' q lv (.long r :: st)) : LL p l e s m args below meth c Q D cy aC aM zb σ μ pc lv st0 := by
  subst hq
  subst hst
  intro ls hls H locs hP hM hS
  exact va_calll (va_runV (As := As) (rest := st) X.1 hc cw ⟨xPre_blind X.2.2.2.2.2.2.2.2.1, va_recv (ci := 10) (q0 := 0) X.2.1 hM rfl (xW_at (w := wM aM cy) (σ := μ) (by show (0 : Nat) < 21; omega)), fun U hU hW9 => zz_M X hM U hU hW9⟩ rfl hn hls.1 rfl (lv_room hW) hdg ⟨Nat.le_of_ble_eq_true rfl, Nat.le_of_ble_eq_true rfl⟩) hS (fun q _ h9 => zz_aM X q h9) (zz_aM X) (fun r u t H1 locs1 ht _ hp hB _ hk1 hS1 => h r u hp ls hls H1 locs1 (zz_cC X hP hk1) (by unfold xPost at hB; rw [ht] at hB; exact hB) hS1)
theorem ll_iconst (X : ZZ p s m args meth c D cy aC aM b L xs zb) {n : Int} (v : Int32) (hdg : decode code pc = .ok (.iconst n, 1)) (hv : Int32.ofInt n = v) (hq : pc + 1 = q) (h : LL p l e s m args below meth c Q D cy aC aM zb σ μ q lv (.int v :: st)) : LL p l e s m args below meth c Q D cy aC aM zb σ μ pc lv (st) := by
  subst hq
  exact fun ls hls H locs hP hM hS => lv_iconst X.1.1 X.1.2.1 hdg hv (h ls hls H locs hP hM hS)
theorem ll_bipush (X : ZZ p s m args meth c D cy aC aM b L xs zb) {n : Int} (v : Int32) (hdg : decode code pc = .ok (.bipush n, 2)) (hv : (Int8.ofInt n).toInt32 = v) (hq : pc + 2 = q) (h : LL p l e s m args below meth c Q D cy aC aM zb σ μ q lv (.int v :: st)) : LL p l e s m args below meth c Q D cy aC aM zb σ μ pc lv (st) := by
  subst hq
  exact fun ls hls H locs hP hM hS => lv_bipush X.1.1 X.1.2.1 hdg hv (h ls hls H locs hP hM hS)
theorem ll_isub (X : ZZ p s m args meth c D cy aC aM b L xs zb) {x y : Int32} (hdg : decode code pc = .ok (.isub, 1))  (hq : pc + 1 = q) (h : LL p l e s m args below meth c Q D cy aC aM zb σ μ q lv (.int (x - y) :: st)) : LL p l e s m args below meth c Q D cy aC aM zb σ μ pc lv (.int y :: .int x :: st) := by
  subst hq
  exact fun ls hls H locs hP hM hS => lv_isub X.1.1 X.1.2.1 hdg (h ls hls H locs hP hM hS)
theorem ll_iadd (X : ZZ p s m args meth c D cy aC aM b L xs zb) {x y : Int32} (hdg : decode code pc = .ok (.iadd, 1))  (hq : pc + 1 = q) (h : LL p l e s m args below meth c Q D cy aC aM zb σ μ q lv (.int (x + y) :: st)) : LL p l e s m args below meth c Q D cy aC aM zb σ μ pc lv (.int y :: .int x :: st) := by
  subst hq
  exact fun ls hls H locs hP hM hS => lv_iadd X.1.1 X.1.2.1 hdg (h ls hls H locs hP hM hS)
theorem ll_iand (X : ZZ p s m args meth c D cy aC aM b L xs zb) {x y : Int32} (hdg : decode code pc = .ok (.iand, 1))  (hq : pc + 1 = q) (h : LL p l e s m args below meth c Q D cy aC aM zb σ μ q lv (.int (x &&& y) :: st)) : LL p l e s m args below meth c Q D cy aC aM zb σ μ pc lv (.int y :: .int x :: st) := by
  subst hq
  exact fun ls hls H locs hP hM hS => lv_iand X.1.1 X.1.2.1 hdg (h ls hls H locs hP hM hS)
theorem ll_i2l (X : ZZ p s m args meth c D cy aC aM b L xs zb) {x : Int32} (hdg : decode code pc = .ok (.i2l, 1))  (hq : pc + 1 = q) (h : LL p l e s m args below meth c Q D cy aC aM zb σ μ q lv (.long (x.toInt64) :: st)) : LL p l e s m args below meth c Q D cy aC aM zb σ μ pc lv (.int x :: st) := by
  subst hq
  exact fun ls hls H locs hP hM hS => lv_i2l X.1.1 X.1.2.1 hdg rfl (h ls hls H locs hP hM hS)
theorem ll_lshl (X : ZZ p s m args meth c D cy aC aM b L xs zb) {x : Int64} {y : Int32} (hdg : decode code pc = .ok (.lshl, 1))  (hq : pc + 1 = q) (h : LL p l e s m args below meth c Q D cy aC aM zb σ μ q lv (.long (x <<< (y.toInt64 &&& 63)) :: st)) : LL p l e s m args below meth c Q D cy aC aM zb σ μ pc lv (.int y :: .long x :: st) := by
  subst hq
  exact fun ls hls H locs hP hM hS => lv_lshl X.1.1 X.1.2.1 hdg rfl (h ls hls H locs hP hM hS)
theorem ll_land (X : ZZ p s m args meth c D cy aC aM b L xs zb) {x y : Int64} (hdg : decode code pc = .ok (.land, 1))  (hq : pc + 1 = q) (h : LL p l e s m args below meth c Q D cy aC aM zb σ μ q lv (.long (x &&& y) :: st)) : LL p l e s m args below meth c Q D cy aC aM zb σ μ pc lv (.long y :: .long x :: st) := by
  subst hq
  exact fun ls hls H locs hP hM hS => lv_land X.1.1 X.1.2.1 hdg (h ls hls H locs hP hM hS)
theorem ll_lor (X : ZZ p s m args meth c D cy aC aM b L xs zb) {x y : Int64} (hdg : decode code pc = .ok (.lor, 1))  (hq : pc + 1 = q) (h : LL p l e s m args below meth c Q D cy aC aM zb σ μ q lv (.long (x ||| y) :: st)) : LL p l e s m args below meth c Q D cy aC aM zb σ μ pc lv (.long y :: .long x :: st) := by
  subst hq
  exact fun ls hls H locs hP hM hS => lv_lor X.1.1 X.1.2.1 hdg (h ls hls H locs hP hM hS)
theorem ll_ldc2 (X : ZZ p s m args meth c D cy aC aM b L xs zb) {index : Nat} (v : Int64) (hdg : decode code pc = .ok (.ldc2_w index, 3)) (hc : Cond.constantLong RL index v ∈ wsL_law) (hq : pc + 3 = q) (h : LL p l e s m args below meth c Q D cy aC aM zb σ μ q lv (.long v :: st)) : LL p l e s m args below meth c Q D cy aC aM zb σ μ pc lv (st) := by
  subst hq
  exact fun ls hls H locs hP hM hS => lv_ldc2 X.1.1 X.1.2.1 X.1.2.2.2.1 (X.1.2.2.2.2 _ hc) hdg (h ls hls H locs hP hM hS)
theorem ll_iload_n (X : ZZ p s m args meth c D cy aC aM b L xs zb) {k : Fin 4} {i : Nat} {x : Int32} (kk : Nat) (hdg : decode code pc = .ok (.iload_n k, 1)) (hi : (k : Nat) = i) (hl : lv[kk]? = some (i, .int x)) (hq : pc + 1 = q) (h : LL p l e s m args below meth c Q D cy aC aM zb σ μ q lv (.int x :: st)) : LL p l e s m args below meth c Q D cy aC aM zb σ μ pc lv st := by
  subst hq
  exact fun ls hls H locs hP hM hS => lv_iload_n X.1.1 X.1.2.1 hdg hi (lv_at hls kk hl) (h ls hls H locs hP hM hS)
theorem ll_aload_n (X : ZZ p s m args meth c D cy aC aM b L xs zb) {k : Fin 4} {i : Nat} {x : Nat} (kk : Nat) (hdg : decode code pc = .ok (.aload_n k, 1)) (hi : (k : Nat) = i) (hl : lv[kk]? = some (i, .ref x)) (hq : pc + 1 = q) (h : LL p l e s m args below meth c Q D cy aC aM zb σ μ q lv (.ref x :: st)) : LL p l e s m args below meth c Q D cy aC aM zb σ μ pc lv st := by
  subst hq
  exact fun ls hls H locs hP hM hS => lv_aload_n X.1.1 X.1.2.1 hdg hi (lv_at hls kk hl) (h ls hls H locs hP hM hS)
theorem ll_istore_n (X : ZZ p s m args meth c D cy aC aM b L xs zb) {k : Fin 4} {i : Nat} {x : Int32} {lv2 : List (Nat × Value)} (hdg : decode code pc = .ok (.istore_n k, 1)) (hi : (k : Nat) = i) (hn : i < 4) (hl : (i, Value.int x) :: lv.filter (fun q => !(q.1 == i) && !(q.1 + 1 == i && q.2.category == 2)) = lv2) (hq : pc + 1 = q) (h : LL p l e s m args below meth c Q D cy aC aM zb σ μ q lv2 st) : LL p l e s m args below meth c Q D cy aC aM zb σ μ pc lv (.int x :: st) := by
  subst hq
  exact fun ls hls H locs hP hM hS => lv_istore_n X.1.1 X.1.2.1 hdg hi hls hn hl (fun ls1 h1 => h ls1 h1 H locs hP hM hS)
theorem ll_iinc (X : ZZ p s m args meth c D cy aC aM b L xs zb) {i : Nat} {n : Int} {x v : Int32} {lv2 : List (Nat × Value)} (kk : Nat) (hdg : decode code pc = .ok (.iinc i n, 3)) (hk : lv[kk]? = some (i, .int x)) (hv : x + Int32.ofInt n = v) (hn : i < 4) (hl : (i, Value.int v) :: lv.filter (fun q => !(q.1 == i) && !(q.1 + 1 == i && q.2.category == 2)) = lv2) (hq : pc + 3 = q) (h : LL p l e s m args below meth c Q D cy aC aM zb σ μ q lv2 st) : LL p l e s m args below meth c Q D cy aC aM zb σ μ pc lv st := by
  subst hq
  exact fun ls hls H locs hP hM hS => lv_iinc (k := kk) X.1.1 X.1.2.1 hdg hls hk hv hn hl (fun ls1 h1 => h ls1 h1 H locs hP hM hS)
theorem ll_icmp_gt (X : ZZ p s m args meth c D cy aC aM b L xs zb) {x y : Int32} {off : Int} (tgt : Nat) (hdg : decode code pc = .ok (.if_icmp .gt off, 3)) (ht : (pc : Int) + off = (tgt : Int)) (hq : pc + 3 = q) (kt : y < x → LL p l e s m args below meth c Q D cy aC aM zb σ μ tgt lv st) (kf : ¬ y < x → LL p l e s m args below meth c Q D cy aC aM zb σ μ q lv st) : LL p l e s m args below meth c Q D cy aC aM zb σ μ pc lv (.int y :: .int x :: st) := by
  subst hq
  exact fun ls hls H locs hP hM hS => lv_icmp_gt X.1.1 X.1.2.1 hdg ht (fun c1 => kt c1 ls hls H locs hP hM hS) (fun c1 => kf c1 ls hls H locs hP hM hS)
theorem ll_icmp_eq (X : ZZ p s m args meth c D cy aC aM b L xs zb) {x y : Int32} {off : Int} (tgt : Nat) (hdg : decode code pc = .ok (.if_icmp .eq off, 3)) (ht : (pc : Int) + off = (tgt : Int)) (hq : pc + 3 = q) (kt : x = y → LL p l e s m args below meth c Q D cy aC aM zb σ μ tgt lv st) (kf : ¬ x = y → LL p l e s m args below meth c Q D cy aC aM zb σ μ q lv st) : LL p l e s m args below meth c Q D cy aC aM zb σ μ pc lv (.int y :: .int x :: st) := by
  subst hq
  exact fun ls hls H locs hP hM hS => lv_icmp_eq X.1.1 X.1.2.1 hdg ht (fun c1 => kt c1 ls hls H locs hP hM hS) (fun c1 => kf c1 ls hls H locs hP hM hS)
theorem ll_if_eq (X : ZZ p s m args meth c D cy aC aM b L xs zb) {x : Int32} {off : Int} (tgt : Nat) (hdg : decode code pc = .ok (.ifCond .eq off, 3)) (ht : (pc : Int) + off = (tgt : Int)) (hq : pc + 3 = q) (kt : x = 0 → LL p l e s m args below meth c Q D cy aC aM zb σ μ tgt lv st) (kf : ¬ x = 0 → LL p l e s m args below meth c Q D cy aC aM zb σ μ q lv st) : LL p l e s m args below meth c Q D cy aC aM zb σ μ pc lv (.int x :: st) := by
  subst hq
  exact fun ls hls H locs hP hM hS => lv_if_eq X.1.1 X.1.2.1 hdg ht (fun c1 => kt c1 ls hls H locs hP hM hS) (fun c1 => kf c1 ls hls H locs hP hM hS)
theorem ll_goto (X : ZZ p s m args meth c D cy aC aM b L xs zb) {off : Int} (tgt : Nat) (hdg : decode code pc = .ok (.goto off, 3)) (ht : (pc : Int) + off = (tgt : Int)) (h : LL p l e s m args below meth c Q D cy aC aM zb σ μ tgt lv st) : LL p l e s m args below meth c Q D cy aC aM zb σ μ pc lv st := fun ls hls H locs hP hM hS => lv_goto X.1.1 X.1.2.1 hdg ht (h ls hls H locs hP hM hS)
theorem ll_tabIn (X : ZZ p s m args meth c D cy aC aM b L xs zb) {dflt lo hi : Int} {offs : Array Int} {len : Nat} {x : Int32} {off : Int} (tgt : Nat) (hdg : decode code pc = .ok (.tableswitch dflt lo hi offs, len)) (h1 : ¬ x.toInt < lo) (h2 : ¬ hi < x.toInt) (ho : offs[(x.toInt - lo).toNat]? = some off) (ht : (pc : Int) + off = (tgt : Int)) (h : LL p l e s m args below meth c Q D cy aC aM zb σ μ tgt lv st) : LL p l e s m args below meth c Q D cy aC aM zb σ μ pc lv (.int x :: st) := fun ls hls H locs hP hM hS => lv_tableIn X.1.1 X.1.2.1 hdg h1 h2 ho ht (h ls hls H locs hP hM hS)
theorem ll_tabOut (X : ZZ p s m args meth c D cy aC aM b L xs zb) {dflt lo hi : Int} {offs : Array Int} {len : Nat} {x : Int32} (tgt : Nat) (hdg : decode code pc = .ok (.tableswitch dflt lo hi offs, len)) (h1 : x.toInt < lo ∨ hi < x.toInt) (ht : (pc : Int) + dflt = (tgt : Int)) (h : LL p l e s m args below meth c Q D cy aC aM zb σ μ tgt lv st) : LL p l e s m args below meth c Q D cy aC aM zb σ μ pc lv (.int x :: st) := fun ls hls H locs hP hM hS => lv_tableOut X.1.1 X.1.2.1 hdg h1 ht (h ls hls H locs hP hM hS)

end LLS
