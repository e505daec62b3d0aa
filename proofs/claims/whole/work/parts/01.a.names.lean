/-! ===== BEGIN words of one list among another's, by their places ===== -/
theorem goodIn_r {big : List Cond} (ws : List Cond) (ps : List Nat) (hp : ws = ps.filterMap (fun i => big[i]?)) (h : ws.all goodWord = true) : GoodIn big ws := by
  intro w hw
  have h1 := List.all_eq_true.mp h w hw
  rw [hp] at hw
  obtain ⟨i, -, hi⟩ := List.mem_filterMap.mp hw
  have hm : w ∈ big := by first | exact List.mem_of_getElem? hi | exact List.getElem?_mem hi
  exact ⟨hm, good_of_word h1⟩
theorem goodIn_app {big a b : List Cond} (ha : GoodIn big a) (hb : GoodIn big b) : GoodIn big (a ++ b) := fun w h => (List.mem_append.mp h).elim (ha w) (hb w)
theorem goodIn_ca {big a b : List Cond} {c : Cond} (ha : GoodIn big (c :: a)) (hb : GoodIn big b) : GoodIn big (c :: (a ++ b)) := fun w h => (List.mem_cons.mp h).elim (fun e => ha w (List.mem_cons.mpr (Or.inl e))) (fun h => (List.mem_append.mp h).elim (fun h => ha w (List.mem_cons.mpr (Or.inr h))) (hb w))
theorem goodIn_sub {big ws : List Cond} (hm : ∀ w ∈ ws, w ∈ big) (h : ws.all goodWord = true) : GoodIn big ws := fun w hw => ⟨hm w hw, good_of_word (List.all_eq_true.mp h w hw)⟩
/-! ===== END ===== -/

/-! ===== BEGIN new T[n][m]: the outer array a place, the inner ones among the pooled ===== -/
/-- f, but v at every address of l -/
def vr_up {α : Type} (f : Nat → α) (l : List Nat) (v : α) : Nat → α := fun a => if a ∈ l then v else f a
theorem vr_up_in {α : Type} {f : Nat → α} {l : List Nat} {v : α} {a : Nat} (h : a ∈ l) : vr_up f l v a = v := if_pos h
theorem vr_up_ne {α : Type} {f : Nat → α} {l : List Nat} {v : α} {a : Nat} (h : a ∉ l) : vr_up f l v a = f a := if_neg h
theorem vr_rows {L l : List Nat} {f : Nat → va_E} {e : va_E} (h : ∀ a, a ∈ l → a ∉ L) : va_pl L f ++ l.map (fun a => (a, e)) = va_pl (L ++ l) (vr_up f l e) := by
  unfold va_pl
  rw [List.map_append]
  congr 1
  · apply List.map_congr_left
    intro a ha
    rw [vr_up_ne (fun q => h a q ha)]
  · apply List.map_congr_left
    intro a ha
    rw [vr_up_in ha]
theorem vr_lay {X rows : va_W} {x : Nat × va_E} {pl : va_W} {D : va_G} {cl : List vw_C} {H : Heap} (hP : va_P D cl (((X ++ pl) ++ [x]) ++ rows) H) : va_P D cl ((X ++ [x]) ++ (pl ++ rows)) H := by
  rw [List.append_assoc (X ++ pl)] at hP
  have h := va_P.swap hP
  rw [← List.append_assoc X] at h
  have h2 := va_P.swap h
  rw [List.append_assoc (X ++ [x])] at h2
  exact h2
theorem vr_layD {X rows : va_W} {x : Nat × va_E} {pl : va_W} {A : Nat → Prop} (hD : va_D A (((X ++ pl) ++ [x]) ++ rows)) : va_D A ((X ++ [x]) ++ (pl ++ rows)) := by
  rw [List.append_assoc (X ++ pl)] at hD
  have h := va_D.swap hD
  rw [← List.append_assoc X] at h
  have h2 := va_D.swap h
  rw [List.append_assoc (X ++ [x])] at h2
  exact h2
theorem vr_outer (c : ClassId) (N h0 : Nat) : ∀ i : Nat, Jvm.Free.Multi.outerC c N h0 i = arrV c N (fun j => va_rf (if j < i then some (h0 + 1 + j) else none))
  | 0 => by
    show ({ cls := c, slots := Array.replicate N .null, vm := .none } : Cell) = _
    rw [arrV_new]
    refine congrArg (arrV c N) (funext fun j => ?_)
    simp [va_rf]
  | i + 1 => by
    show (Jvm.Free.Multi.outerC c N h0 i).setSlot i (.ref (h0 + 1 + i)) = _
    rw [vr_outer c N h0 i, arrV_store]
    refine congrArg (arrV c N) (funext fun j => ?_)
    by_cases e : j = i
    · subst e
      simp [updV, va_rf]
    · by_cases h : j < i
      · simp [updV, e, h, Nat.lt_succ_of_lt h]
      · simp [updV, e, h, show ¬ j < i + 1 by omega]
def va_AOA (ty : FieldType) (U : State) : Prop := (Cond.arrayOver (.array ty)).before #[] U = true
theorem va_AOA.use {ty : FieldType} {A : Array Value} {U : State} (h : va_AOA ty U) : (Cond.arrayOver (.array ty)).before A U = true := h
section VGM
variable {p : Program} {l : Launch} {e : Env} {R : Room} {s : State} {m : MethodId} {args : Array Value} {below : List Frame} {meth : Method} {c : Code} {H : Heap} {locs : List Loc} {cells slots : Nat} {Q : State → Prop}
variable {cc : ByteArray} {pc : Nat} {ls : Array Slot} {rest : List Value} {D : va_G} {cl : List vw_C} {A : Nat → Prop} {a : Nat} {tys : List (ClassId × FieldType)} {ws : va_W} {H0 : Heap}
theorem va_mna {X : va_W} {L : List Nat} {f : Nat → va_E} {cc : ByteArray} (hexec : p.tables.exec = Jvm.exec) (hb : c.code = cc) {own : String} {index : Nat} {ty : FieldType} {cy : ClassId} (hown : s.vm.findClass own = some m.cls) (hclink : (Cond.classLink own index ("[" ++ (FieldType.array ty).toString)).before args s = true) (hover : va_AOA ty s) (harr : (Cond.arrayClass ty).before args s = true) (hcy : s.vm.findClass (FieldType.array ty).toString = some cy)
    (hK : va_K D cl tys s) (hP : va_P D cl (X ++ va_pl L f) H) (hD : va_D A (X ++ va_pl L f)) (hS : va_S A H0 H locs) (hA : ∀ q, H0.size ≤ q → A q) {n k : Int32} {N' K' : Nat} {z : vp_A} (hn : ¬ n < 0) (hk : ¬ k < 0) (hN : n.toNatClampNeg = N') (hM : k.toNatClampNeg = K')
    (hb1 : N' * 4 ≤ 536870912) (hb2 : K' * componentBytes ty ≤ 536870912) (hb3 : K' ≤ 536870912) (hdf : fits ty (defaultValue ty) = true) (hdd : (defaultValue ty).isDefault = true) (hcells : cells + (1 + N') ≤ R.cells) (hslots : slots + (N' + N' * K') ≤ R.slots) (hz : ∀ c : ClassId, Jvm.Free.Multi.innerC c K' (defaultValue ty) = vp_cell c z) (hdg : decode cc pc = .ok (.multianewarray index 2, 4))
    (kk : ∀ (q : Nat) (r : Nat → Nat) (cA : ClassId) (H1 : Heap), (∀ i j : Nat, i < N' → j < N' → r i = r j → i = j) → (∀ i : Nat, i < N' → r i ∉ L) → va_K D cl (tys ++ [(cA, .array ty)]) s →
      va_P D cl ((X ++ [(q, .inl (cA, N', .inr (.inr (.inr (.inr (fun i => if i < N' then some (r i) else none))))))]) ++ va_pl (L ++ (List.range N').map r) (vr_up f ((List.range N').map r) (.inl (cy, z)))) H1 → va_D A ((X ++ [(q, .inl (cA, N', .inr (.inr (.inr (.inr (fun i => if i < N' then some (r i) else none))))))]) ++ va_pl (L ++ (List.range N').map r) (vr_up f ((List.range N').map r) (.inl (cy, z)))) → va_S A H0 H1 locs →
      W p l e R s m args below meth c H1 locs (cells + 1 + N') (slots + N' + N' * K') Q (F0 m (pc + 4) ls (.ref q :: rest))) : W p l e R s m args below meth c H locs cells slots Q (F0 m pc ls (.int k :: .int n :: rest)) := by
  subst hN
  subst hM
  intro T hT Xs
  obtain ⟨vm₁, cA, comp, -, fA, fC, hO, -, X', step⟩ := Xs.multianewarray2F hexec hown hclink (va_AOA.use hover) harr (g := F0 m pc ls (.int k :: .int n :: rest)) rfl (by rw [hb]; exact hdg) rfl hn hk hb1 hb2 hb3 hdf hdd hcells hslots
  have ec : some cy = some comp := hcy.symm.trans fC
  cases ec
  generalize hF : Jvm.Free.Multi.fill (T.setVm vm₁) cA cy n.toNatClampNeg k.toNatClampNeg (defaultValue ty) n.toNatClampNeg = F at X' step
  have hTh : (T.setVm vm₁).heap = H := hT
  obtain ⟨f1, f2, -, -⟩ := Jvm.Free.Multi.fill_facts (T.setVm vm₁) cA cy n.toNatClampNeg k.toNatClampNeg (defaultValue ty) n.toNatClampNeg
  rw [hF, hTh] at f1 f2
  have hold : ∀ x : Nat, x < H.size → F.heap[x]? = H[x]? := fun x hx => by
    have := Jvm.Free.Multi.fill_old (T.setVm vm₁) cA cy n.toNatClampNeg k.toNatClampNeg (defaultValue ty) (a := x) (by rw [hTh]; exact hx) n.toNatClampNeg
    rw [hF, hTh] at this
    exact this
  have hrow : ∀ j : Nat, j < n.toNatClampNeg → F.heap[H.size + 1 + j]? = some (vp_cell cy z) := fun j hj => by
    have := Jvm.Free.Multi.fill_inner (T.setVm vm₁) cA cy n.toNatClampNeg k.toNatClampNeg (defaultValue ty) n.toNatClampNeg j hj
    rw [hF, hTh, hz] at this
    exact this
  have hout : Jvm.Free.Multi.outerC cA n.toNatClampNeg H.size n.toNatClampNeg = vp_cell cA (n.toNatClampNeg, .inr (.inr (.inr (.inr (fun i => if i < n.toNatClampNeg then some (H.size + 1 + i) else none))))) := by
    rw [vp_cell_q]
    exact vr_outer cA n.toNatClampNeg H.size n.toNatClampNeg
  rw [hout] at f2
  have hlt : ∀ a, a ∈ L → a < H.size := fun a ha => by
    obtain ⟨k9, hk9⟩ := va_pl_get (X := X) (f := f) ha
    exact (hP k9 _ hk9).lt
  have hnl : ∀ i : Nat, i < n.toNatClampNeg → H.size + 1 + i ∉ L := fun i _ h => by
    have := hlt _ h
    omega
  have hnm : ∀ a, a ∈ (List.range n.toNatClampNeg).map (fun i => H.size + 1 + i) → a ∉ L := fun a ha h => by
    obtain ⟨i, -, rfl⟩ := List.mem_map.mp ha
    have := hlt _ h
    omega
  have hP0 : va_P D cl (X ++ va_pl L f) F.heap := hP.kept (fun k9 x hx => hold x.1 ((hP k9 x hx).lt))
  have hP1 : va_P D cl ((X ++ va_pl L f) ++ [(H.size, .inl (cA, n.toNatClampNeg, .inr (.inr (.inr (.inr (fun i => if i < n.toNatClampNeg then some (H.size + 1 + i) else none))))))]) F.heap := hP0.app (fun k9 x hx => by
    have h0 : k9 < 1 := (List.getElem?_eq_some_iff.mp hx).1
    rw [show k9 = 0 by omega] at hx
    cases hx
    exact f2)
  have hP2 : va_P D cl (((X ++ va_pl L f) ++ [(H.size, .inl (cA, n.toNatClampNeg, .inr (.inr (.inr (.inr (fun i => if i < n.toNatClampNeg then some (H.size + 1 + i) else none))))))]) ++ ((List.range n.toNatClampNeg).map (fun i => H.size + 1 + i)).map (fun a => (a, .inl (cy, z)))) F.heap := hP1.app (fun k9 x hx => by
    obtain ⟨a, ha, rfl⟩ := List.mem_map.mp (List.mem_of_getElem? hx)
    obtain ⟨i, hi, rfl⟩ := List.mem_map.mp ha
    exact hrow i (List.mem_range.mp hi))
  have hD2 : va_D A (((X ++ va_pl L f) ++ [(H.size, .inl (cA, n.toNatClampNeg, .inr (.inr (.inr (.inr (fun i => if i < n.toNatClampNeg then some (H.size + 1 + i) else none))))))]) ++ ((List.range n.toNatClampNeg).map (fun i => H.size + 1 + i)).map (fun a => (a, .inl (cy, z)))) := by
    have hD1 := hD.push (e := .inl (cA, n.toNatClampNeg, .inr (.inr (.inr (.inr (fun i => if i < n.toNatClampNeg then some (H.size + 1 + i) else none)))))) hP rfl (hA _ hS.1)
    generalize hW1 : (X ++ va_pl L f) ++ [(H.size, .inl (cA, n.toNatClampNeg, .inr (.inr (.inr (.inr (fun i => if i < n.toNatClampNeg then some (H.size + 1 + i) else none))))))] = W1 at hD1 hP1 ⊢
    have hle : ∀ (k9 : Nat) (x : Nat × va_E), W1[k9]? = some x → x.1 ≤ H.size := fun k9 x hx => by
      rw [← hW1] at hx
      by_cases hl : k9 < (X ++ va_pl L f).length
      · rw [List.getElem?_append_left hl] at hx
        exact Nat.le_of_lt ((hP k9 x hx).lt)
      · rw [List.getElem?_append_right (by omega)] at hx
        have h0 : k9 - (X ++ va_pl L f).length < 1 := (List.getElem?_eq_some_iff.mp hx).1
        rw [show k9 - (X ++ va_pl L f).length = 0 by omega] at hx
        cases hx
        exact Nat.le_refl _
    have hr : ∀ (k9 : Nat) (x : Nat × va_E), (((List.range n.toNatClampNeg).map (fun i => H.size + 1 + i)).map (fun a => ((a, .inl (cy, z)) : Nat × va_E)))[k9]? = some x → x.1 = H.size + 1 + k9 := fun k9 x hx => by
      rw [List.getElem?_map, List.getElem?_map] at hx
      by_cases h9 : k9 < n.toNatClampNeg
      · rw [List.getElem?_range h9] at hx
        cases hx
        rfl
      · have hn0 : (List.range n.toNatClampNeg)[k9]? = none := List.getElem?_eq_none (by rw [List.length_range]; omega)
        rw [hn0] at hx
        cases hx
    refine ⟨fun i j x y hi hj hxy => ?_, fun k9 x hx => ?_⟩
    · by_cases h1 : i < W1.length <;> by_cases h2 : j < W1.length
      · rw [List.getElem?_append_left h1] at hi
        rw [List.getElem?_append_left h2] at hj
        exact hD1.1 i j x y hi hj hxy
      · rw [List.getElem?_append_left h1] at hi
        rw [List.getElem?_append_right (by omega)] at hj
        have := hle _ _ hi
        have := hr _ _ hj
        omega
      · rw [List.getElem?_append_right (by omega)] at hi
        rw [List.getElem?_append_left h2] at hj
        have := hle _ _ hj
        have := hr _ _ hi
        omega
      · rw [List.getElem?_append_right (by omega)] at hi hj
        have := hr _ _ hi
        have := hr _ _ hj
        omega
    · by_cases h1 : k9 < W1.length
      · rw [List.getElem?_append_left h1] at hx
        exact hD1.2 k9 x hx
      · rw [List.getElem?_append_right (by omega)] at hx
        have := hr _ _ hx
        exact hA _ (by have := hS.1; omega)
  have hAr : ArrOfT s cA (.array ty) := fun N9 z9 => by
    obtain ⟨-, k9, hk9, cm9, hkk9⟩ := (hO 0 0 0).1
    exact ⟨(fun q hq => by cases hq), k9, hk9, cm9, hkk9⟩
  have hK2 : va_K D cl (tys ++ [(cA, .array ty)]) s := ⟨hK.1, fun k9 x hx => by
    by_cases hl : k9 < tys.length
    · rw [List.getElem?_append_left hl] at hx
      exact hK.2 k9 x hx
    · rw [List.getElem?_append_right (by omega)] at hx
      have h0 : k9 - tys.length < 1 := (List.getElem?_eq_some_iff.mp hx).1
      rw [show k9 - tys.length = 0 by omega] at hx
      cases hx
      exact ⟨hAr, fA⟩⟩
  obtain ⟨t, a1, b1⟩ := kk H.size (fun i => H.size + 1 + i) cA F.heap (fun i j _ _ h => by have h9 : H.size + 1 + i = H.size + 1 + j := h; omega) hnl hK2 (by rw [← vr_rows hnm]; exact vr_lay hP2) (by rw [← vr_rows hnm]; exact vr_layD hD2) ⟨by rw [f1]; have := hS.1; omega, fun x h1 h2 => (hold x (Nat.lt_of_lt_of_le h1 hS.1)).trans (hS.2.1 x h1 h2), hS.2.2⟩ F rfl X'
  refine ⟨t, step t ?_, b1⟩
  have e : T.heap.size = H.size := by rw [hT]
  rw [e]
  exact a1
end VGM
/-! ===== END ===== -/

/-! ===== BEGIN printed: names, fields, word lists, decode rows ===== -/
def RX0 : String := "HalfLadders$Cutting"
def TX0 : u_T := fun k => match k with
  | 0 => ("HalfLadders$Cutting", "fewest", "[I", true)
  | _ => ("HalfLadders$Cutting", "forSet", "[I", true)
def tyX0 : Nat → FieldType := fun k => match k with
  | 0 => .array .int
  | _ => .array .int
abbrev wsX00 : List Cond := u_ws RX0 TX0 2
theorem nmX0 : ∀ a, a < 2 → ∀ b, b < 2 → a ≠ b → (TX0 a).2.1 ≠ (TX0 b).2.1 := by decide +kernel
theorem tyX0_ok : ∀ k, k < 2 → parseFieldDescriptor (TX0 k).2.2.1 = some (tyX0 k) := by decide +kernel
abbrev cX0_init : ByteArray := prog_2_method_1_code
def yX0_init : MethodName := ⟨RX0, "<init>", "()V"⟩
abbrev cX0_reckon : ByteArray := prog_2_method_2_code
def yX0_reckon : MethodName := ⟨RX0, "reckon", "(LHalfLadders$Orchard;)V"⟩
abbrev cX0_fewestOf : ByteArray := prog_2_method_3_code
def yX0_fewestOf : MethodName := ⟨RX0, "fewestOf", "(LHalfLadders$Orchard;I)I"⟩
abbrev cX0_fewer : ByteArray := prog_2_method_4_code
def yX0_fewer : MethodName := ⟨RX0, "fewer", "(II)I"⟩
def RX1 : String := "HalfLadders$Liking"
def TX1 : u_T := fun k => match k with
  | 0 => ("HalfLadders$Liking", "likes", "[[I", true)
  | 1 => ("HalfLadders$Liking", "asked", "[I", true)
  | 2 => ("HalfLadders$Liking", "with", "[I", true)
  | 3 => ("HalfLadders$Liking", "tried", "[I", true)
  | _ => ("HalfLadders$Liking", "restCount", "I", false)
def tyX1 : Nat → FieldType := fun k => match k with
  | 0 => .array (.array .int)
  | 1 => .array .int
  | 2 => .array .int
  | 3 => .array .int
  | _ => .int
abbrev wsX10 : List Cond := u_ws RX1 TX1 5
theorem nmX1 : ∀ a, a < 5 → ∀ b, b < 5 → a ≠ b → (TX1 a).2.1 ≠ (TX1 b).2.1 := by decide +kernel
theorem tyX1_ok : ∀ k, k < 5 → parseFieldDescriptor (TX1 k).2.2.1 = some (tyX1 k) := by decide +kernel
abbrev cX1_init : ByteArray := prog_3_method_1_code
def yX1_init : MethodName := ⟨RX1, "<init>", "()V"⟩
abbrev cX1_reckon : ByteArray := prog_3_method_2_code
def yX1_reckon : MethodName := ⟨RX1, "reckon", "(LHalfLadders$Orchard;LHalfLadders$Pairs;)V"⟩
abbrev cX1_askAll : ByteArray := prog_3_method_3_code
def yX1_askAll : MethodName := ⟨RX1, "askAll", "(LHalfLadders$Pairs;)V"⟩
abbrev cX1_askNext : ByteArray := prog_3_method_4_code
def yX1_askNext : MethodName := ⟨RX1, "askNext", "(I)V"⟩
abbrev cX1_ratherHas : ByteArray := prog_3_method_5_code
def yX1_ratherHas : MethodName := ⟨RX1, "ratherHas", "(II)Z"⟩
abbrev cX1_isRest : ByteArray := prog_3_method_6_code
def yX1_isRest : MethodName := ⟨RX1, "isRest", "(LHalfLadders$Pairs;)Z"⟩
def RX2 : String := "HalfLadders$Now"
def TX2 : u_T := fun k => match k with
  | 0 => ("HalfLadders$Now", "day", "I", false)
  | 1 => ("HalfLadders$Now", "climbers", "I", false)
  | 2 => ("HalfLadders$Now", "climbed", "I", false)
  | 3 => ("HalfLadders$Now", "picked", "I", false)
  | 4 => ("HalfLadders$Now", "fallen", "I", false)
  | 5 => ("HalfLadders$Now", "theLot", "I", false)
  | _ => ("HalfLadders$Now", "left", "[I", true)
def tyX2 : Nat → FieldType := fun k => match k with
  | 0 => .int
  | 1 => .int
  | 2 => .int
  | 3 => .int
  | 4 => .int
  | 5 => .int
  | _ => .array .int
abbrev wsX20 : List Cond := u_ws RX2 TX2 7
theorem nmX2 : ∀ a, a < 7 → ∀ b, b < 7 → a ≠ b → (TX2 a).2.1 ≠ (TX2 b).2.1 := by decide +kernel
theorem tyX2_ok : ∀ k, k < 7 → parseFieldDescriptor (TX2 k).2.2.1 = some (tyX2 k) := by decide +kernel
abbrev cX2_init : ByteArray := prog_4_method_1_code
def yX2_init : MethodName := ⟨RX2, "<init>", "()V"⟩
abbrev cX2_begin : ByteArray := prog_4_method_2_code
def yX2_begin : MethodName := ⟨RX2, "begin", "()V"⟩
abbrev cX2_bearAsTold : ByteArray := prog_4_method_3_code
def yX2_bearAsTold : MethodName := ⟨RX2, "bearAsTold", "(LHalfLadders$Orchard;)V"⟩
abbrev cX2_blossom : ByteArray := prog_4_method_4_code
def yX2_blossom : MethodName := ⟨RX2, "blossom", "(LHalfLadders$Orchard;)V"⟩
abbrev cX2_become : ByteArray := prog_4_method_5_code
def yX2_become : MethodName := ⟨RX2, "become", "(LHalfLadders$Now;)V"⟩
abbrev cX2_leftOnAll : ByteArray := prog_4_method_6_code
def yX2_leftOnAll : MethodName := ⟨RX2, "leftOnAll", "(LHalfLadders$Orchard;)I"⟩
abbrev cX2_pickable : ByteArray := prog_4_method_7_code
def yX2_pickable : MethodName := ⟨RX2, "pickable", "(LHalfLadders$Orchard;LHalfLadders$Pairs;II)I"⟩
abbrev cX2_pick : ByteArray := prog_4_method_8_code
def yX2_pick : MethodName := ⟨RX2, "pick", "(III)V"⟩
abbrev cX2_endDay : ByteArray := prog_4_method_9_code
def yX2_endDay : MethodName := ⟨RX2, "endDay", "(LHalfLadders$Orchard;)I"⟩
def RX3 : String := "HalfLadders$Orchard"
def TX3 : u_T := fun k => match k with
  | 0 => ("HalfLadders$Orchard", "people", "I", false)
  | 1 => ("HalfLadders$Orchard", "trees", "I", false)
  | 2 => ("HalfLadders$Orchard", "sides", "[I", true)
  | 3 => ("HalfLadders$Orchard", "gaps", "[I", true)
  | 4 => ("HalfLadders$Orchard", "lengths", "[I", true)
  | 5 => ("HalfLadders$Orchard", "paces", "[I", true)
  | 6 => ("HalfLadders$Orchard", "quarrels", "[I", true)
  | 7 => ("HalfLadders$Orchard", "highs", "[I", true)
  | 8 => ("HalfLadders$Orchard", "ripes", "[I", true)
  | _ => ("HalfLadders$Orchard", "baskets", "[I", true)
def tyX3 : Nat → FieldType := fun k => match k with
  | 0 => .int
  | 1 => .int
  | 2 => .array .int
  | 3 => .array .int
  | 4 => .array .int
  | 5 => .array .int
  | 6 => .array .int
  | 7 => .array .int
  | 8 => .array .int
  | _ => .array .int
abbrev wsX30 : List Cond := u_ws RX3 TX3 10
theorem nmX3 : ∀ a, a < 10 → ∀ b, b < 10 → a ≠ b → (TX3 a).2.1 ≠ (TX3 b).2.1 := by decide +kernel
theorem tyX3_ok : ∀ k, k < 10 → parseFieldDescriptor (TX3 k).2.2.1 = some (tyX3 k) := by decide +kernel
abbrev cX3_init : ByteArray := prog_5_method_1_code
def yX3_init : MethodName := ⟨RX3, "<init>", "()V"⟩
abbrev cX3_empty : ByteArray := prog_5_method_2_code
def yX3_empty : MethodName := ⟨RX3, "empty", "()V"⟩
abbrev cX3_addHalf : ByteArray := prog_5_method_3_code
def yX3_addHalf : MethodName := ⟨RX3, "addHalf", "(IIII)V"⟩
abbrev cX3_addQuarrel : ByteArray := prog_5_method_4_code
def yX3_addQuarrel : MethodName := ⟨RX3, "addQuarrel", "(II)V"⟩
abbrev cX3_addTree : ByteArray := prog_5_method_5_code
def yX3_addTree : MethodName := ⟨RX3, "addTree", "(III)V"⟩
abbrev cX3_hasHalf : ByteArray := prog_5_method_6_code
def yX3_hasHalf : MethodName := ⟨RX3, "hasHalf", "(I)Z"⟩
abbrev cX3_hasTree : ByteArray := prog_5_method_7_code
def yX3_hasTree : MethodName := ⟨RX3, "hasTree", "(I)Z"⟩
abbrev cX3_everybody : ByteArray := prog_5_method_8_code
def yX3_everybody : MethodName := ⟨RX3, "everybody", "()I"⟩
abbrev cX3_couldFit : ByteArray := prog_5_method_9_code
def yX3_couldFit : MethodName := ⟨RX3, "couldFit", "(II)Z"⟩
abbrev cX3_fits : ByteArray := prog_5_method_10_code
def yX3_fits : MethodName := ⟨RX3, "fits", "(II)Z"⟩
abbrev cX3_quarrelPairs : ByteArray := prog_5_method_11_code
def yX3_quarrelPairs : MethodName := ⟨RX3, "quarrelPairs", "()I"⟩
abbrev cX3_isRipe : ByteArray := prog_5_method_12_code
def yX3_isRipe : MethodName := ⟨RX3, "isRipe", "(II)Z"⟩
def RX4 : String := "HalfLadders$Pairs"
def TX4 : u_T := fun k => match k with
  | 0 => ("HalfLadders$Pairs", "count", "I", false)
  | 1 => ("HalfLadders$Pairs", "allLefts", "I", false)
  | 2 => ("HalfLadders$Pairs", "lefts", "[I", true)
  | 3 => ("HalfLadders$Pairs", "rights", "[I", true)
  | 4 => ("HalfLadders$Pairs", "bits", "[I", true)
  | 5 => ("HalfLadders$Pairs", "gaps", "[I", true)
  | 6 => ("HalfLadders$Pairs", "ladders", "[I", true)
  | _ => ("HalfLadders$Pairs", "picks", "[I", true)
def tyX4 : Nat → FieldType := fun k => match k with
  | 0 => .int
  | 1 => .int
  | 2 => .array .int
  | 3 => .array .int
  | 4 => .array .int
  | 5 => .array .int
  | 6 => .array .int
  | _ => .array .int
abbrev wsX40 : List Cond := u_ws RX4 TX4 8
theorem nmX4 : ∀ a, a < 8 → ∀ b, b < 8 → a ≠ b → (TX4 a).2.1 ≠ (TX4 b).2.1 := by decide +kernel
theorem tyX4_ok : ∀ k, k < 8 → parseFieldDescriptor (TX4 k).2.2.1 = some (tyX4 k) := by decide +kernel
abbrev cX4_init : ByteArray := prog_6_method_1_code
def yX4_init : MethodName := ⟨RX4, "<init>", "()V"⟩
abbrev cX4_list : ByteArray := prog_6_method_2_code
def yX4_list : MethodName := ⟨RX4, "list", "(LHalfLadders$Orchard;)V"⟩
abbrev cX4_listOf : ByteArray := prog_6_method_3_code
def yX4_listOf : MethodName := ⟨RX4, "listOf", "(LHalfLadders$Orchard;I)V"⟩
abbrev cX4_indexOf : ByteArray := prog_6_method_4_code
def yX4_indexOf : MethodName := ⟨RX4, "indexOf", "(I)I"⟩
abbrev cX4_numberOf : ByteArray := prog_6_method_5_code
def yX4_numberOf : MethodName := ⟨RX4, "numberOf", "(I)I"⟩
abbrev cX4_howManyWith : ByteArray := prog_6_method_6_code
def yX4_howManyWith : MethodName := ⟨RX4, "howManyWith", "(I)I"⟩
abbrev cX4_leavesMarks : ByteArray := prog_6_method_7_code
def yX4_leavesMarks : MethodName := ⟨RX4, "leavesMarks", "(III)Z"⟩
abbrev cX4_howMany : ByteArray := prog_6_method_8_code
def yX4_howMany : MethodName := ⟨RX4, "howMany", "(II)I"⟩
abbrev cX4_firstOf : ByteArray := prog_6_method_9_code
def yX4_firstOf : MethodName := ⟨RX4, "firstOf", "(II)I"⟩
def RX5 : String := "HalfLadders$Plan"
def TX5 : u_T := fun k => match k with
  | 0 => ("HalfLadders$Plan", "chosen", "[I", true)
  | 1 => ("HalfLadders$Plan", "gains", "[[I", true)
  | _ => ("HalfLadders$Plan", "most", "[[I", true)
def tyX5 : Nat → FieldType := fun k => match k with
  | 0 => .array .int
  | 1 => .array (.array .int)
  | _ => .array (.array .int)
abbrev wsX50 : List Cond := u_ws RX5 TX5 3
theorem nmX5 : ∀ a, a < 3 → ∀ b, b < 3 → a ≠ b → (TX5 a).2.1 ≠ (TX5 b).2.1 := by decide +kernel
theorem tyX5_ok : ∀ k, k < 3 → parseFieldDescriptor (TX5 k).2.2.1 = some (tyX5 k) := by decide +kernel
abbrev cX5_init : ByteArray := prog_7_method_1_code
def yX5_init : MethodName := ⟨RX5, "<init>", "()V"⟩
abbrev cX5_make : ByteArray := prog_7_method_2_code
def yX5_make : MethodName := ⟨RX5, "make", "(LHalfLadders$Orchard;LHalfLadders$Pairs;LHalfLadders$Now;)I"⟩
abbrev cX5_canBeTaken : ByteArray := prog_7_method_3_code
def yX5_canBeTaken : MethodName := ⟨RX5, "canBeTaken", "(LHalfLadders$Pairs;II)Z"⟩
abbrev cX5_mostFrom : ByteArray := prog_7_method_4_code
def yX5_mostFrom : MethodName := ⟨RX5, "mostFrom", "(LHalfLadders$Pairs;II)I"⟩
abbrev cX5_canClimb : ByteArray := prog_7_method_5_code
def yX5_canClimb : MethodName := ⟨RX5, "canClimb", "(LHalfLadders$Pairs;III)Z"⟩
abbrev cX5_with : ByteArray := prog_7_method_6_code
def yX5_with : MethodName := ⟨RX5, "with", "(LHalfLadders$Pairs;III)I"⟩
abbrev cX5_choose : ByteArray := prog_7_method_7_code
def yX5_choose : MethodName := ⟨RX5, "choose", "(LHalfLadders$Orchard;LHalfLadders$Pairs;)V"⟩
abbrev cX5_firstOfBest : ByteArray := prog_7_method_8_code
def yX5_firstOfBest : MethodName := ⟨RX5, "firstOfBest", "(LHalfLadders$Pairs;II)I"⟩
abbrev cX5_carryOut : ByteArray := prog_7_method_9_code
def yX5_carryOut : MethodName := ⟨RX5, "carryOut", "(LHalfLadders$Orchard;LHalfLadders$Pairs;LHalfLadders$Now;)V"⟩
def RX6 : String := "HalfLadders$Reader"
def TX6 : u_T := fun k => match k with
  | 0 => ("HalfLadders$Reader", "text", "LHalfLadders$Text;", true)
  | 1 => ("HalfLadders$Reader", "looked", "I", false)
  | 2 => ("HalfLadders$Reader", "token", "I", false)
  | _ => ("HalfLadders$Reader", "value", "I", false)
def tyX6 : Nat → FieldType := fun k => match k with
  | 0 => .object "HalfLadders$Text"
  | 1 => .int
  | 2 => .int
  | _ => .int
abbrev wsX60 : List Cond := u_ws RX6 TX6 4
theorem nmX6 : ∀ a, a < 4 → ∀ b, b < 4 → a ≠ b → (TX6 a).2.1 ≠ (TX6 b).2.1 := by decide +kernel
theorem tyX6_ok : ∀ k, k < 4 → parseFieldDescriptor (TX6 k).2.2.1 = some (tyX6 k) := by decide +kernel
abbrev cX6_init : ByteArray := prog_8_method_1_code
def yX6_init : MethodName := ⟨RX6, "<init>", "(LHalfLadders$Text;)V"⟩
abbrev cX6_readAll : ByteArray := prog_8_method_2_code
def yX6_readAll : MethodName := ⟨RX6, "readAll", "(LHalfLadders$Orchard;)I"⟩
abbrev cX6_look : ByteArray := prog_8_method_3_code
def yX6_look : MethodName := ⟨RX6, "look", "()V"⟩
abbrev cX6_advance : ByteArray := prog_8_method_4_code
def yX6_advance : MethodName := ⟨RX6, "advance", "()V"⟩
abbrev cX6_readItem : ByteArray := prog_8_method_5_code
def yX6_readItem : MethodName := ⟨RX6, "readItem", "(LHalfLadders$Orchard;)Z"⟩
abbrev cX6_readHalf : ByteArray := prog_8_method_6_code
def yX6_readHalf : MethodName := ⟨RX6, "readHalf", "(LHalfLadders$Orchard;I)Z"⟩
abbrev cX6_readQuarrel : ByteArray := prog_8_method_7_code
def yX6_readQuarrel : MethodName := ⟨RX6, "readQuarrel", "(LHalfLadders$Orchard;)Z"⟩
abbrev cX6_readTree : ByteArray := prog_8_method_8_code
def yX6_readTree : MethodName := ⟨RX6, "readTree", "(LHalfLadders$Orchard;)Z"⟩
abbrev cX6_readNumber : ByteArray := prog_8_method_9_code
def yX6_readNumber : MethodName := ⟨RX6, "readNumber", "(II)Z"⟩
abbrev cX6_readSemicolon : ByteArray := prog_8_method_10_code
def yX6_readSemicolon : MethodName := ⟨RX6, "readSemicolon", "()Z"⟩
def RX7 : String := "HalfLadders$Sums"
def TX7 : u_T := fun k => match k with
  | _ => ("HalfLadders$Sums", "wholes", "[I", true)
def tyX7 : Nat → FieldType := fun k => match k with
  | _ => .array .int
abbrev wsX70 : List Cond := u_ws RX7 TX7 1
theorem nmX7 : ∀ a, a < 1 → ∀ b, b < 1 → a ≠ b → (TX7 a).2.1 ≠ (TX7 b).2.1 := by decide +kernel
theorem tyX7_ok : ∀ k, k < 1 → parseFieldDescriptor (TX7 k).2.2.1 = some (tyX7 k) := by decide +kernel
abbrev cX7_init : ByteArray := prog_9_method_1_code
def yX7_init : MethodName := ⟨RX7, "<init>", "()V"⟩
abbrev cX7_reckon : ByteArray := prog_9_method_2_code
def yX7_reckon : MethodName := ⟨RX7, "reckon", "(LHalfLadders$Orchard;LHalfLadders$Pairs;)V"⟩
abbrev cX7_wholeOf : ByteArray := prog_9_method_3_code
def yX7_wholeOf : MethodName := ⟨RX7, "wholeOf", "(LHalfLadders$Pairs;I)I"⟩
abbrev cX7_grownOverOrders : ByteArray := prog_9_method_4_code
def yX7_grownOverOrders : MethodName := ⟨RX7, "grownOverOrders", "(II)I"⟩
def RX8 : String := "HalfLadders$Text"
def TX8 : u_T := fun k => match k with
  | 0 => ("HalfLadders$Text", "bytes", "[B", true)
  | 1 => ("HalfLadders$Text", "length", "I", false)
  | 2 => ("HalfLadders$Text", "tokens", "[I", true)
  | 3 => ("HalfLadders$Text", "places", "[I", true)
  | _ => ("HalfLadders$Text", "values", "[I", true)
def tyX8 : Nat → FieldType := fun k => match k with
  | 0 => .array .byte
  | 1 => .int
  | 2 => .array .int
  | 3 => .array .int
  | _ => .array .int
abbrev wsX80 : List Cond := u_ws RX8 TX8 5
theorem nmX8 : ∀ a, a < 5 → ∀ b, b < 5 → a ≠ b → (TX8 a).2.1 ≠ (TX8 b).2.1 := by decide +kernel
theorem tyX8_ok : ∀ k, k < 5 → parseFieldDescriptor (TX8 k).2.2.1 = some (tyX8 k) := by decide +kernel
abbrev cX8_init : ByteArray := prog_10_method_1_code
def yX8_init : MethodName := ⟨RX8, "<init>", "()V"⟩
abbrev cX8_room : ByteArray := prog_10_method_2_code
def yX8_room : MethodName := ⟨RX8, "room", "()I"⟩
abbrev cX8_add : ByteArray := prog_10_method_3_code
def yX8_add : MethodName := ⟨RX8, "add", "(B)V"⟩
abbrev cX8_at : ByteArray := prog_10_method_4_code
def yX8_at : MethodName := ⟨RX8, "at", "(I)I"⟩
abbrev cX8_cutIntoTokens : ByteArray := prog_10_method_5_code
def yX8_cutIntoTokens : MethodName := ⟨RX8, "cutIntoTokens", "()V"⟩
abbrev cX8_endOfToken : ByteArray := prog_10_method_6_code
def yX8_endOfToken : MethodName := ⟨RX8, "endOfToken", "(I)I"⟩
abbrev cX8_tokenOf : ByteArray := prog_10_method_7_code
def yX8_tokenOf : MethodName := ⟨RX8, "tokenOf", "(II)I"⟩
abbrev cX8_spells : ByteArray := prog_10_method_8_code
def yX8_spells : MethodName := ⟨RX8, "spells", "(Ljava/lang/String;II)Z"⟩
abbrev cX8_numberAt : ByteArray := prog_10_method_9_code
def yX8_numberAt : MethodName := ⟨RX8, "numberAt", "(II)I"⟩
abbrev cX8_isLetter : ByteArray := prog_10_method_10_code
def yX8_isLetter : MethodName := ⟨RX8, "isLetter", "(I)Z"⟩
abbrev cX8_isDigit : ByteArray := prog_10_method_11_code
def yX8_isDigit : MethodName := ⟨RX8, "isDigit", "(I)Z"⟩
def RX9 : String := "HalfLadders"
def TX9 : u_T := fun k => match k with
  | 0 => ("HalfLadders", "text", "LHalfLadders$Text;", true)
  | 1 => ("HalfLadders", "reader", "LHalfLadders$Reader;", true)
  | 2 => ("HalfLadders", "told", "LHalfLadders$Orchard;", false)
  | 3 => ("HalfLadders", "draft", "LHalfLadders$Orchard;", false)
  | 4 => ("HalfLadders", "pairs", "LHalfLadders$Pairs;", true)
  | 5 => ("HalfLadders", "sums", "LHalfLadders$Sums;", true)
  | 6 => ("HalfLadders", "cutting", "LHalfLadders$Cutting;", true)
  | 7 => ("HalfLadders", "liking", "LHalfLadders$Liking;", true)
  | 8 => ("HalfLadders", "plan", "LHalfLadders$Plan;", true)
  | 9 => ("HalfLadders", "present", "LHalfLadders$Now;", true)
  | 10 => ("HalfLadders", "ahead", "LHalfLadders$Now;", true)
  | 11 => ("HalfLadders", "images", "[LHalfLadders$Now;", true)
  | 12 => ("HalfLadders", "kept", "[Z", true)
  | _ => ("HalfLadders", "traced", "J", false)
def tyX9 : Nat → FieldType := fun k => match k with
  | 0 => .object "HalfLadders$Text"
  | 1 => .object "HalfLadders$Reader"
  | 2 => .object "HalfLadders$Orchard"
  | 3 => .object "HalfLadders$Orchard"
  | 4 => .object "HalfLadders$Pairs"
  | 5 => .object "HalfLadders$Sums"
  | 6 => .object "HalfLadders$Cutting"
  | 7 => .object "HalfLadders$Liking"
  | 8 => .object "HalfLadders$Plan"
  | 9 => .object "HalfLadders$Now"
  | 10 => .object "HalfLadders$Now"
  | 11 => .array (.object "HalfLadders$Now")
  | 12 => .array .boolean
  | _ => .long
abbrev wsX90 : List Cond := u_ws RX9 TX9 14
theorem nmX9 : ∀ a, a < 14 → ∀ b, b < 14 → a ≠ b → (TX9 a).2.1 ≠ (TX9 b).2.1 := by decide +kernel
theorem tyX9_ok : ∀ k, k < 14 → parseFieldDescriptor (TX9 k).2.2.1 = some (tyX9 k) := by decide +kernel
abbrev cX9_init : ByteArray := prog_1_method_1_code
def yX9_init : MethodName := ⟨RX9, "<init>", "()V"⟩
abbrev cX9_type : ByteArray := prog_1_method_2_code
def yX9_type : MethodName := ⟨RX9, "type", "(JI)I"⟩
abbrev cX9_clear : ByteArray := prog_1_method_3_code
def yX9_clear : MethodName := ⟨RX9, "clear", "()I"⟩
abbrev cX9_orchard : ByteArray := prog_1_method_4_code
def yX9_orchard : MethodName := ⟨RX9, "orchard", "()I"⟩
abbrev cX9_half : ByteArray := prog_1_method_5_code
def yX9_half : MethodName := ⟨RX9, "half", "(II)I"⟩
abbrev cX9_tree : ByteArray := prog_1_method_6_code
def yX9_tree : MethodName := ⟨RX9, "tree", "(II)I"⟩
abbrev cX9_fit : ByteArray := prog_1_method_7_code
def yX9_fit : MethodName := ⟨RX9, "fit", "(II)I"⟩
abbrev cX9_climb : ByteArray := prog_1_method_8_code
def yX9_climb : MethodName := ⟨RX9, "climb", "(III)I"⟩
abbrev cX9_ends : ByteArray := prog_1_method_9_code
def yX9_ends : MethodName := ⟨RX9, "ends", "()I"⟩
abbrev cX9_now : ByteArray := prog_1_method_10_code
def yX9_now : MethodName := ⟨RX9, "now", "(I)I"⟩
abbrev cX9_year : ByteArray := prog_1_method_11_code
def yX9_year : MethodName := ⟨RX9, "year", "()I"⟩
abbrev cX9_lot : ByteArray := prog_1_method_12_code
def yX9_lot : MethodName := ⟨RX9, "lot", "(I)I"⟩
abbrev cX9_best : ByteArray := prog_1_method_13_code
def yX9_best : MethodName := ⟨RX9, "best", "(I)I"⟩
abbrev cX9_season : ByteArray := prog_1_method_14_code
def yX9_season : MethodName := ⟨RX9, "season", "(I)I"⟩
abbrev cX9_whole : ByteArray := prog_1_method_15_code
def yX9_whole : MethodName := ⟨RX9, "whole", "(I)I"⟩
abbrev cX9_worth : ByteArray := prog_1_method_16_code
def yX9_worth : MethodName := ⟨RX9, "worth", "(II)I"⟩
abbrev cX9_asked : ByteArray := prog_1_method_17_code
def yX9_asked : MethodName := ⟨RX9, "asked", "(I)I"⟩
abbrev cX9_rests : ByteArray := prog_1_method_18_code
def yX9_rests : MethodName := ⟨RX9, "rests", "()I"⟩
abbrev cX9_cuts : ByteArray := prog_1_method_19_code
def yX9_cuts : MethodName := ⟨RX9, "cuts", "(I)I"⟩
abbrev cX9_whose : ByteArray := prog_1_method_20_code
def yX9_whose : MethodName := ⟨RX9, "whose", "(III)I"⟩
abbrev cX9_mark : ByteArray := prog_1_method_21_code
def yX9_mark : MethodName := ⟨RX9, "mark", "(II)I"⟩
abbrev cX9_keep : ByteArray := prog_1_method_22_code
def yX9_keep : MethodName := ⟨RX9, "keep", "(I)I"⟩
abbrev cX9_back : ByteArray := prog_1_method_23_code
def yX9_back : MethodName := ⟨RX9, "back", "(I)I"⟩
abbrev cX9_count : ByteArray := prog_1_method_24_code
def yX9_count : MethodName := ⟨RX9, "count", "(I)I"⟩
abbrev cX9_trace : ByteArray := prog_1_method_25_code
def yX9_trace : MethodName := ⟨RX9, "trace", "()J"⟩
abbrev cX9_startAnew : ByteArray := prog_1_method_26_code
def yX9_startAnew : MethodName := ⟨RX9, "startAnew", "()V"⟩
abbrev cX9_areTwo : ByteArray := prog_1_method_27_code
def yX9_areTwo : MethodName := ⟨RX9, "areTwo", "(II)Z"⟩
abbrev cX9_isImage : ByteArray := prog_1_method_28_code
def yX9_isImage : MethodName := ⟨RX9, "isImage", "(I)Z"⟩
abbrev cX9_greatestDivisor : ByteArray := prog_1_method_29_code
def yX9_greatestDivisor : MethodName := ⟨RX9, "greatestDivisor", "(II)I"⟩
abbrev cX9_markAs : ByteArray := prog_1_method_30_code
def yX9_markAs : MethodName := ⟨RX9, "markAs", "(LHalfLadders;III)I"⟩
abbrev cX9_restsFrom : ByteArray := prog_1_method_31_code
def yX9_restsFrom : MethodName := ⟨RX9, "restsFrom", "(LHalfLadders$Liking;LHalfLadders$Pairs;I)I"⟩
def RX10 : String := "HalfLaddersModel"
def TX10 : u_T := fun k => match k with
  | 0 => ("HalfLaddersModel", "trace", "J", false)
  | 1 => ("HalfLaddersModel", "text", "[B", true)
  | 2 => ("HalfLaddersModel", "typed", "I", false)
  | 3 => ("HalfLaddersModel", "people", "[I", true)
  | 4 => ("HalfLaddersModel", "side", "[I", true)
  | 5 => ("HalfLaddersModel", "gap", "[I", true)
  | 6 => ("HalfLaddersModel", "tall", "[I", true)
  | 7 => ("HalfLaddersModel", "pace", "[I", true)
  | 8 => ("HalfLaddersModel", "quarrel", "[Z", true)
  | 9 => ("HalfLaddersModel", "trees", "[I", true)
  | 10 => ("HalfLaddersModel", "high", "[I", true)
  | 11 => ("HalfLaddersModel", "ripe", "[I", true)
  | 12 => ("HalfLaddersModel", "hangs", "[I", true)
  | 13 => ("HalfLaddersModel", "at", "I", false)
  | 14 => ("HalfLaddersModel", "start", "I", false)
  | 15 => ("HalfLaddersModel", "sort", "I", false)
  | 16 => ("HalfLaddersModel", "value", "I", false)
  | 17 => ("HalfLaddersModel", "fault", "I", false)
  | 18 => ("HalfLaddersModel", "now", "[I", true)
  | 19 => ("HalfLaddersModel", "isKept", "[Z", true)
  | 20 => ("HalfLaddersModel", "most", "[I", true)
  | 21 => ("HalfLaddersModel", "pairAt", "[I", true)
  | 22 => ("HalfLaddersModel", "wholes", "[I", true)
  | 23 => ("HalfLaddersModel", "with", "[I", true)
  | 24 => ("HalfLaddersModel", "turnedDown", "[I", true)
  | 25 => ("HalfLaddersModel", "fewest", "[I", true)
  | _ => ("HalfLaddersModel", "then", "[I", true)
def tyX10 : Nat → FieldType := fun k => match k with
  | 0 => .long
  | 1 => .array .byte
  | 2 => .int
  | 3 => .array .int
  | 4 => .array .int
  | 5 => .array .int
  | 6 => .array .int
  | 7 => .array .int
  | 8 => .array .boolean
  | 9 => .array .int
  | 10 => .array .int
  | 11 => .array .int
  | 12 => .array .int
  | 13 => .int
  | 14 => .int
  | 15 => .int
  | 16 => .int
  | 17 => .int
  | 18 => .array .int
  | 19 => .array .boolean
  | 20 => .array .int
  | 21 => .array .int
  | 22 => .array .int
  | 23 => .array .int
  | 24 => .array .int
  | 25 => .array .int
  | _ => .array .int
abbrev wsX100 : List Cond := u_ws RX10 TX10 27
theorem nmX10 : ∀ a, a < 27 → ∀ b, b < 27 → a ≠ b → (TX10 a).2.1 ≠ (TX10 b).2.1 := by decide +kernel
theorem tyX10_ok : ∀ k, k < 27 → parseFieldDescriptor (TX10 k).2.2.1 = some (tyX10 k) := by decide +kernel
abbrev cX10_init : ByteArray := prog_12_method_1_code
def yX10_init : MethodName := ⟨RX10, "<init>", "()V"⟩
abbrev cX10_in : ByteArray := prog_12_method_3_code
def yX10_in : MethodName := ⟨RX10, "in", "(III)Z"⟩
abbrev cX10_type : ByteArray := prog_12_method_4_code
def yX10_type : MethodName := ⟨RX10, "type", "(JI)I"⟩
abbrev cX10_clear : ByteArray := prog_12_method_5_code
def yX10_clear : MethodName := ⟨RX10, "clear", "()I"⟩
abbrev cX10_here : ByteArray := prog_12_method_6_code
def yX10_here : MethodName := ⟨RX10, "here", "()I"⟩
abbrev cX10_meaning : ByteArray := prog_12_method_7_code
def yX10_meaning : MethodName := ⟨RX10, "meaning", "(II)I"⟩
abbrev cX10_next : ByteArray := prog_12_method_8_code
def yX10_next : MethodName := ⟨RX10, "next", "()V"⟩
abbrev cX10_due : ByteArray := prog_12_method_9_code
def yX10_due : MethodName := ⟨RX10, "due", "(Z)I"⟩
abbrev cX10_number : ByteArray := prog_12_method_10_code
def yX10_number : MethodName := ⟨RX10, "number", "(II)I"⟩
abbrev cX10_readItem : ByteArray := prog_12_method_11_code
def yX10_readItem : MethodName := ⟨RX10, "readItem", "()V"⟩
abbrev cX10_orchard : ByteArray := prog_12_method_12_code
def yX10_orchard : MethodName := ⟨RX10, "orchard", "()I"⟩
abbrev cX10_isOne : ByteArray := prog_12_method_13_code
def yX10_isOne : MethodName := ⟨RX10, "isOne", "(I)Z"⟩
abbrev cX10_isTree : ByteArray := prog_12_method_14_code
def yX10_isTree : MethodName := ⟨RX10, "isTree", "(I)Z"⟩
abbrev cX10_fits : ByteArray := prog_12_method_15_code
def yX10_fits : MethodName := ⟨RX10, "fits", "(II)Z"⟩
abbrev cX10_ladder : ByteArray := prog_12_method_16_code
def yX10_ladder : MethodName := ⟨RX10, "ladder", "(II)I"⟩
abbrev cX10_half : ByteArray := prog_12_method_17_code
def yX10_half : MethodName := ⟨RX10, "half", "(II)I"⟩
abbrev cX10_tree : ByteArray := prog_12_method_18_code
def yX10_tree : MethodName := ⟨RX10, "tree", "(II)I"⟩
abbrev cX10_fit : ByteArray := prog_12_method_19_code
def yX10_fit : MethodName := ⟨RX10, "fit", "(II)I"⟩
abbrev cX10_begin : ByteArray := prog_12_method_20_code
def yX10_begin : MethodName := ⟨RX10, "begin", "()V"⟩
abbrev cX10_mayClimb : ByteArray := prog_12_method_21_code
def yX10_mayClimb : MethodName := ⟨RX10, "mayClimb", "(IIII)Z"⟩
abbrev cX10_picks : ByteArray := prog_12_method_22_code
def yX10_picks : MethodName := ⟨RX10, "picks", "(IIII)I"⟩
abbrev cX10_climbs : ByteArray := prog_12_method_23_code
def yX10_climbs : MethodName := ⟨RX10, "climbs", "(IIII)I"⟩
abbrev cX10_endDay : ByteArray := prog_12_method_24_code
def yX10_endDay : MethodName := ⟨RX10, "endDay", "(I)I"⟩
abbrev cX10_climb : ByteArray := prog_12_method_25_code
def yX10_climb : MethodName := ⟨RX10, "climb", "(III)I"⟩
abbrev cX10_ends : ByteArray := prog_12_method_26_code
def yX10_ends : MethodName := ⟨RX10, "ends", "()I"⟩
abbrev cX10_now : ByteArray := prog_12_method_27_code
def yX10_now : MethodName := ⟨RX10, "now", "(I)I"⟩
abbrev cX10_year : ByteArray := prog_12_method_28_code
def yX10_year : MethodName := ⟨RX10, "year", "()I"⟩
abbrev cX10_lot : ByteArray := prog_12_method_29_code
def yX10_lot : MethodName := ⟨RX10, "lot", "(I)I"⟩
abbrev cX10_leftOf : ByteArray := prog_12_method_30_code
def yX10_leftOf : MethodName := ⟨RX10, "leftOf", "(I)I"⟩
abbrev cX10_mayPair : ByteArray := prog_12_method_31_code
def yX10_mayPair : MethodName := ⟨RX10, "mayPair", "(IIII)Z"⟩
abbrev cX10_findBest : ByteArray := prog_12_method_32_code
def yX10_findBest : MethodName := ⟨RX10, "findBest", "(I)V"⟩
abbrev cX10_best : ByteArray := prog_12_method_33_code
def yX10_best : MethodName := ⟨RX10, "best", "(I)I"⟩
abbrev cX10_copy : ByteArray := prog_12_method_34_code
def yX10_copy : MethodName := ⟨RX10, "copy", "(II)V"⟩
abbrev cX10_season : ByteArray := prog_12_method_35_code
def yX10_season : MethodName := ⟨RX10, "season", "(I)I"⟩
abbrev cX10_findWholes : ByteArray := prog_12_method_36_code
def yX10_findWholes : MethodName := ⟨RX10, "findWholes", "()V"⟩
abbrev cX10_whole : ByteArray := prog_12_method_37_code
def yX10_whole : MethodName := ⟨RX10, "whole", "(I)I"⟩
abbrev cX10_orders : ByteArray := prog_12_method_38_code
def yX10_orders : MethodName := ⟨RX10, "orders", "(I)I"⟩
abbrev cX10_bitsIn : ByteArray := prog_12_method_39_code
def yX10_bitsIn : MethodName := ⟨RX10, "bitsIn", "(I)I"⟩
abbrev cX10_common : ByteArray := prog_12_method_40_code
def yX10_common : MethodName := ⟨RX10, "common", "(II)I"⟩
abbrev cX10_worth : ByteArray := prog_12_method_41_code
def yX10_worth : MethodName := ⟨RX10, "worth", "(II)I"⟩
abbrev cX10_likes : ByteArray := prog_12_method_42_code
def yX10_likes : MethodName := ⟨RX10, "likes", "(III)Z"⟩
abbrev cX10_asksNext : ByteArray := prog_12_method_43_code
def yX10_asksNext : MethodName := ⟨RX10, "asksNext", "(I)I"⟩
abbrev cX10_ask : ByteArray := prog_12_method_44_code
def yX10_ask : MethodName := ⟨RX10, "ask", "()V"⟩
abbrev cX10_asked : ByteArray := prog_12_method_45_code
def yX10_asked : MethodName := ⟨RX10, "asked", "(I)I"⟩
abbrev cX10_pair : ByteArray := prog_12_method_46_code
def yX10_pair : MethodName := ⟨RX10, "pair", "(II)Z"⟩
abbrev cX10_right : ByteArray := prog_12_method_47_code
def yX10_right : MethodName := ⟨RX10, "right", "(I)I"⟩
abbrev cX10_isRest : ByteArray := prog_12_method_48_code
def yX10_isRest : MethodName := ⟨RX10, "isRest", "()Z"⟩
abbrev cX10_rests : ByteArray := prog_12_method_49_code
def yX10_rests : MethodName := ⟨RX10, "rests", "()I"⟩
abbrev cX10_cuts : ByteArray := prog_12_method_50_code
def yX10_cuts : MethodName := ⟨RX10, "cuts", "(I)I"⟩
abbrev cX10_cutOne : ByteArray := prog_12_method_51_code
def yX10_cutOne : MethodName := ⟨RX10, "cutOne", "(II)V"⟩
abbrev cX10_whose : ByteArray := prog_12_method_52_code
def yX10_whose : MethodName := ⟨RX10, "whose", "(III)I"⟩
abbrev cX10_mark : ByteArray := prog_12_method_53_code
def yX10_mark : MethodName := ⟨RX10, "mark", "(II)I"⟩
abbrev cX10_keep : ByteArray := prog_12_method_54_code
def yX10_keep : MethodName := ⟨RX10, "keep", "(I)I"⟩
abbrev cX10_back : ByteArray := prog_12_method_55_code
def yX10_back : MethodName := ⟨RX10, "back", "(I)I"⟩
abbrev cX10_count : ByteArray := prog_12_method_56_code
def yX10_count : MethodName := ⟨RX10, "count", "(I)I"⟩
abbrev cX10_trace : ByteArray := prog_12_method_57_code
def yX10_trace : MethodName := ⟨RX10, "trace", "()J"⟩
def RJx145de : String := "java/io/Serializable"
def TJx145de : u_T := fun k => match k with
  | _ => ("", "", "", false)
def tyJx145de : Nat → FieldType := fun k => match k with
  | _ => .int
abbrev wsJx145de0 : List Cond := u_ws RJx145de TJx145de 0
theorem nmJx145de : ∀ a, a < 0 → ∀ b, b < 0 → a ≠ b → (TJx145de a).2.1 ≠ (TJx145de b).2.1 := by decide +kernel
theorem tyJx145de_ok : ∀ k, k < 0 → parseFieldDescriptor (TJx145de k).2.2.1 = some (tyJx145de k) := by decide +kernel
def RJx9f9b0 : String := "java/lang/CharSequence"
def TJx9f9b0 : u_T := fun k => match k with
  | _ => ("", "", "", false)
def tyJx9f9b0 : Nat → FieldType := fun k => match k with
  | _ => .int
abbrev wsJx9f9b00 : List Cond := u_ws RJx9f9b0 TJx9f9b0 0
theorem nmJx9f9b0 : ∀ a, a < 0 → ∀ b, b < 0 → a ≠ b → (TJx9f9b0 a).2.1 ≠ (TJx9f9b0 b).2.1 := by decide +kernel
theorem tyJx9f9b0_ok : ∀ k, k < 0 → parseFieldDescriptor (TJx9f9b0 k).2.2.1 = some (tyJx9f9b0 k) := by decide +kernel
def RJxb160c : String := "java/lang/Comparable"
def TJxb160c : u_T := fun k => match k with
  | _ => ("", "", "", false)
def tyJxb160c : Nat → FieldType := fun k => match k with
  | _ => .int
abbrev wsJxb160c0 : List Cond := u_ws RJxb160c TJxb160c 0
theorem nmJxb160c : ∀ a, a < 0 → ∀ b, b < 0 → a ≠ b → (TJxb160c a).2.1 ≠ (TJxb160c b).2.1 := by decide +kernel
theorem tyJxb160c_ok : ∀ k, k < 0 → parseFieldDescriptor (TJxb160c k).2.2.1 = some (tyJxb160c k) := by decide +kernel
def RJ6 : String := "java/lang/Integer"
def TJ6 : u_T := fun k => match k with
  | _ => ("", "", "", false)
def tyJ6 : Nat → FieldType := fun k => match k with
  | _ => .int
abbrev wsJ60 : List Cond := u_ws RJ6 TJ6 0
theorem nmJ6 : ∀ a, a < 0 → ∀ b, b < 0 → a ≠ b → (TJ6 a).2.1 ≠ (TJ6 b).2.1 := by decide +kernel
theorem tyJ6_ok : ∀ k, k < 0 → parseFieldDescriptor (TJ6 k).2.2.1 = some (tyJ6 k) := by decide +kernel
abbrev cJ6_numberOfTrailingZeros_0f7a4 : ByteArray := prog_13_method_48_code
def yJ6_numberOfTrailingZeros_0f7a4 : MethodName := ⟨RJ6, "numberOfTrailingZeros", "(I)I"⟩
abbrev cJ6_bitCount_0f7a4 : ByteArray := prog_13_method_49_code
def yJ6_bitCount_0f7a4 : MethodName := ⟨RJ6, "bitCount", "(I)I"⟩
def RJ9 : String := "java/lang/Math"
def TJ9 : u_T := fun k => match k with
  | _ => ("", "", "", false)
def tyJ9 : Nat → FieldType := fun k => match k with
  | _ => .int
abbrev wsJ90 : List Cond := u_ws RJ9 TJ9 0
theorem nmJ9 : ∀ a, a < 0 → ∀ b, b < 0 → a ≠ b → (TJ9 a).2.1 ≠ (TJ9 b).2.1 := by decide +kernel
theorem tyJ9_ok : ∀ k, k < 0 → parseFieldDescriptor (TJ9 k).2.2.1 = some (tyJ9 k) := by decide +kernel
abbrev cJ9_abs_0f7a4 : ByteArray := prog_14_method_59_code
def yJ9_abs_0f7a4 : MethodName := ⟨RJ9, "abs", "(I)I"⟩
abbrev cJ9_max_7cf53 : ByteArray := prog_14_method_65_code
def yJ9_max_7cf53 : MethodName := ⟨RJ9, "max", "(II)I"⟩
abbrev cJ9_min_7cf53 : ByteArray := prog_14_method_69_code
def yJ9_min_7cf53 : MethodName := ⟨RJ9, "min", "(II)I"⟩
def RJ0 : String := "java/lang/String"
def TJ0 : u_T := fun k => match k with
  | _ => ("", "", "", false)
def tyJ0 : Nat → FieldType := fun k => match k with
  | _ => .int
abbrev wsJ00 : List Cond := u_ws RJ0 TJ0 0
theorem nmJ0 : ∀ a, a < 0 → ∀ b, b < 0 → a ≠ b → (TJ0 a).2.1 ≠ (TJ0 b).2.1 := by decide +kernel
theorem tyJ0_ok : ∀ k, k < 0 → parseFieldDescriptor (TJ0 k).2.2.1 = some (tyJ0 k) := by decide +kernel
abbrev cJ0_length_8abf5 : ByteArray := prog_15_method_54_code
def yJ0_length_8abf5 : MethodName := ⟨RJ0, "length", "()I"⟩
abbrev cJ0_charAt_5068e : ByteArray := prog_15_method_56_code
def yJ0_charAt_5068e : MethodName := ⟨RJ0, "charAt", "(I)C"⟩
abbrev cJ0_coder_7d493 : ByteArray := prog_15_method_152_code
def yJ0_coder_7d493 : MethodName := ⟨RJ0, "coder", "()B"⟩
abbrev cJ0_isLatin1_aae02 : ByteArray := prog_15_method_154_code
def yJ0_isLatin1_aae02 : MethodName := ⟨RJ0, "isLatin1", "()Z"⟩
abbrev cJ0_checkIndex_df160 : ByteArray := prog_15_method_155_code
def yJ0_checkIndex_df160 : MethodName := ⟨RJ0, "checkIndex", "(II)V"⟩
def RJ1 : String := "java/lang/StringLatin1"
def TJ1 : u_T := fun k => match k with
  | _ => ("", "", "", false)
def tyJ1 : Nat → FieldType := fun k => match k with
  | _ => .int
abbrev wsJ10 : List Cond := u_ws RJ1 TJ1 0
theorem nmJ1 : ∀ a, a < 0 → ∀ b, b < 0 → a ≠ b → (TJ1 a).2.1 ≠ (TJ1 b).2.1 := by decide +kernel
theorem tyJ1_ok : ∀ k, k < 0 → parseFieldDescriptor (TJ1 k).2.2.1 = some (tyJ1 k) := by decide +kernel
abbrev cJ1_charAt_3b067 : ByteArray := prog_16_method_2_code
def yJ1_charAt_3b067 : MethodName := ⟨RJ1, "charAt", "([BI)C"⟩
def RJ2 : String := "java/lang/StringUTF16"
def TJ2 : u_T := fun k => match k with
  | _ => ("", "", "", false)
def tyJ2 : Nat → FieldType := fun k => match k with
  | _ => .int
abbrev wsJ20 : List Cond := u_ws RJ2 TJ2 0
theorem nmJ2 : ∀ a, a < 0 → ∀ b, b < 0 → a ≠ b → (TJ2 a).2.1 ≠ (TJ2 b).2.1 := by decide +kernel
theorem tyJ2_ok : ∀ k, k < 0 → parseFieldDescriptor (TJ2 k).2.2.1 = some (tyJ2 k) := by decide +kernel
abbrev cJ2_getChar_3b067 : ByteArray := prog_17_method_5_code
def yJ2_getChar_3b067 : MethodName := ⟨RJ2, "getChar", "([BI)C"⟩
abbrev cJ2_length_9d52b : ByteArray := prog_17_method_6_code
def yJ2_length_9d52b : MethodName := ⟨RJ2, "length", "([B)I"⟩
abbrev cJ2_charAt_3b067 : ByteArray := prog_17_method_83_code
def yJ2_charAt_3b067 : MethodName := ⟨RJ2, "charAt", "([BI)C"⟩
abbrev cJ2_checkIndex_2214a : ByteArray := prog_17_method_91_code
def yJ2_checkIndex_2214a : MethodName := ⟨RJ2, "checkIndex", "(I[B)V"⟩
def RJxfd54e : String := "java/lang/constant/Constable"
def TJxfd54e : u_T := fun k => match k with
  | _ => ("", "", "", false)
def tyJxfd54e : Nat → FieldType := fun k => match k with
  | _ => .int
abbrev wsJxfd54e0 : List Cond := u_ws RJxfd54e TJxfd54e 0
theorem nmJxfd54e : ∀ a, a < 0 → ∀ b, b < 0 → a ≠ b → (TJxfd54e a).2.1 ≠ (TJxfd54e b).2.1 := by decide +kernel
theorem tyJxfd54e_ok : ∀ k, k < 0 → parseFieldDescriptor (TJxfd54e k).2.2.1 = some (tyJxfd54e k) := by decide +kernel
def RJx3cf43 : String := "java/lang/constant/ConstantDesc"
def TJx3cf43 : u_T := fun k => match k with
  | _ => ("", "", "", false)
def tyJx3cf43 : Nat → FieldType := fun k => match k with
  | _ => .int
abbrev wsJx3cf430 : List Cond := u_ws RJx3cf43 TJx3cf43 0
theorem nmJx3cf43 : ∀ a, a < 0 → ∀ b, b < 0 → a ≠ b → (TJx3cf43 a).2.1 ≠ (TJx3cf43 b).2.1 := by decide +kernel
theorem tyJx3cf43_ok : ∀ k, k < 0 → parseFieldDescriptor (TJx3cf43 k).2.2.1 = some (tyJx3cf43 k) := by decide +kernel
def RJ7 : String := "java/util/Arrays"
def TJ7 : u_T := fun k => match k with
  | _ => ("", "", "", false)
def tyJ7 : Nat → FieldType := fun k => match k with
  | _ => .int
abbrev wsJ70 : List Cond := u_ws RJ7 TJ7 0
theorem nmJ7 : ∀ a, a < 0 → ∀ b, b < 0 → a ≠ b → (TJ7 a).2.1 ≠ (TJ7 b).2.1 := by decide +kernel
theorem tyJ7_ok : ∀ k, k < 0 → parseFieldDescriptor (TJ7 k).2.2.1 = some (tyJ7 k) := by decide +kernel
abbrev cJ7_fill_53178 : ByteArray := prog_18_method_103_code
def yJ7_fill_53178 : MethodName := ⟨RJ7, "fill", "([II)V"⟩
def RJ3 : String := "jdk/internal/util/Preconditions"
def TJ3 : u_T := fun k => match k with
  | _ => ("", "", "", false)
def tyJ3 : Nat → FieldType := fun k => match k with
  | _ => .int
abbrev wsJ30 : List Cond := u_ws RJ3 TJ3 0
theorem nmJ3 : ∀ a, a < 0 → ∀ b, b < 0 → a ≠ b → (TJ3 a).2.1 ≠ (TJ3 b).2.1 := by decide +kernel
theorem tyJ3_ok : ∀ k, k < 0 → parseFieldDescriptor (TJ3 k).2.2.1 = some (tyJ3 k) := by decide +kernel
abbrev cJ3_checkIndex_8e157 : ByteArray := prog_19_method_11_code
def yJ3_checkIndex_8e157 : MethodName := ⟨RJ3, "checkIndex", "(IILjava/util/function/BiFunction;)I"⟩
def RL : String := "HalfLaddersLaw"
abbrev cL_law : ByteArray := code
def yL_law : MethodName := ⟨RL, "law", "([I)Z"⟩
def wsX0_init : List Cond := .code yX0_init cX0_init 1 none :: ([.methodLink RX0 3 objectInit, .instanceMethod objectInit, .code objectInit ⟨#[0xb1]⟩ 1 none, .arrayClass .int, .fieldLink RX0 9 "HalfLadders$Cutting" "fewest" "[I", .fieldLink RX0 15 "HalfLadders$Cutting" "forSet" "[I"] ++ wsX00)
def wsJ7_fill_53178 : List Cond := .code yJ7_fill_53178 cJ7_fill_53178 4 none :: ([])
def wsX3_everybody : List Cond := .code yX3_everybody cX3_everybody 1 (some .int) :: ([.fieldLink RX3 9 "HalfLadders$Orchard" "people" "I"] ++ wsX30)
def wsJ6_numberOfTrailingZeros_0f7a4 : List Cond := .code yJ6_numberOfTrailingZeros_0f7a4 cJ6_numberOfTrailingZeros_0f7a4 2 (some .int) :: ([.constant RJ6 264 (65536)])
def wsX3_hasHalf : List Cond := .code yX3_hasHalf cX3_hasHalf 2 (some .boolean) :: ([.fieldLink RX3 9 "HalfLadders$Orchard" "people" "I"] ++ wsX30)
def wsX3_couldFit : List Cond := .code yX3_couldFit cX3_couldFit 3 (some .boolean) :: ([.fieldLink RX3 18 "HalfLadders$Orchard" "sides" "[I", .fieldLink RX3 31 "HalfLadders$Orchard" "quarrels" "[I", .methodLink RX3 43 yX3_hasHalf, .instanceMethod yX3_hasHalf, .selects RX3 yX3_hasHalf yX3_hasHalf, .initialized RX3, .code yX3_hasHalf cX3_hasHalf 2 (some .boolean), .fieldLink RX3 9 "HalfLadders$Orchard" "people" "I"] ++ wsX30)
def wsX0_fewer : List Cond := .code yX0_fewer cX0_fewer 2 (some .int) :: ([.methodLink RX0 63 Lib.Math.min.name, .static Lib.Math.min.name, .initialized "java/lang/Math", .code Lib.Math.min.name Lib.Math.min.code 2 (some .int)])
def wsX0_fewestOf_r1 : List Cond := [Cond.fieldLink RX0 47 "HalfLadders$Orchard" "people" "I", Cond.fieldLink RX0 15 "HalfLadders$Cutting" "forSet" "[I", Cond.fieldLink RX0 55 "HalfLadders$Orchard" "gaps" "[I", Cond.methodLink RX0 58 Lib.Math.abs.name, Cond.static Lib.Math.abs.name, Cond.initialized "java/lang/Math", Cond.code Lib.Math.abs.name Lib.Math.abs.code 1 (some .int), Cond.methodLink RX0 44 yJ6_numberOfTrailingZeros_0f7a4, Cond.static yJ6_numberOfTrailingZeros_0f7a4, Cond.initialized RJ6, Cond.code yJ6_numberOfTrailingZeros_0f7a4 cJ6_numberOfTrailingZeros_0f7a4 2 (some .int), Cond.constant RJ6 264 (65536), Cond.methodLink RX0 51 yX3_couldFit, Cond.instanceMethod yX3_couldFit, Cond.selects RX3 yX3_couldFit yX3_couldFit, Cond.initialized RX3, Cond.code yX3_couldFit cX3_couldFit 3 (some .boolean), Cond.fieldLink RX3 18 "HalfLadders$Orchard" "sides" "[I", Cond.fieldLink RX3 31 "HalfLadders$Orchard" "quarrels" "[I", Cond.methodLink RX3 43 yX3_hasHalf, Cond.instanceMethod yX3_hasHalf, Cond.selects RX3 yX3_hasHalf yX3_hasHalf, Cond.code yX3_hasHalf cX3_hasHalf 2 (some .boolean), Cond.fieldLink RX3 9 "HalfLadders$Orchard" "people" "I"]
def wsX0_fewestOf_r2 : List Cond := [Cond.methodLink RX0 40 yX0_fewer, Cond.static yX0_fewer, Cond.initialized RX0, Cond.code yX0_fewer cX0_fewer 2 (some .int), Cond.methodLink RX0 63 Lib.Math.min.name, Cond.static Lib.Math.min.name, Cond.code Lib.Math.min.name Lib.Math.min.code 2 (some .int)]
def wsX0_fewestOf : List Cond := .code yX0_fewestOf cX0_fewestOf 7 (some .int) :: ((wsX0_fewestOf_r1 ++ wsX0_fewestOf_r2) ++ wsX30 ++ wsX00)
def wsJ6_bitCount_0f7a4 : List Cond := .code yJ6_bitCount_0f7a4 cJ6_bitCount_0f7a4 1 (some .int) :: ([.constant RJ6 265 (1431655765), .constant RJ6 266 (858993459), .constant RJ6 267 (252645135)])
def wsX0_reckon_r1 : List Cond := [Cond.fieldLink RX0 9 "HalfLadders$Cutting" "fewest" "[I", Cond.fieldLink RX0 15 "HalfLadders$Cutting" "forSet" "[I", Cond.methodLink RX0 18 yJ7_fill_53178, Cond.static yJ7_fill_53178, Cond.initialized RJ7, Cond.code yJ7_fill_53178 cJ7_fill_53178 4 none, Cond.methodLink RX0 24 yX3_everybody, Cond.instanceMethod yX3_everybody, Cond.selects RX3 yX3_everybody yX3_everybody, Cond.initialized RX3, Cond.code yX3_everybody cX3_everybody 1 (some .int), Cond.fieldLink RX3 9 "HalfLadders$Orchard" "people" "I", Cond.methodLink RX0 30 yX0_fewestOf, Cond.instanceMethod yX0_fewestOf, Cond.selects RX0 yX0_fewestOf yX0_fewestOf, Cond.initialized RX0, Cond.code yX0_fewestOf cX0_fewestOf 7 (some .int), Cond.fieldLink RX0 47 "HalfLadders$Orchard" "people" "I", Cond.fieldLink RX0 55 "HalfLadders$Orchard" "gaps" "[I", Cond.methodLink RX0 58 Lib.Math.abs.name, Cond.static Lib.Math.abs.name, Cond.initialized "java/lang/Math", Cond.code Lib.Math.abs.name Lib.Math.abs.code 1 (some .int), Cond.methodLink RX0 44 yJ6_numberOfTrailingZeros_0f7a4]
def wsX0_reckon_r2 : List Cond := [Cond.static yJ6_numberOfTrailingZeros_0f7a4, Cond.initialized RJ6, Cond.code yJ6_numberOfTrailingZeros_0f7a4 cJ6_numberOfTrailingZeros_0f7a4 2 (some .int), Cond.constant RJ6 264 (65536), Cond.methodLink RX0 51 yX3_couldFit, Cond.instanceMethod yX3_couldFit, Cond.selects RX3 yX3_couldFit yX3_couldFit, Cond.code yX3_couldFit cX3_couldFit 3 (some .boolean), Cond.fieldLink RX3 18 "HalfLadders$Orchard" "sides" "[I", Cond.fieldLink RX3 31 "HalfLadders$Orchard" "quarrels" "[I", Cond.methodLink RX3 43 yX3_hasHalf, Cond.instanceMethod yX3_hasHalf, Cond.selects RX3 yX3_hasHalf yX3_hasHalf, Cond.code yX3_hasHalf cX3_hasHalf 2 (some .boolean), Cond.methodLink RX0 40 yX0_fewer, Cond.static yX0_fewer, Cond.code yX0_fewer cX0_fewer 2 (some .int), Cond.methodLink RX0 63 Lib.Math.min.name, Cond.static Lib.Math.min.name, Cond.code Lib.Math.min.name Lib.Math.min.code 2 (some .int), Cond.methodLink RX0 34 yJ6_bitCount_0f7a4, Cond.static yJ6_bitCount_0f7a4, Cond.code yJ6_bitCount_0f7a4 cJ6_bitCount_0f7a4 1 (some .int), Cond.constant RJ6 265 (1431655765)]
def wsX0_reckon_r3 : List Cond := [Cond.constant RJ6 266 (858993459), Cond.constant RJ6 267 (252645135)]
def wsX0_reckon : List Cond := .code yX0_reckon cX0_reckon 4 none :: ((wsX0_reckon_r1 ++ (wsX0_reckon_r2 ++ wsX0_reckon_r3)) ++ wsX00 ++ wsX30)
def wsX1_init : List Cond := .code yX1_init cX1_init 1 none :: ([.methodLink RX1 3 objectInit, .instanceMethod objectInit, .code objectInit ⟨#[0xb1]⟩ 1 none, .classLink RX1 9 "[[I", .arrayClass .int, .fieldLink RX1 11 "HalfLadders$Liking" "likes" "[[I", .fieldLink RX1 16 "HalfLadders$Liking" "asked" "[I", .fieldLink RX1 20 "HalfLadders$Liking" "with" "[I", .fieldLink RX1 23 "HalfLadders$Liking" "tried" "[I", .fieldLink RX1 26 "HalfLadders$Liking" "restCount" "I"] ++ wsX10)
def wsX1_ratherHas : List Cond := .code yX1_ratherHas cX1_ratherHas 4 (some .boolean) :: ([.fieldLink RX1 20 "HalfLadders$Liking" "with" "[I", .fieldLink RX1 11 "HalfLadders$Liking" "likes" "[[I"] ++ wsX10)
def wsX1_askNext : List Cond := .code yX1_askNext cX1_askNext 4 none :: ([.fieldLink RX1 23 "HalfLadders$Liking" "tried" "[I", .fieldLink RX1 11 "HalfLadders$Liking" "likes" "[[I", .fieldLink RX1 20 "HalfLadders$Liking" "with" "[I", .methodLink RX1 70 yX1_ratherHas, .instanceMethod yX1_ratherHas, .selects RX1 yX1_ratherHas yX1_ratherHas, .initialized RX1, .code yX1_ratherHas cX1_ratherHas 4 (some .boolean)] ++ wsX10)
def wsX1_askAll : List Cond := .code yX1_askAll cX1_askAll 4 none :: ([.fieldLink RX1 23 "HalfLadders$Liking" "tried" "[I", .fieldLink RX1 36 "HalfLadders$Pairs" "count" "I", .fieldLink RX1 63 "HalfLadders$Pairs" "allLefts" "I", .fieldLink RX1 20 "HalfLadders$Liking" "with" "[I", .methodLink RX1 30 yJ7_fill_53178, .static yJ7_fill_53178, .initialized RJ7, .code yJ7_fill_53178 cJ7_fill_53178 4 none, .methodLink RX1 66 yX1_askNext, .instanceMethod yX1_askNext, .selects RX1 yX1_askNext yX1_askNext, .initialized RX1, .code yX1_askNext cX1_askNext 4 none, .fieldLink RX1 11 "HalfLadders$Liking" "likes" "[[I", .methodLink RX1 70 yX1_ratherHas, .instanceMethod yX1_ratherHas, .selects RX1 yX1_ratherHas yX1_ratherHas, .code yX1_ratherHas cX1_ratherHas 4 (some .boolean)] ++ wsX10 ++ wsX40)
def wsX1_isRest : List Cond := .code yX1_isRest cX1_isRest 5 (some .boolean) :: ([.fieldLink RX1 36 "HalfLadders$Pairs" "count" "I", .fieldLink RX1 41 "HalfLadders$Pairs" "lefts" "[I", .fieldLink RX1 44 "HalfLadders$Pairs" "rights" "[I", .methodLink RX1 70 yX1_ratherHas, .instanceMethod yX1_ratherHas, .selects RX1 yX1_ratherHas yX1_ratherHas, .initialized RX1, .code yX1_ratherHas cX1_ratherHas 4 (some .boolean), .fieldLink RX1 20 "HalfLadders$Liking" "with" "[I", .fieldLink RX1 11 "HalfLadders$Liking" "likes" "[[I"] ++ wsX40 ++ wsX10)
def wsX9_restsFrom : List Cond := .code yX9_restsFrom cX9_restsFrom 6 (some .int) :: ([.fieldLink RX9 284 "HalfLadders$Pairs" "count" "I", .fieldLink RX9 295 "HalfLadders$Pairs" "lefts" "[I", .fieldLink RX9 298 "HalfLadders$Pairs" "rights" "[I", .fieldLink RX9 301 "HalfLadders$Liking" "with" "[I", .methodLink RX9 287 yX1_isRest, .instanceMethod yX1_isRest, .selects RX1 yX1_isRest yX1_isRest, .initialized RX1, .code yX1_isRest cX1_isRest 5 (some .boolean), .fieldLink RX1 36 "HalfLadders$Pairs" "count" "I", .fieldLink RX1 41 "HalfLadders$Pairs" "lefts" "[I", .fieldLink RX1 44 "HalfLadders$Pairs" "rights" "[I", .methodLink RX1 70 yX1_ratherHas, .instanceMethod yX1_ratherHas, .selects RX1 yX1_ratherHas yX1_ratherHas, .code yX1_ratherHas cX1_ratherHas 4 (some .boolean), .fieldLink RX1 20 "HalfLadders$Liking" "with" "[I", .fieldLink RX1 11 "HalfLadders$Liking" "likes" "[[I", .methodLink RX9 291 yX9_restsFrom, .static yX9_restsFrom, .initialized RX9] ++ wsX40 ++ wsX10)
def wsX1_reckon_r1 : List Cond := [Cond.fieldLink RX1 11 "HalfLadders$Liking" "likes" "[[I", Cond.fieldLink RX1 36 "HalfLadders$Pairs" "count" "I", Cond.fieldLink RX1 41 "HalfLadders$Pairs" "lefts" "[I", Cond.fieldLink RX1 44 "HalfLadders$Pairs" "rights" "[I", Cond.fieldLink RX1 47 "HalfLadders$Pairs" "ladders" "[I", Cond.fieldLink RX1 50 "HalfLadders$Orchard" "paces" "[I", Cond.fieldLink RX1 20 "HalfLadders$Liking" "with" "[I", Cond.fieldLink RX1 16 "HalfLadders$Liking" "asked" "[I", Cond.fieldLink RX1 26 "HalfLadders$Liking" "restCount" "I", Cond.methodLink RX1 30 yJ7_fill_53178, Cond.static yJ7_fill_53178, Cond.initialized RJ7, Cond.code yJ7_fill_53178 cJ7_fill_53178 4 none, Cond.methodLink RX1 55 yX1_askAll, Cond.instanceMethod yX1_askAll, Cond.selects RX1 yX1_askAll yX1_askAll, Cond.initialized RX1, Cond.code yX1_askAll cX1_askAll 4 none, Cond.fieldLink RX1 23 "HalfLadders$Liking" "tried" "[I", Cond.fieldLink RX1 63 "HalfLadders$Pairs" "allLefts" "I", Cond.methodLink RX1 66 yX1_askNext, Cond.instanceMethod yX1_askNext, Cond.selects RX1 yX1_askNext yX1_askNext, Cond.code yX1_askNext cX1_askNext 4 none]
def wsX1_reckon_r2 : List Cond := [Cond.methodLink RX1 70 yX1_ratherHas, Cond.instanceMethod yX1_ratherHas, Cond.selects RX1 yX1_ratherHas yX1_ratherHas, Cond.code yX1_ratherHas cX1_ratherHas 4 (some .boolean), Cond.static yX9_restsFrom, Cond.initialized RX9, Cond.code yX9_restsFrom cX9_restsFrom 6 (some .int), Cond.fieldLink RX9 284 "HalfLadders$Pairs" "count" "I", Cond.fieldLink RX9 295 "HalfLadders$Pairs" "lefts" "[I", Cond.fieldLink RX9 298 "HalfLadders$Pairs" "rights" "[I", Cond.fieldLink RX9 301 "HalfLadders$Liking" "with" "[I", Cond.methodLink RX9 287 yX1_isRest, Cond.instanceMethod yX1_isRest, Cond.selects RX1 yX1_isRest yX1_isRest, Cond.code yX1_isRest cX1_isRest 5 (some .boolean), Cond.methodLink RX9 291 yX9_restsFrom]
def wsX1_reckon : List Cond := .code yX1_reckon cX1_reckon 6 none :: ((wsX1_reckon_r1 ++ wsX1_reckon_r2) ++ wsX10 ++ wsX40 ++ wsX30)
def wsX2_init : List Cond := .code yX2_init cX2_init 1 none :: ([.methodLink RX2 3 objectInit, .instanceMethod objectInit, .code objectInit ⟨#[0xb1]⟩ 1 none, .fieldLink RX2 9 "HalfLadders$Now" "day" "I", .fieldLink RX2 15 "HalfLadders$Now" "climbers" "I", .fieldLink RX2 18 "HalfLadders$Now" "climbed" "I", .fieldLink RX2 21 "HalfLadders$Now" "picked" "I", .fieldLink RX2 24 "HalfLadders$Now" "fallen" "I", .fieldLink RX2 27 "HalfLadders$Now" "theLot" "I", .arrayClass .int, .fieldLink RX2 30 "HalfLadders$Now" "left" "[I"] ++ wsX20)
def wsX2_begin : List Cond := .code yX2_begin cX2_begin 1 none :: ([.fieldLink RX2 9 "HalfLadders$Now" "day" "I", .fieldLink RX2 15 "HalfLadders$Now" "climbers" "I", .fieldLink RX2 18 "HalfLadders$Now" "climbed" "I", .fieldLink RX2 21 "HalfLadders$Now" "picked" "I", .fieldLink RX2 24 "HalfLadders$Now" "fallen" "I"] ++ wsX20)
def wsX2_bearAsTold : List Cond := .code yX2_bearAsTold cX2_bearAsTold 3 none :: ([.fieldLink RX2 34 "HalfLadders$Orchard" "trees" "I", .fieldLink RX2 30 "HalfLadders$Now" "left" "[I", .fieldLink RX2 39 "HalfLadders$Orchard" "baskets" "[I"] ++ wsX30 ++ wsX20)
def wsX2_blossom : List Cond := .code yX2_blossom cX2_blossom 4 none :: ([.fieldLink RX2 34 "HalfLadders$Orchard" "trees" "I", .fieldLink RX2 27 "HalfLadders$Now" "theLot" "I", .constant RX2 42 (1103515245), .fieldLink RX2 30 "HalfLadders$Now" "left" "[I", .fieldLink RX2 39 "HalfLadders$Orchard" "baskets" "[I"] ++ wsX30 ++ wsX20)
def wsX2_become : List Cond := .code yX2_become cX2_become 3 none :: ([.fieldLink RX2 9 "HalfLadders$Now" "day" "I", .fieldLink RX2 15 "HalfLadders$Now" "climbers" "I", .fieldLink RX2 18 "HalfLadders$Now" "climbed" "I", .fieldLink RX2 21 "HalfLadders$Now" "picked" "I", .fieldLink RX2 24 "HalfLadders$Now" "fallen" "I", .fieldLink RX2 27 "HalfLadders$Now" "theLot" "I", .fieldLink RX2 30 "HalfLadders$Now" "left" "[I"] ++ wsX20)
def wsX2_leftOnAll : List Cond := .code yX2_leftOnAll cX2_leftOnAll 4 (some .int) :: ([.fieldLink RX2 34 "HalfLadders$Orchard" "trees" "I", .fieldLink RX2 30 "HalfLadders$Now" "left" "[I"] ++ wsX30 ++ wsX20)
def wsX3_hasTree : List Cond := .code yX3_hasTree cX3_hasTree 2 (some .boolean) :: ([.fieldLink RX3 15 "HalfLadders$Orchard" "trees" "I"] ++ wsX30)
def wsX3_isRipe : List Cond := .code yX3_isRipe cX3_isRipe 3 (some .boolean) :: ([.fieldLink RX3 37 "HalfLadders$Orchard" "ripes" "[I", .methodLink RX3 57 yX3_hasTree, .instanceMethod yX3_hasTree, .selects RX3 yX3_hasTree yX3_hasTree, .initialized RX3, .code yX3_hasTree cX3_hasTree 2 (some .boolean), .fieldLink RX3 15 "HalfLadders$Orchard" "trees" "I"] ++ wsX30)
def wsX2_pickable : List Cond := .code yX2_pickable cX2_pickable 5 (some .int) :: ([.fieldLink RX2 9 "HalfLadders$Now" "day" "I", .fieldLink RX2 18 "HalfLadders$Now" "climbed" "I", .fieldLink RX2 15 "HalfLadders$Now" "climbers" "I", .fieldLink RX2 47 "HalfLadders$Pairs" "bits" "[I", .fieldLink RX2 52 "HalfLadders$Pairs" "ladders" "[I", .fieldLink RX2 55 "HalfLadders$Orchard" "highs" "[I", .fieldLink RX2 58 "HalfLadders$Pairs" "picks" "[I", .fieldLink RX2 30 "HalfLadders$Now" "left" "[I", .methodLink RX2 61 Lib.Math.min.name, .static Lib.Math.min.name, .initialized "java/lang/Math", .code Lib.Math.min.name Lib.Math.min.code 2 (some .int), .methodLink RX2 43 yX3_isRipe, .instanceMethod yX3_isRipe, .selects RX3 yX3_isRipe yX3_isRipe, .initialized RX3, .code yX3_isRipe cX3_isRipe 3 (some .boolean), .fieldLink RX3 37 "HalfLadders$Orchard" "ripes" "[I", .methodLink RX3 57 yX3_hasTree, .instanceMethod yX3_hasTree, .selects RX3 yX3_hasTree yX3_hasTree, .code yX3_hasTree cX3_hasTree 2 (some .boolean), .fieldLink RX3 15 "HalfLadders$Orchard" "trees" "I"] ++ wsX20 ++ wsX40 ++ wsX30)
def wsX2_pick : List Cond := .code yX2_pick cX2_pick 4 none :: ([.fieldLink RX2 15 "HalfLadders$Now" "climbers" "I", .fieldLink RX2 18 "HalfLadders$Now" "climbed" "I", .fieldLink RX2 30 "HalfLadders$Now" "left" "[I", .fieldLink RX2 21 "HalfLadders$Now" "picked" "I"] ++ wsX20)
def wsX2_endDay : List Cond := .code yX2_endDay cX2_endDay 4 (some .int) :: ([.fieldLink RX2 9 "HalfLadders$Now" "day" "I", .fieldLink RX2 15 "HalfLadders$Now" "climbers" "I", .fieldLink RX2 18 "HalfLadders$Now" "climbed" "I", .fieldLink RX2 34 "HalfLadders$Orchard" "trees" "I", .fieldLink RX2 67 "HalfLadders$Orchard" "ripes" "[I", .fieldLink RX2 30 "HalfLadders$Now" "left" "[I", .fieldLink RX2 24 "HalfLadders$Now" "fallen" "I"] ++ wsX20 ++ wsX30)
def wsX3_init : List Cond := .code yX3_init cX3_init 1 none :: ([.methodLink RX3 3 objectInit, .instanceMethod objectInit, .code objectInit ⟨#[0xb1]⟩ 1 none, .fieldLink RX3 9 "HalfLadders$Orchard" "people" "I", .fieldLink RX3 15 "HalfLadders$Orchard" "trees" "I", .arrayClass .int, .fieldLink RX3 18 "HalfLadders$Orchard" "sides" "[I", .fieldLink RX3 22 "HalfLadders$Orchard" "gaps" "[I", .fieldLink RX3 25 "HalfLadders$Orchard" "lengths" "[I", .fieldLink RX3 28 "HalfLadders$Orchard" "paces" "[I", .fieldLink RX3 31 "HalfLadders$Orchard" "quarrels" "[I", .fieldLink RX3 34 "HalfLadders$Orchard" "highs" "[I", .fieldLink RX3 37 "HalfLadders$Orchard" "ripes" "[I", .fieldLink RX3 40 "HalfLadders$Orchard" "baskets" "[I"] ++ wsX30)
def wsX3_empty : List Cond := .code yX3_empty cX3_empty 1 none :: ([.fieldLink RX3 9 "HalfLadders$Orchard" "people" "I", .fieldLink RX3 15 "HalfLadders$Orchard" "trees" "I"] ++ wsX30)
def wsX3_addHalf : List Cond := .code yX3_addHalf cX3_addHalf 5 none :: ([.fieldLink RX3 9 "HalfLadders$Orchard" "people" "I", .fieldLink RX3 18 "HalfLadders$Orchard" "sides" "[I", .fieldLink RX3 22 "HalfLadders$Orchard" "gaps" "[I", .fieldLink RX3 25 "HalfLadders$Orchard" "lengths" "[I", .fieldLink RX3 28 "HalfLadders$Orchard" "paces" "[I", .fieldLink RX3 31 "HalfLadders$Orchard" "quarrels" "[I"] ++ wsX30)
def wsX3_addQuarrel : List Cond := .code yX3_addQuarrel cX3_addQuarrel 3 none :: ([.fieldLink RX3 31 "HalfLadders$Orchard" "quarrels" "[I", .methodLink RX3 43 yX3_hasHalf, .instanceMethod yX3_hasHalf, .selects RX3 yX3_hasHalf yX3_hasHalf, .initialized RX3, .code yX3_hasHalf cX3_hasHalf 2 (some .boolean), .fieldLink RX3 9 "HalfLadders$Orchard" "people" "I"] ++ wsX30)
def wsX3_addTree : List Cond := .code yX3_addTree cX3_addTree 4 none :: ([.fieldLink RX3 15 "HalfLadders$Orchard" "trees" "I", .fieldLink RX3 34 "HalfLadders$Orchard" "highs" "[I", .fieldLink RX3 37 "HalfLadders$Orchard" "ripes" "[I", .fieldLink RX3 40 "HalfLadders$Orchard" "baskets" "[I"] ++ wsX30)
def wsX3_fits : List Cond := .code yX3_fits cX3_fits 3 (some .boolean) :: ([.fieldLink RX3 22 "HalfLadders$Orchard" "gaps" "[I", .methodLink RX3 47 yX3_couldFit, .instanceMethod yX3_couldFit, .selects RX3 yX3_couldFit yX3_couldFit, .initialized RX3, .code yX3_couldFit cX3_couldFit 3 (some .boolean), .fieldLink RX3 18 "HalfLadders$Orchard" "sides" "[I", .fieldLink RX3 31 "HalfLadders$Orchard" "quarrels" "[I", .methodLink RX3 43 yX3_hasHalf, .instanceMethod yX3_hasHalf, .selects RX3 yX3_hasHalf yX3_hasHalf, .code yX3_hasHalf cX3_hasHalf 2 (some .boolean), .fieldLink RX3 9 "HalfLadders$Orchard" "people" "I"] ++ wsX30)
def wsX3_quarrelPairs : List Cond := .code yX3_quarrelPairs cX3_quarrelPairs 3 (some .int) :: ([.fieldLink RX3 9 "HalfLadders$Orchard" "people" "I", .fieldLink RX3 31 "HalfLadders$Orchard" "quarrels" "[I", .methodLink RX3 51 yJ6_bitCount_0f7a4, .static yJ6_bitCount_0f7a4, .initialized RJ6, .code yJ6_bitCount_0f7a4 cJ6_bitCount_0f7a4 1 (some .int), .constant RJ6 265 (1431655765), .constant RJ6 266 (858993459), .constant RJ6 267 (252645135)] ++ wsX30)
def wsX4_init : List Cond := .code yX4_init cX4_init 1 none :: ([.methodLink RX4 3 objectInit, .instanceMethod objectInit, .code objectInit ⟨#[0xb1]⟩ 1 none, .fieldLink RX4 9 "HalfLadders$Pairs" "count" "I", .fieldLink RX4 15 "HalfLadders$Pairs" "allLefts" "I", .arrayClass .int, .fieldLink RX4 18 "HalfLadders$Pairs" "lefts" "[I", .fieldLink RX4 22 "HalfLadders$Pairs" "rights" "[I", .fieldLink RX4 25 "HalfLadders$Pairs" "bits" "[I", .fieldLink RX4 28 "HalfLadders$Pairs" "gaps" "[I", .fieldLink RX4 31 "HalfLadders$Pairs" "ladders" "[I", .fieldLink RX4 34 "HalfLadders$Pairs" "picks" "[I"] ++ wsX40)
def wsX4_listOf_r1 : List Cond := [Cond.fieldLink RX4 37 "HalfLadders$Orchard" "people" "I", Cond.fieldLink RX4 9 "HalfLadders$Pairs" "count" "I", Cond.fieldLink RX4 18 "HalfLadders$Pairs" "lefts" "[I", Cond.fieldLink RX4 22 "HalfLadders$Pairs" "rights" "[I", Cond.fieldLink RX4 25 "HalfLadders$Pairs" "bits" "[I", Cond.fieldLink RX4 28 "HalfLadders$Pairs" "gaps" "[I", Cond.fieldLink RX4 53 "HalfLadders$Orchard" "gaps" "[I", Cond.fieldLink RX4 31 "HalfLadders$Pairs" "ladders" "[I", Cond.fieldLink RX4 54 "HalfLadders$Orchard" "lengths" "[I", Cond.methodLink RX4 57 Lib.Math.min.name, Cond.static Lib.Math.min.name, Cond.initialized "java/lang/Math", Cond.code Lib.Math.min.name Lib.Math.min.code 2 (some .int), Cond.fieldLink RX4 34 "HalfLadders$Pairs" "picks" "[I", Cond.fieldLink RX4 63 "HalfLadders$Orchard" "paces" "[I", Cond.methodLink RX4 49 yX3_fits, Cond.instanceMethod yX3_fits, Cond.selects RX3 yX3_fits yX3_fits, Cond.initialized RX3, Cond.code yX3_fits cX3_fits 3 (some .boolean), Cond.fieldLink RX3 22 "HalfLadders$Orchard" "gaps" "[I", Cond.methodLink RX3 47 yX3_couldFit, Cond.instanceMethod yX3_couldFit, Cond.selects RX3 yX3_couldFit yX3_couldFit]
def wsX4_listOf_r2 : List Cond := [Cond.code yX3_couldFit cX3_couldFit 3 (some .boolean), Cond.fieldLink RX3 18 "HalfLadders$Orchard" "sides" "[I", Cond.fieldLink RX3 31 "HalfLadders$Orchard" "quarrels" "[I", Cond.methodLink RX3 43 yX3_hasHalf, Cond.instanceMethod yX3_hasHalf, Cond.selects RX3 yX3_hasHalf yX3_hasHalf, Cond.code yX3_hasHalf cX3_hasHalf 2 (some .boolean), Cond.fieldLink RX3 9 "HalfLadders$Orchard" "people" "I"]
def wsX4_listOf : List Cond := .code yX4_listOf cX4_listOf 4 none :: ((wsX4_listOf_r1 ++ wsX4_listOf_r2) ++ wsX30 ++ wsX40)
def wsX4_list_r1 : List Cond := [Cond.fieldLink RX4 9 "HalfLadders$Pairs" "count" "I", Cond.fieldLink RX4 15 "HalfLadders$Pairs" "allLefts" "I", Cond.fieldLink RX4 37 "HalfLadders$Orchard" "people" "I", Cond.fieldLink RX4 42 "HalfLadders$Orchard" "sides" "[I", Cond.methodLink RX4 45 yX4_listOf, Cond.instanceMethod yX4_listOf, Cond.selects RX4 yX4_listOf yX4_listOf, Cond.initialized RX4, Cond.code yX4_listOf cX4_listOf 4 none, Cond.fieldLink RX4 18 "HalfLadders$Pairs" "lefts" "[I", Cond.fieldLink RX4 22 "HalfLadders$Pairs" "rights" "[I", Cond.fieldLink RX4 25 "HalfLadders$Pairs" "bits" "[I", Cond.fieldLink RX4 28 "HalfLadders$Pairs" "gaps" "[I", Cond.fieldLink RX4 53 "HalfLadders$Orchard" "gaps" "[I", Cond.fieldLink RX4 31 "HalfLadders$Pairs" "ladders" "[I", Cond.fieldLink RX4 54 "HalfLadders$Orchard" "lengths" "[I", Cond.methodLink RX4 57 Lib.Math.min.name, Cond.static Lib.Math.min.name, Cond.initialized "java/lang/Math", Cond.code Lib.Math.min.name Lib.Math.min.code 2 (some .int), Cond.fieldLink RX4 34 "HalfLadders$Pairs" "picks" "[I", Cond.fieldLink RX4 63 "HalfLadders$Orchard" "paces" "[I", Cond.methodLink RX4 49 yX3_fits, Cond.instanceMethod yX3_fits]
def wsX4_list_r2 : List Cond := [Cond.selects RX3 yX3_fits yX3_fits, Cond.initialized RX3, Cond.code yX3_fits cX3_fits 3 (some .boolean), Cond.fieldLink RX3 22 "HalfLadders$Orchard" "gaps" "[I", Cond.methodLink RX3 47 yX3_couldFit, Cond.instanceMethod yX3_couldFit, Cond.selects RX3 yX3_couldFit yX3_couldFit, Cond.code yX3_couldFit cX3_couldFit 3 (some .boolean), Cond.fieldLink RX3 18 "HalfLadders$Orchard" "sides" "[I", Cond.fieldLink RX3 31 "HalfLadders$Orchard" "quarrels" "[I", Cond.methodLink RX3 43 yX3_hasHalf, Cond.instanceMethod yX3_hasHalf, Cond.selects RX3 yX3_hasHalf yX3_hasHalf, Cond.code yX3_hasHalf cX3_hasHalf 2 (some .boolean), Cond.fieldLink RX3 9 "HalfLadders$Orchard" "people" "I"]
def wsX4_list : List Cond := .code yX4_list cX4_list 3 none :: ((wsX4_list_r1 ++ wsX4_list_r2) ++ wsX40 ++ wsX30)
def wsX4_indexOf : List Cond := .code yX4_indexOf cX4_indexOf 3 (some .int) :: ([.fieldLink RX4 9 "HalfLadders$Pairs" "count" "I", .fieldLink RX4 25 "HalfLadders$Pairs" "bits" "[I"] ++ wsX40)
def wsX4_numberOf : List Cond := .code yX4_numberOf cX4_numberOf 2 (some .int) :: ([.fieldLink RX4 9 "HalfLadders$Pairs" "count" "I", .fieldLink RX4 18 "HalfLadders$Pairs" "lefts" "[I", .fieldLink RX4 22 "HalfLadders$Pairs" "rights" "[I"] ++ wsX40)
def wsX4_howManyWith : List Cond := .code yX4_howManyWith cX4_howManyWith 4 (some .int) :: ([.fieldLink RX4 9 "HalfLadders$Pairs" "count" "I", .fieldLink RX4 25 "HalfLadders$Pairs" "bits" "[I"] ++ wsX40)
def wsX4_leavesMarks : List Cond := .code yX4_leavesMarks cX4_leavesMarks 4 (some .boolean) :: ([.fieldLink RX4 28 "HalfLadders$Pairs" "gaps" "[I", .fieldLink RX4 31 "HalfLadders$Pairs" "ladders" "[I"] ++ wsX40)
def wsX4_howMany : List Cond := .code yX4_howMany cX4_howMany 5 (some .int) :: ([.fieldLink RX4 9 "HalfLadders$Pairs" "count" "I", .methodLink RX4 66 yX4_leavesMarks, .instanceMethod yX4_leavesMarks, .selects RX4 yX4_leavesMarks yX4_leavesMarks, .initialized RX4, .code yX4_leavesMarks cX4_leavesMarks 4 (some .boolean), .fieldLink RX4 28 "HalfLadders$Pairs" "gaps" "[I", .fieldLink RX4 31 "HalfLadders$Pairs" "ladders" "[I"] ++ wsX40)
def wsX4_firstOf : List Cond := .code yX4_firstOf cX4_firstOf 4 (some .int) :: ([.fieldLink RX4 9 "HalfLadders$Pairs" "count" "I", .methodLink RX4 66 yX4_leavesMarks, .instanceMethod yX4_leavesMarks, .selects RX4 yX4_leavesMarks yX4_leavesMarks, .initialized RX4, .code yX4_leavesMarks cX4_leavesMarks 4 (some .boolean), .fieldLink RX4 28 "HalfLadders$Pairs" "gaps" "[I", .fieldLink RX4 31 "HalfLadders$Pairs" "ladders" "[I", .methodLink RX4 70 yX4_numberOf, .instanceMethod yX4_numberOf, .selects RX4 yX4_numberOf yX4_numberOf, .code yX4_numberOf cX4_numberOf 2 (some .int), .fieldLink RX4 18 "HalfLadders$Pairs" "lefts" "[I", .fieldLink RX4 22 "HalfLadders$Pairs" "rights" "[I"] ++ wsX40)
def wsX5_init : List Cond := .code yX5_init cX5_init 1 none :: ([.methodLink RX5 3 objectInit, .instanceMethod objectInit, .code objectInit ⟨#[0xb1]⟩ 1 none, .arrayClass .int, .fieldLink RX5 9 "HalfLadders$Plan" "chosen" "[I", .classLink RX5 15 "[[I", .fieldLink RX5 17 "HalfLadders$Plan" "gains" "[[I", .fieldLink RX5 20 "HalfLadders$Plan" "most" "[[I"] ++ wsX50)
def wsX5_canBeTaken : List Cond := .code yX5_canBeTaken cX5_canBeTaken 4 (some .boolean) :: ([.fieldLink RX5 68 "HalfLadders$Pairs" "allLefts" "I", .methodLink RX5 62 yJ6_bitCount_0f7a4, .static yJ6_bitCount_0f7a4, .initialized RJ6, .code yJ6_bitCount_0f7a4 cJ6_bitCount_0f7a4 1 (some .int), .constant RJ6 265 (1431655765), .constant RJ6 266 (858993459), .constant RJ6 267 (252645135)] ++ wsX40)
def wsX5_canClimb : List Cond := .code yX5_canClimb cX5_canClimb 5 (some .boolean) :: ([.fieldLink RX5 17 "HalfLadders$Plan" "gains" "[[I", .fieldLink RX5 85 "HalfLadders$Pairs" "bits" "[I"] ++ wsX50 ++ wsX40)
def wsX5_with : List Cond := .code yX5_with cX5_with 5 (some .int) :: ([.fieldLink RX5 17 "HalfLadders$Plan" "gains" "[[I", .fieldLink RX5 20 "HalfLadders$Plan" "most" "[[I", .fieldLink RX5 85 "HalfLadders$Pairs" "bits" "[I"] ++ wsX50 ++ wsX40)
def wsX5_mostFrom : List Cond := .code yX5_mostFrom cX5_mostFrom 6 (some .int) :: ([.fieldLink RX5 20 "HalfLadders$Plan" "most" "[[I", .fieldLink RX5 35 "HalfLadders$Pairs" "count" "I", .methodLink RX5 79 Lib.Math.max.name, .static Lib.Math.max.name, .initialized "java/lang/Math", .code Lib.Math.max.name Lib.Math.max.code 2 (some .int), .methodLink RX5 71 yX5_canClimb, .instanceMethod yX5_canClimb, .selects RX5 yX5_canClimb yX5_canClimb, .initialized RX5, .code yX5_canClimb cX5_canClimb 5 (some .boolean), .fieldLink RX5 17 "HalfLadders$Plan" "gains" "[[I", .fieldLink RX5 85 "HalfLadders$Pairs" "bits" "[I", .methodLink RX5 75 yX5_with, .instanceMethod yX5_with, .selects RX5 yX5_with yX5_with, .code yX5_with cX5_with 5 (some .int)] ++ wsX50 ++ wsX40)
def wsX5_firstOfBest : List Cond := .code yX5_firstOfBest cX5_firstOfBest 5 (some .int) :: ([.fieldLink RX5 20 "HalfLadders$Plan" "most" "[[I", .fieldLink RX5 35 "HalfLadders$Pairs" "count" "I", .methodLink RX5 71 yX5_canClimb, .instanceMethod yX5_canClimb, .selects RX5 yX5_canClimb yX5_canClimb, .initialized RX5, .code yX5_canClimb cX5_canClimb 5 (some .boolean), .fieldLink RX5 17 "HalfLadders$Plan" "gains" "[[I", .fieldLink RX5 85 "HalfLadders$Pairs" "bits" "[I", .methodLink RX5 75 yX5_with, .instanceMethod yX5_with, .selects RX5 yX5_with yX5_with, .code yX5_with cX5_with 5 (some .int)] ++ wsX50 ++ wsX40)
def wsX5_choose : List Cond := .code yX5_choose cX5_choose 5 none :: ([.fieldLink RX5 23 "HalfLadders$Orchard" "trees" "I", .fieldLink RX5 9 "HalfLadders$Plan" "chosen" "[I", .fieldLink RX5 85 "HalfLadders$Pairs" "bits" "[I", .methodLink RX5 88 yX5_firstOfBest, .instanceMethod yX5_firstOfBest, .selects RX5 yX5_firstOfBest yX5_firstOfBest, .initialized RX5, .code yX5_firstOfBest cX5_firstOfBest 5 (some .int), .fieldLink RX5 20 "HalfLadders$Plan" "most" "[[I", .fieldLink RX5 35 "HalfLadders$Pairs" "count" "I", .methodLink RX5 71 yX5_canClimb, .instanceMethod yX5_canClimb, .selects RX5 yX5_canClimb yX5_canClimb, .code yX5_canClimb cX5_canClimb 5 (some .boolean), .fieldLink RX5 17 "HalfLadders$Plan" "gains" "[[I", .methodLink RX5 75 yX5_with, .instanceMethod yX5_with, .selects RX5 yX5_with yX5_with, .code yX5_with cX5_with 5 (some .int)] ++ wsX30 ++ wsX50 ++ wsX40)
def wsX5_make_r1 : List Cond := [Cond.fieldLink RX5 20 "HalfLadders$Plan" "most" "[[I", Cond.fieldLink RX5 23 "HalfLadders$Orchard" "trees" "I", Cond.fieldLink RX5 35 "HalfLadders$Pairs" "count" "I", Cond.fieldLink RX5 17 "HalfLadders$Plan" "gains" "[[I", Cond.methodLink RX5 29 yJ7_fill_53178, Cond.static yJ7_fill_53178, Cond.initialized RJ7, Cond.code yJ7_fill_53178 cJ7_fill_53178 4 none, Cond.methodLink RX5 40 yX2_pickable, Cond.instanceMethod yX2_pickable, Cond.selects RX2 yX2_pickable yX2_pickable, Cond.initialized RX2, Cond.code yX2_pickable cX2_pickable 5 (some .int), Cond.fieldLink RX2 9 "HalfLadders$Now" "day" "I", Cond.fieldLink RX2 18 "HalfLadders$Now" "climbed" "I", Cond.fieldLink RX2 15 "HalfLadders$Now" "climbers" "I", Cond.fieldLink RX2 47 "HalfLadders$Pairs" "bits" "[I", Cond.fieldLink RX2 52 "HalfLadders$Pairs" "ladders" "[I", Cond.fieldLink RX2 55 "HalfLadders$Orchard" "highs" "[I", Cond.fieldLink RX2 58 "HalfLadders$Pairs" "picks" "[I", Cond.fieldLink RX2 30 "HalfLadders$Now" "left" "[I", Cond.methodLink RX2 61 Lib.Math.min.name, Cond.static Lib.Math.min.name, Cond.initialized "java/lang/Math"]
def wsX5_make_r2 : List Cond := [Cond.code Lib.Math.min.name Lib.Math.min.code 2 (some .int), Cond.methodLink RX2 43 yX3_isRipe, Cond.instanceMethod yX3_isRipe, Cond.selects RX3 yX3_isRipe yX3_isRipe, Cond.initialized RX3, Cond.code yX3_isRipe cX3_isRipe 3 (some .boolean), Cond.fieldLink RX3 37 "HalfLadders$Orchard" "ripes" "[I", Cond.methodLink RX3 57 yX3_hasTree, Cond.instanceMethod yX3_hasTree, Cond.selects RX3 yX3_hasTree yX3_hasTree, Cond.code yX3_hasTree cX3_hasTree 2 (some .boolean), Cond.fieldLink RX3 15 "HalfLadders$Orchard" "trees" "I", Cond.methodLink RX5 46 yX3_everybody, Cond.instanceMethod yX3_everybody, Cond.selects RX3 yX3_everybody yX3_everybody, Cond.code yX3_everybody cX3_everybody 1 (some .int), Cond.fieldLink RX3 9 "HalfLadders$Orchard" "people" "I", Cond.methodLink RX5 50 yX5_canBeTaken, Cond.static yX5_canBeTaken, Cond.initialized RX5, Cond.code yX5_canBeTaken cX5_canBeTaken 4 (some .boolean), Cond.fieldLink RX5 68 "HalfLadders$Pairs" "allLefts" "I", Cond.methodLink RX5 62 yJ6_bitCount_0f7a4, Cond.static yJ6_bitCount_0f7a4]
def wsX5_make_r3 : List Cond := [Cond.initialized RJ6, Cond.code yJ6_bitCount_0f7a4 cJ6_bitCount_0f7a4 1 (some .int), Cond.constant RJ6 265 (1431655765), Cond.constant RJ6 266 (858993459), Cond.constant RJ6 267 (252645135), Cond.methodLink RX5 54 yX5_mostFrom, Cond.instanceMethod yX5_mostFrom, Cond.selects RX5 yX5_mostFrom yX5_mostFrom, Cond.code yX5_mostFrom cX5_mostFrom 6 (some .int), Cond.methodLink RX5 79 Lib.Math.max.name, Cond.static Lib.Math.max.name, Cond.code Lib.Math.max.name Lib.Math.max.code 2 (some .int), Cond.methodLink RX5 71 yX5_canClimb, Cond.instanceMethod yX5_canClimb, Cond.selects RX5 yX5_canClimb yX5_canClimb, Cond.code yX5_canClimb cX5_canClimb 5 (some .boolean), Cond.fieldLink RX5 85 "HalfLadders$Pairs" "bits" "[I", Cond.methodLink RX5 75 yX5_with, Cond.instanceMethod yX5_with, Cond.selects RX5 yX5_with yX5_with, Cond.code yX5_with cX5_with 5 (some .int), Cond.methodLink RX5 58 yX5_choose, Cond.instanceMethod yX5_choose, Cond.selects RX5 yX5_choose yX5_choose]
def wsX5_make_r4 : List Cond := [Cond.code yX5_choose cX5_choose 5 none, Cond.fieldLink RX5 9 "HalfLadders$Plan" "chosen" "[I", Cond.methodLink RX5 88 yX5_firstOfBest, Cond.instanceMethod yX5_firstOfBest, Cond.selects RX5 yX5_firstOfBest yX5_firstOfBest, Cond.code yX5_firstOfBest cX5_firstOfBest 5 (some .int)]
def wsX5_make : List Cond := .code yX5_make cX5_make 6 (some .int) :: ((wsX5_make_r1 ++ (wsX5_make_r2 ++ (wsX5_make_r3 ++ wsX5_make_r4))) ++ wsX50 ++ wsX30 ++ wsX40 ++ wsX20)
def wsX5_carryOut : List Cond := .code yX5_carryOut cX5_carryOut 6 none :: ([.fieldLink RX5 23 "HalfLadders$Orchard" "trees" "I", .fieldLink RX5 9 "HalfLadders$Plan" "chosen" "[I", .fieldLink RX5 85 "HalfLadders$Pairs" "bits" "[I", .fieldLink RX5 17 "HalfLadders$Plan" "gains" "[[I", .methodLink RX5 91 yX2_pick, .instanceMethod yX2_pick, .selects RX2 yX2_pick yX2_pick, .initialized RX2, .code yX2_pick cX2_pick 4 none, .fieldLink RX2 15 "HalfLadders$Now" "climbers" "I", .fieldLink RX2 18 "HalfLadders$Now" "climbed" "I", .fieldLink RX2 30 "HalfLadders$Now" "left" "[I", .fieldLink RX2 21 "HalfLadders$Now" "picked" "I"] ++ wsX30 ++ wsX50 ++ wsX40 ++ wsX20)
def wsX6_init : List Cond := .code yX6_init cX6_init 2 none :: ([.methodLink RX6 3 objectInit, .instanceMethod objectInit, .code objectInit ⟨#[0xb1]⟩ 1 none, .fieldLink RX6 9 "HalfLadders$Reader" "looked" "I", .fieldLink RX6 15 "HalfLadders$Reader" "token" "I", .fieldLink RX6 18 "HalfLadders$Reader" "value" "I", .fieldLink RX6 21 "HalfLadders$Reader" "text" "LHalfLadders$Text;"] ++ wsX60)
def wsX8_at : List Cond := .code yX8_at cX8_at 2 (some .int) :: ([.fieldLink RX8 15 "HalfLadders$Text" "length" "I", .fieldLink RX8 9 "HalfLadders$Text" "bytes" "[B"] ++ wsX80)
def wsX8_isLetter : List Cond := .code yX8_isLetter cX8_isLetter 1 (some .boolean) :: ([])
def wsX8_isDigit : List Cond := .code yX8_isDigit cX8_isDigit 1 (some .boolean) :: ([])
def wsX8_endOfToken : List Cond := .code yX8_endOfToken cX8_endOfToken 3 (some .int) :: ([.fieldLink RX8 15 "HalfLadders$Text" "length" "I", .methodLink RX8 29 yX8_at, .instanceMethod yX8_at, .selects RX8 yX8_at yX8_at, .initialized RX8, .code yX8_at cX8_at 2 (some .int), .fieldLink RX8 9 "HalfLadders$Text" "bytes" "[B", .methodLink RX8 48 yX8_isLetter, .static yX8_isLetter, .code yX8_isLetter cX8_isLetter 1 (some .boolean), .methodLink RX8 52 yX8_isDigit, .static yX8_isDigit, .code yX8_isDigit cX8_isDigit 1 (some .boolean)] ++ wsX80)
def wsJ0_coder_7d493 : List Cond := .code yJ0_coder_7d493 cJ0_coder_7d493 1 (some .byte) :: ([.fieldLink RJ0 38 "java/lang/String" "COMPACT_STRINGS" "Z", .fieldLink RJ0 15 "java/lang/String" "coder" "B"])
def wsJ0_length_8abf5 : List Cond := .code yJ0_length_8abf5 cJ0_length_8abf5 1 (some .int) :: ([.fieldLink RJ0 9 "java/lang/String" "value" "[B", .methodLink RJ0 335 yJ0_coder_7d493, .instanceMethod yJ0_coder_7d493, .selects RJ0 yJ0_coder_7d493 yJ0_coder_7d493, .initialized RJ0, .code yJ0_coder_7d493 cJ0_coder_7d493 1 (some .byte), .fieldLink RJ0 38 "java/lang/String" "COMPACT_STRINGS" "Z", .fieldLink RJ0 15 "java/lang/String" "coder" "B"])
def wsJ0_isLatin1_aae02 : List Cond := .code yJ0_isLatin1_aae02 cJ0_isLatin1_aae02 1 (some .boolean) :: ([.fieldLink RJ0 38 "java/lang/String" "COMPACT_STRINGS" "Z", .fieldLink RJ0 15 "java/lang/String" "coder" "B"])
def wsJ3_checkIndex_8e157 : List Cond := .code yJ3_checkIndex_8e157 cJ3_checkIndex_8e157 3 (some .int) :: ([])
def wsJ0_checkIndex_df160 : List Cond := .code yJ0_checkIndex_df160 cJ0_checkIndex_df160 2 none :: ([.fieldLink RJ0 1053 "jdk/internal/util/Preconditions" "SIOOBE_FORMATTER" "Ljava/util/function/BiFunction;", .methodLink RJ0 1059 yJ3_checkIndex_8e157, .static yJ3_checkIndex_8e157, .initialized RJ3, .code yJ3_checkIndex_8e157 cJ3_checkIndex_8e157 3 (some .int)])
def wsJ1_charAt_3b067 : List Cond := .code yJ1_charAt_3b067 cJ1_charAt_3b067 2 (some .char) :: ([.methodLink RJ1 9 yJ0_checkIndex_df160, .static yJ0_checkIndex_df160, .initialized RJ0, .code yJ0_checkIndex_df160 cJ0_checkIndex_df160 2 none, .fieldLink RJ0 1053 "jdk/internal/util/Preconditions" "SIOOBE_FORMATTER" "Ljava/util/function/BiFunction;", .methodLink RJ0 1059 yJ3_checkIndex_8e157, .static yJ3_checkIndex_8e157, .initialized RJ3, .code yJ3_checkIndex_8e157 cJ3_checkIndex_8e157 3 (some .int)])
def wsJ2_length_9d52b : List Cond := .code yJ2_length_9d52b cJ2_length_9d52b 1 (some .int) :: ([])
def wsJ2_checkIndex_2214a : List Cond := .code yJ2_checkIndex_2214a cJ2_checkIndex_2214a 2 none :: ([.methodLink RJ2 48 yJ2_length_9d52b, .static yJ2_length_9d52b, .initialized RJ2, .code yJ2_length_9d52b cJ2_length_9d52b 1 (some .int), .methodLink RJ2 414 yJ0_checkIndex_df160, .static yJ0_checkIndex_df160, .initialized RJ0, .code yJ0_checkIndex_df160 cJ0_checkIndex_df160 2 none, .fieldLink RJ0 1053 "jdk/internal/util/Preconditions" "SIOOBE_FORMATTER" "Ljava/util/function/BiFunction;", .methodLink RJ0 1059 yJ3_checkIndex_8e157, .static yJ3_checkIndex_8e157, .initialized RJ3, .code yJ3_checkIndex_8e157 cJ3_checkIndex_8e157 3 (some .int)])
def wsJ2_getChar_3b067 : List Cond := .code yJ2_getChar_3b067 cJ2_getChar_3b067 2 (some .char) :: ([.fieldLink RJ2 44 "java/lang/StringUTF16" "$assertionsDisabled" "Z", .fieldLink RJ2 59 "java/lang/StringUTF16" "HI_BYTE_SHIFT" "I", .fieldLink RJ2 63 "java/lang/StringUTF16" "LO_BYTE_SHIFT" "I", .methodLink RJ2 48 yJ2_length_9d52b, .static yJ2_length_9d52b, .initialized RJ2, .code yJ2_length_9d52b cJ2_length_9d52b 1 (some .int)])
def wsJ2_charAt_3b067 : List Cond := .code yJ2_charAt_3b067 cJ2_charAt_3b067 2 (some .char) :: ([.methodLink RJ2 67 yJ2_checkIndex_2214a, .static yJ2_checkIndex_2214a, .initialized RJ2, .code yJ2_checkIndex_2214a cJ2_checkIndex_2214a 2 none, .methodLink RJ2 48 yJ2_length_9d52b, .static yJ2_length_9d52b, .code yJ2_length_9d52b cJ2_length_9d52b 1 (some .int), .methodLink RJ2 414 yJ0_checkIndex_df160, .static yJ0_checkIndex_df160, .initialized RJ0, .code yJ0_checkIndex_df160 cJ0_checkIndex_df160 2 none, .fieldLink RJ0 1053 "jdk/internal/util/Preconditions" "SIOOBE_FORMATTER" "Ljava/util/function/BiFunction;", .methodLink RJ0 1059 yJ3_checkIndex_8e157, .static yJ3_checkIndex_8e157, .initialized RJ3, .code yJ3_checkIndex_8e157 cJ3_checkIndex_8e157 3 (some .int), .methodLink RJ2 71 yJ2_getChar_3b067, .static yJ2_getChar_3b067, .code yJ2_getChar_3b067 cJ2_getChar_3b067 2 (some .char), .fieldLink RJ2 44 "java/lang/StringUTF16" "$assertionsDisabled" "Z", .fieldLink RJ2 59 "java/lang/StringUTF16" "HI_BYTE_SHIFT" "I", .fieldLink RJ2 63 "java/lang/StringUTF16" "LO_BYTE_SHIFT" "I"])
def wsJ0_charAt_5068e_r1 : List Cond := [Cond.fieldLink RJ0 9 "java/lang/String" "value" "[B", Cond.methodLink RJ0 492 yJ0_isLatin1_aae02, Cond.instanceMethod yJ0_isLatin1_aae02, Cond.selects RJ0 yJ0_isLatin1_aae02 yJ0_isLatin1_aae02, Cond.initialized RJ0, Cond.code yJ0_isLatin1_aae02 cJ0_isLatin1_aae02 1 (some .boolean), Cond.fieldLink RJ0 38 "java/lang/String" "COMPACT_STRINGS" "Z", Cond.fieldLink RJ0 15 "java/lang/String" "coder" "B", Cond.methodLink RJ0 495 yJ1_charAt_3b067, Cond.static yJ1_charAt_3b067, Cond.initialized RJ1, Cond.code yJ1_charAt_3b067 cJ1_charAt_3b067 2 (some .char), Cond.methodLink RJ1 9 yJ0_checkIndex_df160, Cond.static yJ0_checkIndex_df160, Cond.code yJ0_checkIndex_df160 cJ0_checkIndex_df160 2 none, Cond.fieldLink RJ0 1053 "jdk/internal/util/Preconditions" "SIOOBE_FORMATTER" "Ljava/util/function/BiFunction;", Cond.methodLink RJ0 1059 yJ3_checkIndex_8e157, Cond.static yJ3_checkIndex_8e157, Cond.initialized RJ3, Cond.code yJ3_checkIndex_8e157 cJ3_checkIndex_8e157 3 (some .int), Cond.methodLink RJ0 498 yJ2_charAt_3b067, Cond.static yJ2_charAt_3b067, Cond.initialized RJ2, Cond.code yJ2_charAt_3b067 cJ2_charAt_3b067 2 (some .char)]
def wsJ0_charAt_5068e_r2 : List Cond := [Cond.methodLink RJ2 67 yJ2_checkIndex_2214a, Cond.static yJ2_checkIndex_2214a, Cond.code yJ2_checkIndex_2214a cJ2_checkIndex_2214a 2 none, Cond.methodLink RJ2 48 yJ2_length_9d52b, Cond.static yJ2_length_9d52b, Cond.code yJ2_length_9d52b cJ2_length_9d52b 1 (some .int), Cond.methodLink RJ2 414 yJ0_checkIndex_df160, Cond.methodLink RJ2 71 yJ2_getChar_3b067, Cond.static yJ2_getChar_3b067, Cond.code yJ2_getChar_3b067 cJ2_getChar_3b067 2 (some .char), Cond.fieldLink RJ2 44 "java/lang/StringUTF16" "$assertionsDisabled" "Z", Cond.fieldLink RJ2 59 "java/lang/StringUTF16" "HI_BYTE_SHIFT" "I", Cond.fieldLink RJ2 63 "java/lang/StringUTF16" "LO_BYTE_SHIFT" "I"]
def wsJ0_charAt_5068e : List Cond := .code yJ0_charAt_5068e cJ0_charAt_5068e 2 (some .char) :: ((wsJ0_charAt_5068e_r1 ++ wsJ0_charAt_5068e_r2))
def wsX8_spells_r1 : List Cond := [Cond.methodLink RX8 67 yJ0_length_8abf5, Cond.instanceMethod yJ0_length_8abf5, Cond.selects RJ0 yJ0_length_8abf5 yJ0_length_8abf5, Cond.initialized RJ0, Cond.code yJ0_length_8abf5 cJ0_length_8abf5 1 (some .int), Cond.fieldLink RJ0 9 "java/lang/String" "value" "[B", Cond.methodLink RJ0 335 yJ0_coder_7d493, Cond.instanceMethod yJ0_coder_7d493, Cond.selects RJ0 yJ0_coder_7d493 yJ0_coder_7d493, Cond.code yJ0_coder_7d493 cJ0_coder_7d493 1 (some .byte), Cond.fieldLink RJ0 38 "java/lang/String" "COMPACT_STRINGS" "Z", Cond.fieldLink RJ0 15 "java/lang/String" "coder" "B", Cond.methodLink RX8 29 yX8_at, Cond.instanceMethod yX8_at, Cond.selects RX8 yX8_at yX8_at, Cond.initialized RX8, Cond.code yX8_at cX8_at 2 (some .int), Cond.fieldLink RX8 15 "HalfLadders$Text" "length" "I", Cond.fieldLink RX8 9 "HalfLadders$Text" "bytes" "[B", Cond.methodLink RX8 72 yJ0_charAt_5068e, Cond.instanceMethod yJ0_charAt_5068e, Cond.selects RJ0 yJ0_charAt_5068e yJ0_charAt_5068e, Cond.code yJ0_charAt_5068e cJ0_charAt_5068e 2 (some .char), Cond.methodLink RJ0 492 yJ0_isLatin1_aae02]
def wsX8_spells_r2 : List Cond := [Cond.instanceMethod yJ0_isLatin1_aae02, Cond.selects RJ0 yJ0_isLatin1_aae02 yJ0_isLatin1_aae02, Cond.code yJ0_isLatin1_aae02 cJ0_isLatin1_aae02 1 (some .boolean), Cond.methodLink RJ0 495 yJ1_charAt_3b067, Cond.static yJ1_charAt_3b067, Cond.initialized RJ1, Cond.code yJ1_charAt_3b067 cJ1_charAt_3b067 2 (some .char), Cond.methodLink RJ1 9 yJ0_checkIndex_df160, Cond.static yJ0_checkIndex_df160, Cond.code yJ0_checkIndex_df160 cJ0_checkIndex_df160 2 none, Cond.fieldLink RJ0 1053 "jdk/internal/util/Preconditions" "SIOOBE_FORMATTER" "Ljava/util/function/BiFunction;", Cond.methodLink RJ0 1059 yJ3_checkIndex_8e157, Cond.static yJ3_checkIndex_8e157, Cond.initialized RJ3, Cond.code yJ3_checkIndex_8e157 cJ3_checkIndex_8e157 3 (some .int), Cond.methodLink RJ0 498 yJ2_charAt_3b067, Cond.static yJ2_charAt_3b067, Cond.initialized RJ2, Cond.code yJ2_charAt_3b067 cJ2_charAt_3b067 2 (some .char), Cond.methodLink RJ2 67 yJ2_checkIndex_2214a, Cond.static yJ2_checkIndex_2214a, Cond.code yJ2_checkIndex_2214a cJ2_checkIndex_2214a 2 none, Cond.methodLink RJ2 48 yJ2_length_9d52b, Cond.static yJ2_length_9d52b]
def wsX8_spells_r3 : List Cond := [Cond.code yJ2_length_9d52b cJ2_length_9d52b 1 (some .int), Cond.methodLink RJ2 414 yJ0_checkIndex_df160, Cond.methodLink RJ2 71 yJ2_getChar_3b067, Cond.static yJ2_getChar_3b067, Cond.code yJ2_getChar_3b067 cJ2_getChar_3b067 2 (some .char), Cond.fieldLink RJ2 44 "java/lang/StringUTF16" "$assertionsDisabled" "Z", Cond.fieldLink RJ2 59 "java/lang/StringUTF16" "HI_BYTE_SHIFT" "I", Cond.fieldLink RJ2 63 "java/lang/StringUTF16" "LO_BYTE_SHIFT" "I"]
def wsX8_spells : List Cond := .code yX8_spells cX8_spells 5 (some .boolean) :: ((wsX8_spells_r1 ++ (wsX8_spells_r2 ++ wsX8_spells_r3)) ++ wsX80)
def wsX8_tokenOf_r1 : List Cond := [Cond.methodLink RX8 29 yX8_at, Cond.instanceMethod yX8_at, Cond.selects RX8 yX8_at yX8_at, Cond.initialized RX8, Cond.code yX8_at cX8_at 2 (some .int), Cond.fieldLink RX8 15 "HalfLadders$Text" "length" "I", Cond.fieldLink RX8 9 "HalfLadders$Text" "bytes" "[B", Cond.methodLink RX8 52 yX8_isDigit, Cond.static yX8_isDigit, Cond.code yX8_isDigit cX8_isDigit 1 (some .boolean), Cond.methodLink RX8 57 yX8_spells, Cond.instanceMethod yX8_spells, Cond.selects RX8 yX8_spells yX8_spells, Cond.code yX8_spells cX8_spells 5 (some .boolean), Cond.methodLink RX8 67 yJ0_length_8abf5, Cond.instanceMethod yJ0_length_8abf5, Cond.selects RJ0 yJ0_length_8abf5 yJ0_length_8abf5, Cond.initialized RJ0, Cond.code yJ0_length_8abf5 cJ0_length_8abf5 1 (some .int), Cond.fieldLink RJ0 9 "java/lang/String" "value" "[B", Cond.methodLink RJ0 335 yJ0_coder_7d493, Cond.instanceMethod yJ0_coder_7d493, Cond.selects RJ0 yJ0_coder_7d493 yJ0_coder_7d493, Cond.code yJ0_coder_7d493 cJ0_coder_7d493 1 (some .byte)]
def wsX8_tokenOf_r2 : List Cond := [Cond.fieldLink RJ0 38 "java/lang/String" "COMPACT_STRINGS" "Z", Cond.fieldLink RJ0 15 "java/lang/String" "coder" "B", Cond.methodLink RX8 72 yJ0_charAt_5068e, Cond.instanceMethod yJ0_charAt_5068e, Cond.selects RJ0 yJ0_charAt_5068e yJ0_charAt_5068e, Cond.code yJ0_charAt_5068e cJ0_charAt_5068e 2 (some .char), Cond.methodLink RJ0 492 yJ0_isLatin1_aae02, Cond.instanceMethod yJ0_isLatin1_aae02, Cond.selects RJ0 yJ0_isLatin1_aae02 yJ0_isLatin1_aae02, Cond.code yJ0_isLatin1_aae02 cJ0_isLatin1_aae02 1 (some .boolean), Cond.methodLink RJ0 495 yJ1_charAt_3b067, Cond.static yJ1_charAt_3b067, Cond.initialized RJ1, Cond.code yJ1_charAt_3b067 cJ1_charAt_3b067 2 (some .char), Cond.methodLink RJ1 9 yJ0_checkIndex_df160, Cond.static yJ0_checkIndex_df160, Cond.code yJ0_checkIndex_df160 cJ0_checkIndex_df160 2 none, Cond.fieldLink RJ0 1053 "jdk/internal/util/Preconditions" "SIOOBE_FORMATTER" "Ljava/util/function/BiFunction;", Cond.methodLink RJ0 1059 yJ3_checkIndex_8e157, Cond.static yJ3_checkIndex_8e157, Cond.initialized RJ3, Cond.code yJ3_checkIndex_8e157 cJ3_checkIndex_8e157 3 (some .int), Cond.methodLink RJ0 498 yJ2_charAt_3b067, Cond.static yJ2_charAt_3b067]
def wsX8_tokenOf_r3 : List Cond := [Cond.initialized RJ2, Cond.code yJ2_charAt_3b067 cJ2_charAt_3b067 2 (some .char), Cond.methodLink RJ2 67 yJ2_checkIndex_2214a, Cond.static yJ2_checkIndex_2214a, Cond.code yJ2_checkIndex_2214a cJ2_checkIndex_2214a 2 none, Cond.methodLink RJ2 48 yJ2_length_9d52b, Cond.static yJ2_length_9d52b, Cond.code yJ2_length_9d52b cJ2_length_9d52b 1 (some .int), Cond.methodLink RJ2 414 yJ0_checkIndex_df160, Cond.methodLink RJ2 71 yJ2_getChar_3b067, Cond.static yJ2_getChar_3b067, Cond.code yJ2_getChar_3b067 cJ2_getChar_3b067 2 (some .char), Cond.fieldLink RJ2 44 "java/lang/StringUTF16" "$assertionsDisabled" "Z", Cond.fieldLink RJ2 59 "java/lang/StringUTF16" "HI_BYTE_SHIFT" "I", Cond.fieldLink RJ2 63 "java/lang/StringUTF16" "LO_BYTE_SHIFT" "I"]
def wsX8_tokenOf : List Cond := .code yX8_tokenOf cX8_tokenOf 5 (some .int) :: ((wsX8_tokenOf_r1 ++ (wsX8_tokenOf_r2 ++ wsX8_tokenOf_r3)) ++ wsX80)
def wsX8_numberAt : List Cond := .code yX8_numberAt cX8_numberAt 5 (some .int) :: ([.methodLink RX8 29 yX8_at, .instanceMethod yX8_at, .selects RX8 yX8_at yX8_at, .initialized RX8, .code yX8_at cX8_at 2 (some .int), .fieldLink RX8 15 "HalfLadders$Text" "length" "I", .fieldLink RX8 9 "HalfLadders$Text" "bytes" "[B"] ++ wsX80)
def wsX8_cutIntoTokens_r1 : List Cond := [Cond.fieldLink RX8 15 "HalfLadders$Text" "length" "I", Cond.fieldLink RX8 23 "HalfLadders$Text" "places" "[I", Cond.fieldLink RX8 19 "HalfLadders$Text" "tokens" "[I", Cond.fieldLink RX8 26 "HalfLadders$Text" "values" "[I", Cond.methodLink RX8 43 Lib.Math.max.name, Cond.static Lib.Math.max.name, Cond.initialized "java/lang/Math", Cond.code Lib.Math.max.name Lib.Math.max.code 2 (some .int), Cond.methodLink RX8 29 yX8_at, Cond.instanceMethod yX8_at, Cond.selects RX8 yX8_at yX8_at, Cond.initialized RX8, Cond.code yX8_at cX8_at 2 (some .int), Cond.fieldLink RX8 9 "HalfLadders$Text" "bytes" "[B", Cond.methodLink RX8 33 yX8_endOfToken, Cond.instanceMethod yX8_endOfToken, Cond.selects RX8 yX8_endOfToken yX8_endOfToken, Cond.code yX8_endOfToken cX8_endOfToken 3 (some .int), Cond.methodLink RX8 48 yX8_isLetter, Cond.static yX8_isLetter, Cond.code yX8_isLetter cX8_isLetter 1 (some .boolean), Cond.methodLink RX8 52 yX8_isDigit, Cond.static yX8_isDigit, Cond.code yX8_isDigit cX8_isDigit 1 (some .boolean)]
def wsX8_cutIntoTokens_r2 : List Cond := [Cond.methodLink RX8 36 yX8_tokenOf, Cond.instanceMethod yX8_tokenOf, Cond.selects RX8 yX8_tokenOf yX8_tokenOf, Cond.code yX8_tokenOf cX8_tokenOf 5 (some .int), Cond.methodLink RX8 57 yX8_spells, Cond.instanceMethod yX8_spells, Cond.selects RX8 yX8_spells yX8_spells, Cond.code yX8_spells cX8_spells 5 (some .boolean), Cond.methodLink RX8 67 yJ0_length_8abf5, Cond.instanceMethod yJ0_length_8abf5, Cond.selects RJ0 yJ0_length_8abf5 yJ0_length_8abf5, Cond.initialized RJ0, Cond.code yJ0_length_8abf5 cJ0_length_8abf5 1 (some .int), Cond.fieldLink RJ0 9 "java/lang/String" "value" "[B", Cond.methodLink RJ0 335 yJ0_coder_7d493, Cond.instanceMethod yJ0_coder_7d493, Cond.selects RJ0 yJ0_coder_7d493 yJ0_coder_7d493, Cond.code yJ0_coder_7d493 cJ0_coder_7d493 1 (some .byte), Cond.fieldLink RJ0 38 "java/lang/String" "COMPACT_STRINGS" "Z", Cond.fieldLink RJ0 15 "java/lang/String" "coder" "B", Cond.methodLink RX8 72 yJ0_charAt_5068e, Cond.instanceMethod yJ0_charAt_5068e, Cond.selects RJ0 yJ0_charAt_5068e yJ0_charAt_5068e, Cond.code yJ0_charAt_5068e cJ0_charAt_5068e 2 (some .char)]
def wsX8_cutIntoTokens_r3 : List Cond := [Cond.methodLink RJ0 492 yJ0_isLatin1_aae02, Cond.instanceMethod yJ0_isLatin1_aae02, Cond.selects RJ0 yJ0_isLatin1_aae02 yJ0_isLatin1_aae02, Cond.code yJ0_isLatin1_aae02 cJ0_isLatin1_aae02 1 (some .boolean), Cond.methodLink RJ0 495 yJ1_charAt_3b067, Cond.static yJ1_charAt_3b067, Cond.initialized RJ1, Cond.code yJ1_charAt_3b067 cJ1_charAt_3b067 2 (some .char), Cond.methodLink RJ1 9 yJ0_checkIndex_df160, Cond.static yJ0_checkIndex_df160, Cond.code yJ0_checkIndex_df160 cJ0_checkIndex_df160 2 none, Cond.fieldLink RJ0 1053 "jdk/internal/util/Preconditions" "SIOOBE_FORMATTER" "Ljava/util/function/BiFunction;", Cond.methodLink RJ0 1059 yJ3_checkIndex_8e157, Cond.static yJ3_checkIndex_8e157, Cond.initialized RJ3, Cond.code yJ3_checkIndex_8e157 cJ3_checkIndex_8e157 3 (some .int), Cond.methodLink RJ0 498 yJ2_charAt_3b067, Cond.static yJ2_charAt_3b067, Cond.initialized RJ2, Cond.code yJ2_charAt_3b067 cJ2_charAt_3b067 2 (some .char), Cond.methodLink RJ2 67 yJ2_checkIndex_2214a, Cond.static yJ2_checkIndex_2214a, Cond.code yJ2_checkIndex_2214a cJ2_checkIndex_2214a 2 none, Cond.methodLink RJ2 48 yJ2_length_9d52b]
def wsX8_cutIntoTokens_r4 : List Cond := [Cond.static yJ2_length_9d52b, Cond.code yJ2_length_9d52b cJ2_length_9d52b 1 (some .int), Cond.methodLink RJ2 414 yJ0_checkIndex_df160, Cond.methodLink RJ2 71 yJ2_getChar_3b067, Cond.static yJ2_getChar_3b067, Cond.code yJ2_getChar_3b067 cJ2_getChar_3b067 2 (some .char), Cond.fieldLink RJ2 44 "java/lang/StringUTF16" "$assertionsDisabled" "Z", Cond.fieldLink RJ2 59 "java/lang/StringUTF16" "HI_BYTE_SHIFT" "I", Cond.fieldLink RJ2 63 "java/lang/StringUTF16" "LO_BYTE_SHIFT" "I", Cond.methodLink RX8 40 yX8_numberAt, Cond.instanceMethod yX8_numberAt, Cond.selects RX8 yX8_numberAt yX8_numberAt, Cond.code yX8_numberAt cX8_numberAt 5 (some .int)]
def wsX8_cutIntoTokens : List Cond := .code yX8_cutIntoTokens cX8_cutIntoTokens 4 none :: ((wsX8_cutIntoTokens_r1 ++ (wsX8_cutIntoTokens_r2 ++ (wsX8_cutIntoTokens_r3 ++ wsX8_cutIntoTokens_r4))) ++ wsX80)
def wsX6_look : List Cond := .code yX6_look cX6_look 1 none :: ([.fieldLink RX6 9 "HalfLadders$Reader" "looked" "I", .methodLink RX6 46 Lib.Math.min.name, .static Lib.Math.min.name, .initialized "java/lang/Math", .code Lib.Math.min.name Lib.Math.min.code 2 (some .int), .fieldLink RX6 21 "HalfLadders$Reader" "text" "LHalfLadders$Text;", .fieldLink RX6 52 "HalfLadders$Text" "tokens" "[I", .fieldLink RX6 15 "HalfLadders$Reader" "token" "I", .fieldLink RX6 55 "HalfLadders$Text" "values" "[I", .fieldLink RX6 18 "HalfLadders$Reader" "value" "I"] ++ wsX60 ++ wsX80)
def wsX6_advance : List Cond := .code yX6_advance cX6_advance 1 none :: ([.fieldLink RX6 9 "HalfLadders$Reader" "looked" "I", .methodLink RX6 35 yX6_look, .instanceMethod yX6_look, .selects RX6 yX6_look yX6_look, .initialized RX6, .code yX6_look cX6_look 1 none, .methodLink RX6 46 Lib.Math.min.name, .static Lib.Math.min.name, .initialized "java/lang/Math", .code Lib.Math.min.name Lib.Math.min.code 2 (some .int), .fieldLink RX6 21 "HalfLadders$Reader" "text" "LHalfLadders$Text;", .fieldLink RX6 52 "HalfLadders$Text" "tokens" "[I", .fieldLink RX6 15 "HalfLadders$Reader" "token" "I", .fieldLink RX6 55 "HalfLadders$Text" "values" "[I", .fieldLink RX6 18 "HalfLadders$Reader" "value" "I"] ++ wsX60 ++ wsX80)
def wsX6_readNumber : List Cond := .code yX6_readNumber cX6_readNumber 3 (some .boolean) :: ([.fieldLink RX6 15 "HalfLadders$Reader" "token" "I", .fieldLink RX6 18 "HalfLadders$Reader" "value" "I", .methodLink RX6 94 yX6_advance, .instanceMethod yX6_advance, .selects RX6 yX6_advance yX6_advance, .initialized RX6, .code yX6_advance cX6_advance 1 none, .fieldLink RX6 9 "HalfLadders$Reader" "looked" "I", .methodLink RX6 35 yX6_look, .instanceMethod yX6_look, .selects RX6 yX6_look yX6_look, .code yX6_look cX6_look 1 none, .methodLink RX6 46 Lib.Math.min.name, .static Lib.Math.min.name, .initialized "java/lang/Math", .code Lib.Math.min.name Lib.Math.min.code 2 (some .int), .fieldLink RX6 21 "HalfLadders$Reader" "text" "LHalfLadders$Text;", .fieldLink RX6 52 "HalfLadders$Text" "tokens" "[I", .fieldLink RX6 55 "HalfLadders$Text" "values" "[I"] ++ wsX60 ++ wsX80)
def wsX6_readSemicolon : List Cond := .code yX6_readSemicolon cX6_readSemicolon 1 (some .boolean) :: ([.fieldLink RX6 15 "HalfLadders$Reader" "token" "I", .methodLink RX6 94 yX6_advance, .instanceMethod yX6_advance, .selects RX6 yX6_advance yX6_advance, .initialized RX6, .code yX6_advance cX6_advance 1 none, .fieldLink RX6 9 "HalfLadders$Reader" "looked" "I", .methodLink RX6 35 yX6_look, .instanceMethod yX6_look, .selects RX6 yX6_look yX6_look, .code yX6_look cX6_look 1 none, .methodLink RX6 46 Lib.Math.min.name, .static Lib.Math.min.name, .initialized "java/lang/Math", .code Lib.Math.min.name Lib.Math.min.code 2 (some .int), .fieldLink RX6 21 "HalfLadders$Reader" "text" "LHalfLadders$Text;", .fieldLink RX6 52 "HalfLadders$Text" "tokens" "[I", .fieldLink RX6 55 "HalfLadders$Text" "values" "[I", .fieldLink RX6 18 "HalfLadders$Reader" "value" "I"] ++ wsX60 ++ wsX80)
def wsX6_readHalf_r1 : List Cond := [Cond.fieldLink RX6 68 "HalfLadders$Orchard" "people" "I", Cond.fieldLink RX6 18 "HalfLadders$Reader" "value" "I", Cond.methodLink RX6 71 yX6_readNumber, Cond.instanceMethod yX6_readNumber, Cond.selects RX6 yX6_readNumber yX6_readNumber, Cond.initialized RX6, Cond.code yX6_readNumber cX6_readNumber 3 (some .boolean), Cond.fieldLink RX6 15 "HalfLadders$Reader" "token" "I", Cond.methodLink RX6 94 yX6_advance, Cond.instanceMethod yX6_advance, Cond.selects RX6 yX6_advance yX6_advance, Cond.code yX6_advance cX6_advance 1 none, Cond.fieldLink RX6 9 "HalfLadders$Reader" "looked" "I", Cond.methodLink RX6 35 yX6_look, Cond.instanceMethod yX6_look, Cond.selects RX6 yX6_look yX6_look, Cond.code yX6_look cX6_look 1 none, Cond.methodLink RX6 46 Lib.Math.min.name, Cond.static Lib.Math.min.name, Cond.initialized "java/lang/Math", Cond.code Lib.Math.min.name Lib.Math.min.code 2 (some .int), Cond.fieldLink RX6 21 "HalfLadders$Reader" "text" "LHalfLadders$Text;", Cond.fieldLink RX6 52 "HalfLadders$Text" "tokens" "[I", Cond.fieldLink RX6 55 "HalfLadders$Text" "values" "[I"]
def wsX6_readHalf_r2 : List Cond := [Cond.methodLink RX6 75 yX6_readSemicolon, Cond.instanceMethod yX6_readSemicolon, Cond.selects RX6 yX6_readSemicolon yX6_readSemicolon, Cond.code yX6_readSemicolon cX6_readSemicolon 1 (some .boolean), Cond.methodLink RX6 79 yX3_addHalf, Cond.instanceMethod yX3_addHalf, Cond.selects RX3 yX3_addHalf yX3_addHalf, Cond.initialized RX3, Cond.code yX3_addHalf cX3_addHalf 5 none, Cond.fieldLink RX3 9 "HalfLadders$Orchard" "people" "I", Cond.fieldLink RX3 18 "HalfLadders$Orchard" "sides" "[I", Cond.fieldLink RX3 22 "HalfLadders$Orchard" "gaps" "[I", Cond.fieldLink RX3 25 "HalfLadders$Orchard" "lengths" "[I", Cond.fieldLink RX3 28 "HalfLadders$Orchard" "paces" "[I", Cond.fieldLink RX3 31 "HalfLadders$Orchard" "quarrels" "[I"]
def wsX6_readHalf : List Cond := .code yX6_readHalf cX6_readHalf 6 (some .boolean) :: ((wsX6_readHalf_r1 ++ wsX6_readHalf_r2) ++ wsX30 ++ wsX60 ++ wsX80)
def wsX6_readQuarrel_r1 : List Cond := [Cond.fieldLink RX6 68 "HalfLadders$Orchard" "people" "I", Cond.fieldLink RX6 18 "HalfLadders$Reader" "value" "I", Cond.methodLink RX6 71 yX6_readNumber, Cond.instanceMethod yX6_readNumber, Cond.selects RX6 yX6_readNumber yX6_readNumber, Cond.initialized RX6, Cond.code yX6_readNumber cX6_readNumber 3 (some .boolean), Cond.fieldLink RX6 15 "HalfLadders$Reader" "token" "I", Cond.methodLink RX6 94 yX6_advance, Cond.instanceMethod yX6_advance, Cond.selects RX6 yX6_advance yX6_advance, Cond.code yX6_advance cX6_advance 1 none, Cond.fieldLink RX6 9 "HalfLadders$Reader" "looked" "I", Cond.methodLink RX6 35 yX6_look, Cond.instanceMethod yX6_look, Cond.selects RX6 yX6_look yX6_look, Cond.code yX6_look cX6_look 1 none, Cond.methodLink RX6 46 Lib.Math.min.name, Cond.static Lib.Math.min.name, Cond.initialized "java/lang/Math", Cond.code Lib.Math.min.name Lib.Math.min.code 2 (some .int), Cond.fieldLink RX6 21 "HalfLadders$Reader" "text" "LHalfLadders$Text;", Cond.fieldLink RX6 52 "HalfLadders$Text" "tokens" "[I", Cond.fieldLink RX6 55 "HalfLadders$Text" "values" "[I"]
def wsX6_readQuarrel_r2 : List Cond := [Cond.methodLink RX6 75 yX6_readSemicolon, Cond.instanceMethod yX6_readSemicolon, Cond.selects RX6 yX6_readSemicolon yX6_readSemicolon, Cond.code yX6_readSemicolon cX6_readSemicolon 1 (some .boolean), Cond.methodLink RX6 83 yX3_addQuarrel, Cond.instanceMethod yX3_addQuarrel, Cond.selects RX3 yX3_addQuarrel yX3_addQuarrel, Cond.initialized RX3, Cond.code yX3_addQuarrel cX3_addQuarrel 3 none, Cond.fieldLink RX3 31 "HalfLadders$Orchard" "quarrels" "[I", Cond.methodLink RX3 43 yX3_hasHalf, Cond.instanceMethod yX3_hasHalf, Cond.selects RX3 yX3_hasHalf yX3_hasHalf, Cond.code yX3_hasHalf cX3_hasHalf 2 (some .boolean), Cond.fieldLink RX3 9 "HalfLadders$Orchard" "people" "I"]
def wsX6_readQuarrel : List Cond := .code yX6_readQuarrel cX6_readQuarrel 4 (some .boolean) :: ((wsX6_readQuarrel_r1 ++ wsX6_readQuarrel_r2) ++ wsX30 ++ wsX60 ++ wsX80)
def wsX6_readTree_r1 : List Cond := [Cond.fieldLink RX6 87 "HalfLadders$Orchard" "trees" "I", Cond.fieldLink RX6 18 "HalfLadders$Reader" "value" "I", Cond.methodLink RX6 71 yX6_readNumber, Cond.instanceMethod yX6_readNumber, Cond.selects RX6 yX6_readNumber yX6_readNumber, Cond.initialized RX6, Cond.code yX6_readNumber cX6_readNumber 3 (some .boolean), Cond.fieldLink RX6 15 "HalfLadders$Reader" "token" "I", Cond.methodLink RX6 94 yX6_advance, Cond.instanceMethod yX6_advance, Cond.selects RX6 yX6_advance yX6_advance, Cond.code yX6_advance cX6_advance 1 none, Cond.fieldLink RX6 9 "HalfLadders$Reader" "looked" "I", Cond.methodLink RX6 35 yX6_look, Cond.instanceMethod yX6_look, Cond.selects RX6 yX6_look yX6_look, Cond.code yX6_look cX6_look 1 none, Cond.methodLink RX6 46 Lib.Math.min.name, Cond.static Lib.Math.min.name, Cond.initialized "java/lang/Math", Cond.code Lib.Math.min.name Lib.Math.min.code 2 (some .int), Cond.fieldLink RX6 21 "HalfLadders$Reader" "text" "LHalfLadders$Text;", Cond.fieldLink RX6 52 "HalfLadders$Text" "tokens" "[I", Cond.fieldLink RX6 55 "HalfLadders$Text" "values" "[I"]
def wsX6_readTree_r2 : List Cond := [Cond.methodLink RX6 75 yX6_readSemicolon, Cond.instanceMethod yX6_readSemicolon, Cond.selects RX6 yX6_readSemicolon yX6_readSemicolon, Cond.code yX6_readSemicolon cX6_readSemicolon 1 (some .boolean), Cond.methodLink RX6 90 yX3_addTree, Cond.instanceMethod yX3_addTree, Cond.selects RX3 yX3_addTree yX3_addTree, Cond.initialized RX3, Cond.code yX3_addTree cX3_addTree 4 none, Cond.fieldLink RX3 15 "HalfLadders$Orchard" "trees" "I", Cond.fieldLink RX3 34 "HalfLadders$Orchard" "highs" "[I", Cond.fieldLink RX3 37 "HalfLadders$Orchard" "ripes" "[I", Cond.fieldLink RX3 40 "HalfLadders$Orchard" "baskets" "[I"]
def wsX6_readTree : List Cond := .code yX6_readTree cX6_readTree 5 (some .boolean) :: ((wsX6_readTree_r1 ++ wsX6_readTree_r2) ++ wsX30 ++ wsX60 ++ wsX80)
def wsX6_readItem_r1 : List Cond := [Cond.fieldLink RX6 15 "HalfLadders$Reader" "token" "I", Cond.methodLink RX6 58 yX6_readHalf, Cond.instanceMethod yX6_readHalf, Cond.selects RX6 yX6_readHalf yX6_readHalf, Cond.initialized RX6, Cond.code yX6_readHalf cX6_readHalf 6 (some .boolean), Cond.fieldLink RX6 68 "HalfLadders$Orchard" "people" "I", Cond.fieldLink RX6 18 "HalfLadders$Reader" "value" "I", Cond.methodLink RX6 71 yX6_readNumber, Cond.instanceMethod yX6_readNumber, Cond.selects RX6 yX6_readNumber yX6_readNumber, Cond.code yX6_readNumber cX6_readNumber 3 (some .boolean), Cond.methodLink RX6 94 yX6_advance, Cond.instanceMethod yX6_advance, Cond.selects RX6 yX6_advance yX6_advance, Cond.code yX6_advance cX6_advance 1 none, Cond.fieldLink RX6 9 "HalfLadders$Reader" "looked" "I", Cond.methodLink RX6 35 yX6_look, Cond.instanceMethod yX6_look, Cond.selects RX6 yX6_look yX6_look, Cond.code yX6_look cX6_look 1 none, Cond.methodLink RX6 46 Lib.Math.min.name, Cond.static Lib.Math.min.name, Cond.initialized "java/lang/Math"]
def wsX6_readItem_r2 : List Cond := [Cond.code Lib.Math.min.name Lib.Math.min.code 2 (some .int), Cond.fieldLink RX6 21 "HalfLadders$Reader" "text" "LHalfLadders$Text;", Cond.fieldLink RX6 52 "HalfLadders$Text" "tokens" "[I", Cond.fieldLink RX6 55 "HalfLadders$Text" "values" "[I", Cond.methodLink RX6 75 yX6_readSemicolon, Cond.instanceMethod yX6_readSemicolon, Cond.selects RX6 yX6_readSemicolon yX6_readSemicolon, Cond.code yX6_readSemicolon cX6_readSemicolon 1 (some .boolean), Cond.methodLink RX6 79 yX3_addHalf, Cond.instanceMethod yX3_addHalf, Cond.selects RX3 yX3_addHalf yX3_addHalf, Cond.initialized RX3, Cond.code yX3_addHalf cX3_addHalf 5 none, Cond.fieldLink RX3 9 "HalfLadders$Orchard" "people" "I", Cond.fieldLink RX3 18 "HalfLadders$Orchard" "sides" "[I", Cond.fieldLink RX3 22 "HalfLadders$Orchard" "gaps" "[I", Cond.fieldLink RX3 25 "HalfLadders$Orchard" "lengths" "[I", Cond.fieldLink RX3 28 "HalfLadders$Orchard" "paces" "[I", Cond.fieldLink RX3 31 "HalfLadders$Orchard" "quarrels" "[I", Cond.methodLink RX6 62 yX6_readQuarrel, Cond.instanceMethod yX6_readQuarrel, Cond.selects RX6 yX6_readQuarrel yX6_readQuarrel, Cond.code yX6_readQuarrel cX6_readQuarrel 4 (some .boolean), Cond.methodLink RX6 83 yX3_addQuarrel]
def wsX6_readItem_r3 : List Cond := [Cond.instanceMethod yX3_addQuarrel, Cond.selects RX3 yX3_addQuarrel yX3_addQuarrel, Cond.code yX3_addQuarrel cX3_addQuarrel 3 none, Cond.methodLink RX3 43 yX3_hasHalf, Cond.instanceMethod yX3_hasHalf, Cond.selects RX3 yX3_hasHalf yX3_hasHalf, Cond.code yX3_hasHalf cX3_hasHalf 2 (some .boolean), Cond.methodLink RX6 65 yX6_readTree, Cond.instanceMethod yX6_readTree, Cond.selects RX6 yX6_readTree yX6_readTree, Cond.code yX6_readTree cX6_readTree 5 (some .boolean), Cond.fieldLink RX6 87 "HalfLadders$Orchard" "trees" "I", Cond.methodLink RX6 90 yX3_addTree, Cond.instanceMethod yX3_addTree, Cond.selects RX3 yX3_addTree yX3_addTree, Cond.code yX3_addTree cX3_addTree 4 none, Cond.fieldLink RX3 15 "HalfLadders$Orchard" "trees" "I", Cond.fieldLink RX3 34 "HalfLadders$Orchard" "highs" "[I", Cond.fieldLink RX3 37 "HalfLadders$Orchard" "ripes" "[I", Cond.fieldLink RX3 40 "HalfLadders$Orchard" "baskets" "[I"]
def wsX6_readItem : List Cond := .code yX6_readItem cX6_readItem 2 (some .boolean) :: ((wsX6_readItem_r1 ++ (wsX6_readItem_r2 ++ wsX6_readItem_r3)) ++ wsX60 ++ wsX30 ++ wsX80)
def wsX6_readAll_r1 : List Cond := [Cond.fieldLink RX6 21 "HalfLadders$Reader" "text" "LHalfLadders$Text;", Cond.fieldLink RX6 9 "HalfLadders$Reader" "looked" "I", Cond.fieldLink RX6 15 "HalfLadders$Reader" "token" "I", Cond.fieldLink RX6 42 "HalfLadders$Text" "places" "[I", Cond.methodLink RX6 25 yX8_cutIntoTokens, Cond.instanceMethod yX8_cutIntoTokens, Cond.selects RX8 yX8_cutIntoTokens yX8_cutIntoTokens, Cond.initialized RX8, Cond.code yX8_cutIntoTokens cX8_cutIntoTokens 4 none, Cond.fieldLink RX8 15 "HalfLadders$Text" "length" "I", Cond.fieldLink RX8 23 "HalfLadders$Text" "places" "[I", Cond.fieldLink RX8 19 "HalfLadders$Text" "tokens" "[I", Cond.fieldLink RX8 26 "HalfLadders$Text" "values" "[I", Cond.methodLink RX8 43 Lib.Math.max.name, Cond.static Lib.Math.max.name, Cond.initialized "java/lang/Math", Cond.code Lib.Math.max.name Lib.Math.max.code 2 (some .int), Cond.methodLink RX8 29 yX8_at, Cond.instanceMethod yX8_at, Cond.selects RX8 yX8_at yX8_at, Cond.code yX8_at cX8_at 2 (some .int), Cond.fieldLink RX8 9 "HalfLadders$Text" "bytes" "[B", Cond.methodLink RX8 33 yX8_endOfToken, Cond.instanceMethod yX8_endOfToken]
def wsX6_readAll_r2 : List Cond := [Cond.selects RX8 yX8_endOfToken yX8_endOfToken, Cond.code yX8_endOfToken cX8_endOfToken 3 (some .int), Cond.methodLink RX8 48 yX8_isLetter, Cond.static yX8_isLetter, Cond.code yX8_isLetter cX8_isLetter 1 (some .boolean), Cond.methodLink RX8 52 yX8_isDigit, Cond.static yX8_isDigit, Cond.code yX8_isDigit cX8_isDigit 1 (some .boolean), Cond.methodLink RX8 36 yX8_tokenOf, Cond.instanceMethod yX8_tokenOf, Cond.selects RX8 yX8_tokenOf yX8_tokenOf, Cond.code yX8_tokenOf cX8_tokenOf 5 (some .int), Cond.methodLink RX8 57 yX8_spells, Cond.instanceMethod yX8_spells, Cond.selects RX8 yX8_spells yX8_spells, Cond.code yX8_spells cX8_spells 5 (some .boolean), Cond.methodLink RX8 67 yJ0_length_8abf5, Cond.instanceMethod yJ0_length_8abf5, Cond.selects RJ0 yJ0_length_8abf5 yJ0_length_8abf5, Cond.initialized RJ0, Cond.code yJ0_length_8abf5 cJ0_length_8abf5 1 (some .int), Cond.fieldLink RJ0 9 "java/lang/String" "value" "[B", Cond.methodLink RJ0 335 yJ0_coder_7d493, Cond.instanceMethod yJ0_coder_7d493]
def wsX6_readAll_r3 : List Cond := [Cond.selects RJ0 yJ0_coder_7d493 yJ0_coder_7d493, Cond.code yJ0_coder_7d493 cJ0_coder_7d493 1 (some .byte), Cond.fieldLink RJ0 38 "java/lang/String" "COMPACT_STRINGS" "Z", Cond.fieldLink RJ0 15 "java/lang/String" "coder" "B", Cond.methodLink RX8 72 yJ0_charAt_5068e, Cond.instanceMethod yJ0_charAt_5068e, Cond.selects RJ0 yJ0_charAt_5068e yJ0_charAt_5068e, Cond.code yJ0_charAt_5068e cJ0_charAt_5068e 2 (some .char), Cond.methodLink RJ0 492 yJ0_isLatin1_aae02, Cond.instanceMethod yJ0_isLatin1_aae02, Cond.selects RJ0 yJ0_isLatin1_aae02 yJ0_isLatin1_aae02, Cond.code yJ0_isLatin1_aae02 cJ0_isLatin1_aae02 1 (some .boolean), Cond.methodLink RJ0 495 yJ1_charAt_3b067, Cond.static yJ1_charAt_3b067, Cond.initialized RJ1, Cond.code yJ1_charAt_3b067 cJ1_charAt_3b067 2 (some .char), Cond.methodLink RJ1 9 yJ0_checkIndex_df160, Cond.static yJ0_checkIndex_df160, Cond.code yJ0_checkIndex_df160 cJ0_checkIndex_df160 2 none, Cond.fieldLink RJ0 1053 "jdk/internal/util/Preconditions" "SIOOBE_FORMATTER" "Ljava/util/function/BiFunction;", Cond.methodLink RJ0 1059 yJ3_checkIndex_8e157, Cond.static yJ3_checkIndex_8e157, Cond.initialized RJ3, Cond.code yJ3_checkIndex_8e157 cJ3_checkIndex_8e157 3 (some .int)]
def wsX6_readAll_r4 : List Cond := [Cond.methodLink RJ0 498 yJ2_charAt_3b067, Cond.static yJ2_charAt_3b067, Cond.initialized RJ2, Cond.code yJ2_charAt_3b067 cJ2_charAt_3b067 2 (some .char), Cond.methodLink RJ2 67 yJ2_checkIndex_2214a, Cond.static yJ2_checkIndex_2214a, Cond.code yJ2_checkIndex_2214a cJ2_checkIndex_2214a 2 none, Cond.methodLink RJ2 48 yJ2_length_9d52b, Cond.static yJ2_length_9d52b, Cond.code yJ2_length_9d52b cJ2_length_9d52b 1 (some .int), Cond.methodLink RJ2 414 yJ0_checkIndex_df160, Cond.methodLink RJ2 71 yJ2_getChar_3b067, Cond.static yJ2_getChar_3b067, Cond.code yJ2_getChar_3b067 cJ2_getChar_3b067 2 (some .char), Cond.fieldLink RJ2 44 "java/lang/StringUTF16" "$assertionsDisabled" "Z", Cond.fieldLink RJ2 59 "java/lang/StringUTF16" "HI_BYTE_SHIFT" "I", Cond.fieldLink RJ2 63 "java/lang/StringUTF16" "LO_BYTE_SHIFT" "I", Cond.methodLink RX8 40 yX8_numberAt, Cond.instanceMethod yX8_numberAt, Cond.selects RX8 yX8_numberAt yX8_numberAt, Cond.code yX8_numberAt cX8_numberAt 5 (some .int), Cond.methodLink RX6 30 yX3_empty, Cond.instanceMethod yX3_empty, Cond.selects RX3 yX3_empty yX3_empty]
def wsX6_readAll_r5 : List Cond := [Cond.initialized RX3, Cond.code yX3_empty cX3_empty 1 none, Cond.fieldLink RX3 9 "HalfLadders$Orchard" "people" "I", Cond.fieldLink RX3 15 "HalfLadders$Orchard" "trees" "I", Cond.methodLink RX6 35 yX6_look, Cond.instanceMethod yX6_look, Cond.selects RX6 yX6_look yX6_look, Cond.initialized RX6, Cond.code yX6_look cX6_look 1 none, Cond.methodLink RX6 46 Lib.Math.min.name, Cond.static Lib.Math.min.name, Cond.code Lib.Math.min.name Lib.Math.min.code 2 (some .int), Cond.fieldLink RX6 52 "HalfLadders$Text" "tokens" "[I", Cond.fieldLink RX6 55 "HalfLadders$Text" "values" "[I", Cond.fieldLink RX6 18 "HalfLadders$Reader" "value" "I", Cond.methodLink RX6 38 yX6_readItem, Cond.instanceMethod yX6_readItem, Cond.selects RX6 yX6_readItem yX6_readItem, Cond.code yX6_readItem cX6_readItem 2 (some .boolean), Cond.methodLink RX6 58 yX6_readHalf, Cond.instanceMethod yX6_readHalf, Cond.selects RX6 yX6_readHalf yX6_readHalf, Cond.code yX6_readHalf cX6_readHalf 6 (some .boolean), Cond.fieldLink RX6 68 "HalfLadders$Orchard" "people" "I"]
def wsX6_readAll_r6 : List Cond := [Cond.methodLink RX6 71 yX6_readNumber, Cond.instanceMethod yX6_readNumber, Cond.selects RX6 yX6_readNumber yX6_readNumber, Cond.code yX6_readNumber cX6_readNumber 3 (some .boolean), Cond.methodLink RX6 94 yX6_advance, Cond.instanceMethod yX6_advance, Cond.selects RX6 yX6_advance yX6_advance, Cond.code yX6_advance cX6_advance 1 none, Cond.methodLink RX6 75 yX6_readSemicolon, Cond.instanceMethod yX6_readSemicolon, Cond.selects RX6 yX6_readSemicolon yX6_readSemicolon, Cond.code yX6_readSemicolon cX6_readSemicolon 1 (some .boolean), Cond.methodLink RX6 79 yX3_addHalf, Cond.instanceMethod yX3_addHalf, Cond.selects RX3 yX3_addHalf yX3_addHalf, Cond.code yX3_addHalf cX3_addHalf 5 none, Cond.fieldLink RX3 18 "HalfLadders$Orchard" "sides" "[I", Cond.fieldLink RX3 22 "HalfLadders$Orchard" "gaps" "[I", Cond.fieldLink RX3 25 "HalfLadders$Orchard" "lengths" "[I", Cond.fieldLink RX3 28 "HalfLadders$Orchard" "paces" "[I", Cond.fieldLink RX3 31 "HalfLadders$Orchard" "quarrels" "[I", Cond.methodLink RX6 62 yX6_readQuarrel, Cond.instanceMethod yX6_readQuarrel, Cond.selects RX6 yX6_readQuarrel yX6_readQuarrel]
def wsX6_readAll_r7 : List Cond := [Cond.code yX6_readQuarrel cX6_readQuarrel 4 (some .boolean), Cond.methodLink RX6 83 yX3_addQuarrel, Cond.instanceMethod yX3_addQuarrel, Cond.selects RX3 yX3_addQuarrel yX3_addQuarrel, Cond.code yX3_addQuarrel cX3_addQuarrel 3 none, Cond.methodLink RX3 43 yX3_hasHalf, Cond.instanceMethod yX3_hasHalf, Cond.selects RX3 yX3_hasHalf yX3_hasHalf, Cond.code yX3_hasHalf cX3_hasHalf 2 (some .boolean), Cond.methodLink RX6 65 yX6_readTree, Cond.instanceMethod yX6_readTree, Cond.selects RX6 yX6_readTree yX6_readTree, Cond.code yX6_readTree cX6_readTree 5 (some .boolean), Cond.fieldLink RX6 87 "HalfLadders$Orchard" "trees" "I", Cond.methodLink RX6 90 yX3_addTree, Cond.instanceMethod yX3_addTree, Cond.selects RX3 yX3_addTree yX3_addTree, Cond.code yX3_addTree cX3_addTree 4 none, Cond.fieldLink RX3 34 "HalfLadders$Orchard" "highs" "[I", Cond.fieldLink RX3 37 "HalfLadders$Orchard" "ripes" "[I", Cond.fieldLink RX3 40 "HalfLadders$Orchard" "baskets" "[I"]
def wsX6_readAll : List Cond := .code yX6_readAll cX6_readAll 3 (some .int) :: ((wsX6_readAll_r1 ++ (wsX6_readAll_r2 ++ (wsX6_readAll_r3 ++ (wsX6_readAll_r4 ++ (wsX6_readAll_r5 ++ (wsX6_readAll_r6 ++ wsX6_readAll_r7)))))) ++ wsX60 ++ wsX80 ++ wsX30)
def wsX7_init : List Cond := .code yX7_init cX7_init 1 none :: ([.methodLink RX7 3 objectInit, .instanceMethod objectInit, .code objectInit ⟨#[0xb1]⟩ 1 none, .arrayClass .int, .fieldLink RX7 9 "HalfLadders$Sums" "wholes" "[I"] ++ wsX70)
def wsX7_wholeOf : List Cond := .code yX7_wholeOf cX7_wholeOf 7 (some .int) :: ([.fieldLink RX7 9 "HalfLadders$Sums" "wholes" "[I", .fieldLink RX7 25 "HalfLadders$Pairs" "count" "I", .fieldLink RX7 31 "HalfLadders$Pairs" "bits" "[I", .fieldLink RX7 34 "HalfLadders$Pairs" "picks" "[I", .methodLink RX7 37 Lib.Math.max.name, .static Lib.Math.max.name, .initialized "java/lang/Math", .code Lib.Math.max.name Lib.Math.max.code 2 (some .int)] ++ wsX70 ++ wsX40)
def wsX7_reckon : List Cond := .code yX7_reckon cX7_reckon 4 none :: ([.fieldLink RX7 9 "HalfLadders$Sums" "wholes" "[I", .methodLink RX7 15 yX3_everybody, .instanceMethod yX3_everybody, .selects RX3 yX3_everybody yX3_everybody, .initialized RX3, .code yX3_everybody cX3_everybody 1 (some .int), .fieldLink RX3 9 "HalfLadders$Orchard" "people" "I", .methodLink RX7 21 yX7_wholeOf, .instanceMethod yX7_wholeOf, .selects RX7 yX7_wholeOf yX7_wholeOf, .initialized RX7, .code yX7_wholeOf cX7_wholeOf 7 (some .int), .fieldLink RX7 25 "HalfLadders$Pairs" "count" "I", .fieldLink RX7 31 "HalfLadders$Pairs" "bits" "[I", .fieldLink RX7 34 "HalfLadders$Pairs" "picks" "[I", .methodLink RX7 37 Lib.Math.max.name, .static Lib.Math.max.name, .initialized "java/lang/Math", .code Lib.Math.max.name Lib.Math.max.code 2 (some .int)] ++ wsX70 ++ wsX30 ++ wsX40)
def wsX7_grownOverOrders : List Cond := .code yX7_grownOverOrders cX7_grownOverOrders 8 (some .int) :: ([.fieldLink RX7 9 "HalfLadders$Sums" "wholes" "[I", .methodLink RX7 43 yJ6_bitCount_0f7a4, .static yJ6_bitCount_0f7a4, .initialized RJ6, .code yJ6_bitCount_0f7a4 cJ6_bitCount_0f7a4 1 (some .int), .constant RJ6 265 (1431655765), .constant RJ6 266 (858993459), .constant RJ6 267 (252645135)] ++ wsX70)
def wsX8_init : List Cond := .code yX8_init cX8_init 1 none :: ([.methodLink RX8 3 objectInit, .instanceMethod objectInit, .code objectInit ⟨#[0xb1]⟩ 1 none, .arrayClass .byte, .fieldLink RX8 9 "HalfLadders$Text" "bytes" "[B", .fieldLink RX8 15 "HalfLadders$Text" "length" "I", .arrayClass .int, .fieldLink RX8 19 "HalfLadders$Text" "tokens" "[I", .fieldLink RX8 23 "HalfLadders$Text" "places" "[I", .fieldLink RX8 26 "HalfLadders$Text" "values" "[I"] ++ wsX80)
def wsX8_room : List Cond := .code yX8_room cX8_room 1 (some .int) :: ([.fieldLink RX8 15 "HalfLadders$Text" "length" "I"] ++ wsX80)
