section
/-! ===== BEGIN words of one list among another's, by their places ===== -/
theorem goodIn_r {big : List Cond} (ws : List Cond) (ps : List Nat) (hp : ws = ps.filterMap (fun i => big[i]?)) (h : ws.all goodWord = true) : GoodIn big ws := by
  intro w hw
  have h1 := List.all_eq_true.mp h w hw
  rw [hp] at hw
  obtain ⟨i, -, hi⟩ := List.mem_filterMap.mp hw
  have hm : w ∈ big := by first | exact List.mem_of_getElem? hi | exact List.getElem?_mem hi
  exact ⟨hm, good_of_word h1⟩
theorem goodIn_app {big a b : List Cond} (ha : GoodIn big a) (hb : GoodIn big b) : GoodIn big (a ++ b) := fun w h => (List.mem_append.mp h).elim (ha w) (hb w)
theorem goodIn_ca {big a b : List Cond} {c : Cond} (ha : GoodIn big (c :: a)) (hb : GoodIn big b) : GoodIn big (c :: (a ++ b)) := fun w h => (List.mem_cons.mp h).elim (fun e => ha w (List.mem_cons.mpr (Or.inl e))) (fun h => (List.mem_append.mp h).elim (fun h => ha w (List.mem_cons.mpr (Or.inr h))) (hb w))
theorem goodIn_sub {big ws : List Cond} (hm : ∀ w ∈ ws, w ∈ big) (h : ws.all goodWord = true) : GoodIn big ws := fun w hw => ⟨hm w hw, good_of_word (List.all_eq_true.mp h w hw)⟩
/-! ===== END ===== -/

/-! ===== BEGIN new T[n][m]: the outer array a place, the inner ones among the pooled ===== -/
/-- f, but v at every address of l -/
def vr_up {α : Type} (f : Nat → α) (l : List Nat) (v : α) : Nat → α := fun a => if a ∈ l then v else f a
theorem vr_up_in {α : Type} {f : Nat → α} {l : List Nat} {v : α} {a : Nat} (h : a ∈ l) : vr_up f l v a = v := if_pos h
theorem vr_up_ne {α : Type} {f : Nat → α} {l : List Nat} {v : α} {a : Nat} (h : a ∉ l) : vr_up f l v a = f a := if_neg h
theorem vr_rows {L l : List Nat} {f : Nat → va_E} {e : va_E} (h : ∀ a, a ∈ l → a ∉ L) : va_pl L f ++ l.map (fun a => (a, e)) = va_pl (L ++ l) (vr_up f l e) := by
  unfold va_pl
  rw [List.map_append]
  congr 1
  · apply List.map_congr_left
    intro a ha
    rw [vr_up_ne (fun q => h a q ha)]
  · apply List.map_congr_left
    intro a ha
    rw [vr_up_in ha]
theorem vr_lay {X rows : va_W} {x : Nat × va_E} {pl : va_W} {D : va_G} {cl : List vw_C} {H : Heap} (hP : va_P D cl (((X ++ pl) ++ [x]) ++ rows) H) : va_P D cl ((X ++ [x]) ++ (pl ++ rows)) H := by
  rw [List.append_assoc (X ++ pl)] at hP
  have h := va_P.swap hP
  rw [← List.append_assoc X] at h
  have h2 := va_P.swap h
  rw [List.append_assoc (X ++ [x])] at h2
  exact h2
theorem vr_layD {X rows : va_W} {x : Nat × va_E} {pl : va_W} {A : Nat → Prop} (hD : va_D A (((X ++ pl) ++ [x]) ++ rows)) : va_D A ((X ++ [x]) ++ (pl ++ rows)) := by
  rw [List.append_assoc (X ++ pl)] at hD
  have h := va_D.swap hD
  rw [← List.append_assoc X] at h
  have h2 := va_D.swap h
  rw [List.append_assoc (X ++ [x])] at h2
  exact h2
theorem vr_outer (c : ClassId) (N h0 : Nat) : ∀ i : Nat, Jvm.Free.Multi.outerC c N h0 i = arrV c N (fun j => va_rf (if j < i then some (h0 + 1 + j) else none))
  | 0 => by
    show ({ cls := c, slots := Array.replicate N .null, vm := .none } : Cell) = _
    rw [arrV_new]
    refine congrArg (arrV c N) (funext fun j => ?_)
    simp [va_rf]
  | i + 1 => by
    show (Jvm.Free.Multi.outerC c N h0 i).setSlot i (.ref (h0 + 1 + i)) = _
    rw [vr_outer c N h0 i, arrV_store]
    refine congrArg (arrV c N) (funext fun j => ?_)
    by_cases e : j = i
    · subst e
      simp [updV, va_rf]
    · by_cases h : j < i
      · simp [updV, e, h, Nat.lt_succ_of_lt h]
      · simp [updV, e, h, show ¬ j < i + 1 by omega]
section VGM
variable {p : Program} {l : Launch} {e : Env} {R : Room} {s : State} {m : MethodId} {args : Array Value} {below : List Frame} {meth : Method} {c : Code} {H : Heap} {locs : List Loc} {cells slots : Nat} {Q : State → Prop}
variable {cc : ByteArray} {pc : Nat} {ls : Array Slot} {rest : List Value} {D : va_G} {cl : List vw_C} {A : Nat → Prop} {a : Nat} {tys : List (ClassId × FieldType)} {ws : va_W} {H0 : Heap}
theorem va_mna {X : va_W} {L : List Nat} {f : Nat → va_E} {cc : ByteArray} (hexec : p.tables.exec = Jvm.exec) (hb : c.code = cc) {own : String} {index : Nat} {ty : FieldType} {cy : ClassId} (hown : s.vm.findClass own = some m.cls) (hclink : (Cond.classLink own index ("[" ++ (FieldType.array ty).toString)).before args s = true) (hover : va_AOA ty s) (harr : (Cond.arrayClass ty).before args s = true) (hcy : s.vm.findClass (FieldType.array ty).toString = some cy)
    (hK : va_K D cl tys s) (hP : va_P D cl (X ++ va_pl L f) H) (hD : va_D A (X ++ va_pl L f)) (hS : va_S A H0 H locs) (hA : ∀ q, H0.size ≤ q → A q) {n k : Int32} {N' K' : Nat} {z : vp_A} (hn : ¬ n < 0) (hk : ¬ k < 0) (hN : n.toNatClampNeg = N') (hM : k.toNatClampNeg = K')
    (hb1 : N' * 4 ≤ 536870912) (hb2 : K' * componentBytes ty ≤ 536870912) (hb3 : K' ≤ 536870912) (hdf : fits ty (defaultValue ty) = true) (hdd : (defaultValue ty).isDefault = true) (hcells : cells + (1 + N') ≤ R.cells) (hslots : slots + (N' + N' * K') ≤ R.slots) (hz : ∀ c : ClassId, Jvm.Free.Multi.innerC c K' (defaultValue ty) = vp_cell c z) (hdg : decode cc pc = .ok (.multianewarray index 2, 4))
    (kk : ∀ (q : Nat) (r : Nat → Nat) (cA : ClassId) (H1 : Heap), (∀ i j : Nat, i < N' → j < N' → r i = r j → i = j) → (∀ i : Nat, i < N' → r i ∉ L) → va_K D cl (tys ++ [(cA, .array ty)]) s →
      va_P D cl ((X ++ [(q, .inl (cA, N', .inr (.inr (.inr (.inr (fun i => if i < N' then some (r i) else none))))))]) ++ va_pl (L ++ (List.range N').map r) (vr_up f ((List.range N').map r) (.inl (cy, z)))) H1 → va_D A ((X ++ [(q, .inl (cA, N', .inr (.inr (.inr (.inr (fun i => if i < N' then some (r i) else none))))))]) ++ va_pl (L ++ (List.range N').map r) (vr_up f ((List.range N').map r) (.inl (cy, z)))) → va_S A H0 H1 locs →
      W p l e R s m args below meth c H1 locs (cells + 1 + N') (slots + N' + N' * K') Q (F0 m (pc + 4) ls (.ref q :: rest))) : W p l e R s m args below meth c H locs cells slots Q (F0 m pc ls (.int k :: .int n :: rest)) := by
  subst hN
  subst hM
  intro T hT Xs
  obtain ⟨vm₁, cA, comp, -, fA, fC, hO, -, X', step⟩ := Xs.multianewarray2F hexec hown hclink (va_AOA.use hover) harr (g := F0 m pc ls (.int k :: .int n :: rest)) rfl (by rw [hb]; exact hdg) rfl hn hk hb1 hb2 hb3 hdf hdd hcells hslots
  have ec : some cy = some comp := hcy.symm.trans fC
  cases ec
  generalize hF : Jvm.Free.Multi.fill (T.setVm vm₁) cA cy n.toNatClampNeg k.toNatClampNeg (defaultValue ty) n.toNatClampNeg = F at X' step
  have hTh : (T.setVm vm₁).heap = H := hT
  obtain ⟨f1, f2, -, -⟩ := Jvm.Free.Multi.fill_facts (T.setVm vm₁) cA cy n.toNatClampNeg k.toNatClampNeg (defaultValue ty) n.toNatClampNeg
  rw [hF, hTh] at f1 f2
  have hold : ∀ x : Nat, x < H.size → F.heap[x]? = H[x]? := fun x hx => by
    have := Jvm.Free.Multi.fill_old (T.setVm vm₁) cA cy n.toNatClampNeg k.toNatClampNeg (defaultValue ty) (a := x) (by rw [hTh]; exact hx) n.toNatClampNeg
    rw [hF, hTh] at this
    exact this
  have hrow : ∀ j : Nat, j < n.toNatClampNeg → F.heap[H.size + 1 + j]? = some (vp_cell cy z) := fun j hj => by
    have := Jvm.Free.Multi.fill_inner (T.setVm vm₁) cA cy n.toNatClampNeg k.toNatClampNeg (defaultValue ty) n.toNatClampNeg j hj
    rw [hF, hTh, hz] at this
    exact this
  have hout : Jvm.Free.Multi.outerC cA n.toNatClampNeg H.size n.toNatClampNeg = vp_cell cA (n.toNatClampNeg, .inr (.inr (.inr (.inr (fun i => if i < n.toNatClampNeg then some (H.size + 1 + i) else none))))) := by
    rw [vp_cell_q]
    exact vr_outer cA n.toNatClampNeg H.size n.toNatClampNeg
  rw [hout] at f2
  have hlt : ∀ a, a ∈ L → a < H.size := fun a ha => by
    obtain ⟨k9, hk9⟩ := va_pl_get (X := X) (f := f) ha
    exact (hP k9 _ hk9).lt
  have hnl : ∀ i : Nat, i < n.toNatClampNeg → H.size + 1 + i ∉ L := fun i _ h => by
    have := hlt _ h
    omega
  have hnm : ∀ a, a ∈ (List.range n.toNatClampNeg).map (fun i => H.size + 1 + i) → a ∉ L := fun a ha h => by
    obtain ⟨i, -, rfl⟩ := List.mem_map.mp ha
    have := hlt _ h
    omega
  have hP0 : va_P D cl (X ++ va_pl L f) F.heap := hP.kept (fun k9 x hx => hold x.1 ((hP k9 x hx).lt))
  have hP1 : va_P D cl ((X ++ va_pl L f) ++ [(H.size, .inl (cA, n.toNatClampNeg, .inr (.inr (.inr (.inr (fun i => if i < n.toNatClampNeg then some (H.size + 1 + i) else none))))))]) F.heap := hP0.app (fun k9 x hx => by
    have h0 : k9 < 1 := (List.getElem?_eq_some_iff.mp hx).1
    rw [show k9 = 0 by omega] at hx
    cases hx
    exact f2)
  have hP2 : va_P D cl (((X ++ va_pl L f) ++ [(H.size, .inl (cA, n.toNatClampNeg, .inr (.inr (.inr (.inr (fun i => if i < n.toNatClampNeg then some (H.size + 1 + i) else none))))))]) ++ ((List.range n.toNatClampNeg).map (fun i => H.size + 1 + i)).map (fun a => (a, .inl (cy, z)))) F.heap := hP1.app (fun k9 x hx => by
    obtain ⟨a, ha, rfl⟩ := List.mem_map.mp (List.mem_of_getElem? hx)
    obtain ⟨i, hi, rfl⟩ := List.mem_map.mp ha
    exact hrow i (List.mem_range.mp hi))
  have hD2 : va_D A (((X ++ va_pl L f) ++ [(H.size, .inl (cA, n.toNatClampNeg, .inr (.inr (.inr (.inr (fun i => if i < n.toNatClampNeg then some (H.size + 1 + i) else none))))))]) ++ ((List.range n.toNatClampNeg).map (fun i => H.size + 1 + i)).map (fun a => (a, .inl (cy, z)))) := by
    have hD1 := hD.push (e := .inl (cA, n.toNatClampNeg, .inr (.inr (.inr (.inr (fun i => if i < n.toNatClampNeg then some (H.size + 1 + i) else none)))))) hP rfl (hA _ hS.1)
    generalize hW1 : (X ++ va_pl L f) ++ [(H.size, .inl (cA, n.toNatClampNeg, .inr (.inr (.inr (.inr (fun i => if i < n.toNatClampNeg then some (H.size + 1 + i) else none))))))] = W1 at hD1 hP1 ⊢
    have hle : ∀ (k9 : Nat) (x : Nat × va_E), W1[k9]? = some x → x.1 ≤ H.size := fun k9 x hx => by
      rw [← hW1] at hx
      by_cases hl : k9 < (X ++ va_pl L f).length
      · rw [List.getElem?_append_left hl] at hx
        exact Nat.le_of_lt ((hP k9 x hx).lt)
      · rw [List.getElem?_append_right (by omega)] at hx
        have h0 : k9 - (X ++ va_pl L f).length < 1 := (List.getElem?_eq_some_iff.mp hx).1
        rw [show k9 - (X ++ va_pl L f).length = 0 by omega] at hx
        cases hx
        exact Nat.le_refl _
    have hr : ∀ (k9 : Nat) (x : Nat × va_E), (((List.range n.toNatClampNeg).map (fun i => H.size + 1 + i)).map (fun a => ((a, .inl (cy, z)) : Nat × va_E)))[k9]? = some x → x.1 = H.size + 1 + k9 := fun k9 x hx => by
      rw [List.getElem?_map, List.getElem?_map] at hx
      by_cases h9 : k9 < n.toNatClampNeg
      · rw [List.getElem?_range h9] at hx
        cases hx
        rfl
      · have hn0 : (List.range n.toNatClampNeg)[k9]? = none := List.getElem?_eq_none (by rw [List.length_range]; omega)
        rw [hn0] at hx
        cases hx
    refine ⟨fun i j x y hi hj hxy => ?_, fun k9 x hx => ?_⟩
    · by_cases h1 : i < W1.length <;> by_cases h2 : j < W1.length
      · rw [List.getElem?_append_left h1] at hi
        rw [List.getElem?_append_left h2] at hj
        exact hD1.1 i j x y hi hj hxy
      · rw [List.getElem?_append_left h1] at hi
        rw [List.getElem?_append_right (by omega)] at hj
        have := hle _ _ hi
        have := hr _ _ hj
        omega
      · rw [List.getElem?_append_right (by omega)] at hi
        rw [List.getElem?_append_left h2] at hj
        have := hle _ _ hj
        have := hr _ _ hi
        omega
      · rw [List.getElem?_append_right (by omega)] at hi hj
        have := hr _ _ hi
        have := hr _ _ hj
        omega
    · by_cases h1 : k9 < W1.length
      · rw [List.getElem?_append_left h1] at hx
        exact hD1.2 k9 x hx
      · rw [List.getElem?_append_right (by omega)] at hx
        have := hr _ _ hx
        exact hA _ (by have := hS.1; omega)
  have hAr : ArrOfT s cA (.array ty) := fun N9 z9 => by
    obtain ⟨-, k9, hk9, cm9, hkk9⟩ := (hO 0 0 0).1
    exact ⟨(fun q hq => by cases hq), k9, hk9, cm9, hkk9⟩
  have hK2 : va_K D cl (tys ++ [(cA, .array ty)]) s := ⟨hK.1, fun k9 x hx => by
    by_cases hl : k9 < tys.length
    · rw [List.getElem?_append_left hl] at hx
      exact hK.2 k9 x hx
    · rw [List.getElem?_append_right (by omega)] at hx
      have h0 : k9 - tys.length < 1 := (List.getElem?_eq_some_iff.mp hx).1
      rw [show k9 - tys.length = 0 by omega] at hx
      cases hx
      exact ⟨hAr, fA⟩⟩
  obtain ⟨t, a1, b1⟩ := kk H.size (fun i => H.size + 1 + i) cA F.heap (fun i j _ _ h => by have h9 : H.size + 1 + i = H.size + 1 + j := h; omega) hnl hK2 (by rw [← vr_rows hnm]; exact vr_lay hP2) (by rw [← vr_rows hnm]; exact vr_layD hD2) ⟨by rw [f1]; have := hS.1; omega, fun x h1 h2 => (hold x (Nat.lt_of_lt_of_le h1 hS.1)).trans (hS.2.1 x h1 h2), hS.2.2⟩ F rfl X'
  refine ⟨t, step t ?_, b1⟩
  have e : T.heap.size = H.size := by rw [hT]
  rw [e]
  exact a1
end VGM
/-! ===== END ===== -/

/-! ===== BEGIN printed: names, fields, word lists, decode rows ===== -/
def RX0 : String := "HalfLadders$Cutting"
def TX0 : u_T := fun k => match k with
  | 0 => ("HalfLadders$Cutting", "fewest", "[I", true)
  | _ => ("HalfLadders$Cutting", "forSet", "[I", true)
def tyX0 : Nat → FieldType := fun k => match k with
  | 0 => .array .int
  | _ => .array .int
abbrev wsX00 : List Cond := u_ws RX0 TX0 2
theorem nmX0 : ∀ a, a < 2 → ∀ b, b < 2 → a ≠ b → (TX0 a).2.1 ≠ (TX0 b).2.1 := by decide +kernel
theorem tyX0_ok : ∀ k, k < 2 → parseFieldDescriptor (TX0 k).2.2.1 = some (tyX0 k) := by decide +kernel
abbrev cX0_init : ByteArray := prog_2_method_1_code
def yX0_init : MethodName := ⟨RX0, "<init>", "()V"⟩
abbrev cX0_reckon : ByteArray := prog_2_method_2_code
def yX0_reckon : MethodName := ⟨RX0, "reckon", "(LHalfLadders$Orchard;)V"⟩
abbrev cX0_fewestOf : ByteArray := prog_2_method_3_code
def yX0_fewestOf : MethodName := ⟨RX0, "fewestOf", "(LHalfLadders$Orchard;I)I"⟩
abbrev cX0_fewer : ByteArray := prog_2_method_4_code
def yX0_fewer : MethodName := ⟨RX0, "fewer", "(II)I"⟩
def RX1 : String := "HalfLadders$Liking"
def TX1 : u_T := fun k => match k with
  | 0 => ("HalfLadders$Liking", "likes", "[[I", true)
  | 1 => ("HalfLadders$Liking", "asked", "[I", true)
  | 2 => ("HalfLadders$Liking", "with", "[I", true)
  | 3 => ("HalfLadders$Liking", "tried", "[I", true)
  | _ => ("HalfLadders$Liking", "restCount", "I", false)
def tyX1 : Nat → FieldType := fun k => match k with
  | 0 => .array (.array .int)
  | 1 => .array .int
  | 2 => .array .int
  | 3 => .array .int
  | _ => .int
abbrev wsX10 : List Cond := u_ws RX1 TX1 5
theorem nmX1 : ∀ a, a < 5 → ∀ b, b < 5 → a ≠ b → (TX1 a).2.1 ≠ (TX1 b).2.1 := by decide +kernel
theorem tyX1_ok : ∀ k, k < 5 → parseFieldDescriptor (TX1 k).2.2.1 = some (tyX1 k) := by decide +kernel
abbrev cX1_init : ByteArray := prog_3_method_1_code
def yX1_init : MethodName := ⟨RX1, "<init>", "()V"⟩
abbrev cX1_reckon : ByteArray := prog_3_method_2_code
def yX1_reckon : MethodName := ⟨RX1, "reckon", "(LHalfLadders$Orchard;LHalfLadders$Pairs;)V"⟩
abbrev cX1_askAll : ByteArray := prog_3_method_3_code
def yX1_askAll : MethodName := ⟨RX1, "askAll", "(LHalfLadders$Pairs;)V"⟩
abbrev cX1_askNext : ByteArray := prog_3_method_4_code
def yX1_askNext : MethodName := ⟨RX1, "askNext", "(I)V"⟩
abbrev cX1_ratherHas : ByteArray := prog_3_method_5_code
def yX1_ratherHas : MethodName := ⟨RX1, "ratherHas", "(II)Z"⟩
abbrev cX1_isRest : ByteArray := prog_3_method_6_code
def yX1_isRest : MethodName := ⟨RX1, "isRest", "(LHalfLadders$Pairs;)Z"⟩
def RX2 : String := "HalfLadders$Now"
def TX2 : u_T := fun k => match k with
  | 0 => ("HalfLadders$Now", "day", "I", false)
  | 1 => ("HalfLadders$Now", "climbers", "I", false)
  | 2 => ("HalfLadders$Now", "climbed", "I", false)
  | 3 => ("HalfLadders$Now", "picked", "I", false)
  | 4 => ("HalfLadders$Now", "fallen", "I", false)
  | 5 => ("HalfLadders$Now", "theLot", "I", false)
  | _ => ("HalfLadders$Now", "left", "[I", true)
def tyX2 : Nat → FieldType := fun k => match k with
  | 0 => .int
  | 1 => .int
  | 2 => .int
  | 3 => .int
  | 4 => .int
  | 5 => .int
  | _ => .array .int
abbrev wsX20 : List Cond := u_ws RX2 TX2 7
theorem nmX2 : ∀ a, a < 7 → ∀ b, b < 7 → a ≠ b → (TX2 a).2.1 ≠ (TX2 b).2.1 := by decide +kernel
theorem tyX2_ok : ∀ k, k < 7 → parseFieldDescriptor (TX2 k).2.2.1 = some (tyX2 k) := by decide +kernel
abbrev cX2_init : ByteArray := prog_4_method_1_code
def yX2_init : MethodName := ⟨RX2, "<init>", "()V"⟩
abbrev cX2_begin : ByteArray := prog_4_method_2_code
def yX2_begin : MethodName := ⟨RX2, "begin", "()V"⟩
abbrev cX2_bearAsTold : ByteArray := prog_4_method_3_code
def yX2_bearAsTold : MethodName := ⟨RX2, "bearAsTold", "(LHalfLadders$Orchard;)V"⟩
abbrev cX2_blossom : ByteArray := prog_4_method_4_code
def yX2_blossom : MethodName := ⟨RX2, "blossom", "(LHalfLadders$Orchard;)V"⟩
abbrev cX2_become : ByteArray := prog_4_method_5_code
def yX2_become : MethodName := ⟨RX2, "become", "(LHalfLadders$Now;)V"⟩
abbrev cX2_leftOnAll : ByteArray := prog_4_method_6_code
def yX2_leftOnAll : MethodName := ⟨RX2, "leftOnAll", "(LHalfLadders$Orchard;)I"⟩
abbrev cX2_pickable : ByteArray := prog_4_method_7_code
def yX2_pickable : MethodName := ⟨RX2, "pickable", "(LHalfLadders$Orchard;LHalfLadders$Pairs;II)I"⟩
abbrev cX2_pick : ByteArray := prog_4_method_8_code
def yX2_pick : MethodName := ⟨RX2, "pick", "(III)V"⟩
abbrev cX2_endDay : ByteArray := prog_4_method_9_code
def yX2_endDay : MethodName := ⟨RX2, "endDay", "(LHalfLadders$Orchard;)I"⟩
def RX3 : String := "HalfLadders$Orchard"
def TX3 : u_T := fun k => match k with
  | 0 => ("HalfLadders$Orchard", "people", "I", false)
  | 1 => ("HalfLadders$Orchard", "trees", "I", false)
  | 2 => ("HalfLadders$Orchard", "sides", "[I", true)
  | 3 => ("HalfLadders$Orchard", "gaps", "[I", true)
  | 4 => ("HalfLadders$Orchard", "lengths", "[I", true)
  | 5 => ("HalfLadders$Orchard", "paces", "[I", true)
  | 6 => ("HalfLadders$Orchard", "quarrels", "[I", true)
  | 7 => ("HalfLadders$Orchard", "highs", "[I", true)
  | 8 => ("HalfLadders$Orchard", "ripes", "[I", true)
  | _ => ("HalfLadders$Orchard", "baskets", "[I", true)
def tyX3 : Nat → FieldType := fun k => match k with
  | 0 => .int
  | 1 => .int
  | 2 => .array .int
  | 3 => .array .int
  | 4 => .array .int
  | 5 => .array .int
  | 6 => .array .int
  | 7 => .array .int
  | 8 => .array .int
  | _ => .array .int
abbrev wsX30 : List Cond := u_ws RX3 TX3 10
theorem nmX3 : ∀ a, a < 10 → ∀ b, b < 10 → a ≠ b → (TX3 a).2.1 ≠ (TX3 b).2.1 := by decide +kernel
theorem tyX3_ok : ∀ k, k < 10 → parseFieldDescriptor (TX3 k).2.2.1 = some (tyX3 k) := by decide +kernel
abbrev cX3_init : ByteArray := prog_5_method_1_code
def yX3_init : MethodName := ⟨RX3, "<init>", "()V"⟩
abbrev cX3_empty : ByteArray := prog_5_method_2_code
def yX3_empty : MethodName := ⟨RX3, "empty", "()V"⟩
abbrev cX3_addHalf : ByteArray := prog_5_method_3_code
def yX3_addHalf : MethodName := ⟨RX3, "addHalf", "(IIII)V"⟩
abbrev cX3_addQuarrel : ByteArray := prog_5_method_4_code
def yX3_addQuarrel : MethodName := ⟨RX3, "addQuarrel", "(II)V"⟩
abbrev cX3_addTree : ByteArray := prog_5_method_5_code
def yX3_addTree : MethodName := ⟨RX3, "addTree", "(III)V"⟩
abbrev cX3_hasHalf : ByteArray := prog_5_method_6_code
def yX3_hasHalf : MethodName := ⟨RX3, "hasHalf", "(I)Z"⟩
abbrev cX3_hasTree : ByteArray := prog_5_method_7_code
def yX3_hasTree : MethodName := ⟨RX3, "hasTree", "(I)Z"⟩
abbrev cX3_everybody : ByteArray := prog_5_method_8_code
def yX3_everybody : MethodName := ⟨RX3, "everybody", "()I"⟩
abbrev cX3_couldFit : ByteArray := prog_5_method_9_code
def yX3_couldFit : MethodName := ⟨RX3, "couldFit", "(II)Z"⟩
abbrev cX3_fits : ByteArray := prog_5_method_10_code
def yX3_fits : MethodName := ⟨RX3, "fits", "(II)Z"⟩
abbrev cX3_quarrelPairs : ByteArray := prog_5_method_11_code
def yX3_quarrelPairs : MethodName := ⟨RX3, "quarrelPairs", "()I"⟩
abbrev cX3_isRipe : ByteArray := prog_5_method_12_code
def yX3_isRipe : MethodName := ⟨RX3, "isRipe", "(II)Z"⟩
def RX4 : String := "HalfLadders$Pairs"
def TX4 : u_T := fun k => match k with
  | 0 => ("HalfLadders$Pairs", "count", "I", false)
  | 1 => ("HalfLadders$Pairs", "allLefts", "I", false)
  | 2 => ("HalfLadders$Pairs", "lefts", "[I", true)
  | 3 => ("HalfLadders$Pairs", "rights", "[I", true)
  | 4 => ("HalfLadders$Pairs", "bits", "[I", true)
  | 5 => ("HalfLadders$Pairs", "gaps", "[I", true)
  | 6 => ("HalfLadders$Pairs", "ladders", "[I", true)
  | _ => ("HalfLadders$Pairs", "picks", "[I", true)
def tyX4 : Nat → FieldType := fun k => match k with
  | 0 => .int
  | 1 => .int
  | 2 => .array .int
  | 3 => .array .int
  | 4 => .array .int
  | 5 => .array .int
  | 6 => .array .int
  | _ => .array .int
abbrev wsX40 : List Cond := u_ws RX4 TX4 8
theorem nmX4 : ∀ a, a < 8 → ∀ b, b < 8 → a ≠ b → (TX4 a).2.1 ≠ (TX4 b).2.1 := by decide +kernel
theorem tyX4_ok : ∀ k, k < 8 → parseFieldDescriptor (TX4 k).2.2.1 = some (tyX4 k) := by decide +kernel
abbrev cX4_init : ByteArray := prog_6_method_1_code
def yX4_init : MethodName := ⟨RX4, "<init>", "()V"⟩
abbrev cX4_list : ByteArray := prog_6_method_2_code
def yX4_list : MethodName := ⟨RX4, "list", "(LHalfLadders$Orchard;)V"⟩
abbrev cX4_listOf : ByteArray := prog_6_method_3_code
def yX4_listOf : MethodName := ⟨RX4, "listOf", "(LHalfLadders$Orchard;I)V"⟩
abbrev cX4_indexOf : ByteArray := prog_6_method_4_code
def yX4_indexOf : MethodName := ⟨RX4, "indexOf", "(I)I"⟩
abbrev cX4_numberOf : ByteArray := prog_6_method_5_code
def yX4_numberOf : MethodName := ⟨RX4, "numberOf", "(I)I"⟩
abbrev cX4_howManyWith : ByteArray := prog_6_method_6_code
def yX4_howManyWith : MethodName := ⟨RX4, "howManyWith", "(I)I"⟩
abbrev cX4_leavesMarks : ByteArray := prog_6_method_7_code
def yX4_leavesMarks : MethodName := ⟨RX4, "leavesMarks", "(III)Z"⟩
abbrev cX4_howMany : ByteArray := prog_6_method_8_code
def yX4_howMany : MethodName := ⟨RX4, "howMany", "(II)I"⟩
abbrev cX4_firstOf : ByteArray := prog_6_method_9_code
def yX4_firstOf : MethodName := ⟨RX4, "firstOf", "(II)I"⟩
def RX5 : String := "HalfLadders$Plan"
def TX5 : u_T := fun k => match k with
  | 0 => ("HalfLadders$Plan", "chosen", "[I", true)
  | 1 => ("HalfLadders$Plan", "gains", "[[I", true)
  | _ => ("HalfLadders$Plan", "most", "[[I", true)
def tyX5 : Nat → FieldType := fun k => match k with
  | 0 => .array .int
  | 1 => .array (.array .int)
  | _ => .array (.array .int)
abbrev wsX50 : List Cond := u_ws RX5 TX5 3
theorem nmX5 : ∀ a, a < 3 → ∀ b, b < 3 → a ≠ b → (TX5 a).2.1 ≠ (TX5 b).2.1 := by decide +kernel
theorem tyX5_ok : ∀ k, k < 3 → parseFieldDescriptor (TX5 k).2.2.1 = some (tyX5 k) := by decide +kernel
abbrev cX5_init : ByteArray := prog_7_method_1_code
def yX5_init : MethodName := ⟨RX5, "<init>", "()V"⟩
abbrev cX5_make : ByteArray := prog_7_method_2_code
def yX5_make : MethodName := ⟨RX5, "make", "(LHalfLadders$Orchard;LHalfLadders$Pairs;LHalfLadders$Now;)I"⟩
abbrev cX5_canBeTaken : ByteArray := prog_7_method_3_code
def yX5_canBeTaken : MethodName := ⟨RX5, "canBeTaken", "(LHalfLadders$Pairs;II)Z"⟩
abbrev cX5_mostFrom : ByteArray := prog_7_method_4_code
def yX5_mostFrom : MethodName := ⟨RX5, "mostFrom", "(LHalfLadders$Pairs;II)I"⟩
abbrev cX5_canClimb : ByteArray := prog_7_method_5_code
def yX5_canClimb : MethodName := ⟨RX5, "canClimb", "(LHalfLadders$Pairs;III)Z"⟩
abbrev cX5_with : ByteArray := prog_7_method_6_code
def yX5_with : MethodName := ⟨RX5, "with", "(LHalfLadders$Pairs;III)I"⟩
abbrev cX5_choose : ByteArray := prog_7_method_7_code
def yX5_choose : MethodName := ⟨RX5, "choose", "(LHalfLadders$Orchard;LHalfLadders$Pairs;)V"⟩
abbrev cX5_firstOfBest : ByteArray := prog_7_method_8_code
def yX5_firstOfBest : MethodName := ⟨RX5, "firstOfBest", "(LHalfLadders$Pairs;II)I"⟩
abbrev cX5_carryOut : ByteArray := prog_7_method_9_code
def yX5_carryOut : MethodName := ⟨RX5, "carryOut", "(LHalfLadders$Orchard;LHalfLadders$Pairs;LHalfLadders$Now;)V"⟩
def RX6 : String := "HalfLadders$Reader"
def TX6 : u_T := fun k => match k with
  | 0 => ("HalfLadders$Reader", "text", "LHalfLadders$Text;", true)
  | 1 => ("HalfLadders$Reader", "looked", "I", false)
  | 2 => ("HalfLadders$Reader", "token", "I", false)
  | _ => ("HalfLadders$Reader", "value", "I", false)
def tyX6 : Nat → FieldType := fun k => match k with
  | 0 => .object "HalfLadders$Text"
  | 1 => .int
  | 2 => .int
  | _ => .int
abbrev wsX60 : List Cond := u_ws RX6 TX6 4
theorem nmX6 : ∀ a, a < 4 → ∀ b, b < 4 → a ≠ b → (TX6 a).2.1 ≠ (TX6 b).2.1 := by decide +kernel
theorem tyX6_ok : ∀ k, k < 4 → parseFieldDescriptor (TX6 k).2.2.1 = some (tyX6 k) := by decide +kernel
abbrev cX6_init : ByteArray := prog_8_method_1_code
def yX6_init : MethodName := ⟨RX6, "<init>", "(LHalfLadders$Text;)V"⟩
abbrev cX6_readAll : ByteArray := prog_8_method_2_code
def yX6_readAll : MethodName := ⟨RX6, "readAll", "(LHalfLadders$Orchard;)I"⟩
abbrev cX6_look : ByteArray := prog_8_method_3_code
def yX6_look : MethodName := ⟨RX6, "look", "()V"⟩
abbrev cX6_advance : ByteArray := prog_8_method_4_code
def yX6_advance : MethodName := ⟨RX6, "advance", "()V"⟩
abbrev cX6_readItem : ByteArray := prog_8_method_5_code
def yX6_readItem : MethodName := ⟨RX6, "readItem", "(LHalfLadders$Orchard;)Z"⟩
abbrev cX6_readHalf : ByteArray := prog_8_method_6_code
def yX6_readHalf : MethodName := ⟨RX6, "readHalf", "(LHalfLadders$Orchard;I)Z"⟩
abbrev cX6_readQuarrel : ByteArray := prog_8_method_7_code
def yX6_readQuarrel : MethodName := ⟨RX6, "readQuarrel", "(LHalfLadders$Orchard;)Z"⟩
abbrev cX6_readTree : ByteArray := prog_8_method_8_code
def yX6_readTree : MethodName := ⟨RX6, "readTree", "(LHalfLadders$Orchard;)Z"⟩
abbrev cX6_readNumber : ByteArray := prog_8_method_9_code
def yX6_readNumber : MethodName := ⟨RX6, "readNumber", "(II)Z"⟩
abbrev cX6_readSemicolon : ByteArray := prog_8_method_10_code
def yX6_readSemicolon : MethodName := ⟨RX6, "readSemicolon", "()Z"⟩
def RX7 : String := "HalfLadders$Sums"
def TX7 : u_T := fun k => match k with
  | _ => ("HalfLadders$Sums", "wholes", "[I", true)
def tyX7 : Nat → FieldType := fun k => match k with
  | _ => .array .int
abbrev wsX70 : List Cond := u_ws RX7 TX7 1
theorem nmX7 : ∀ a, a < 1 → ∀ b, b < 1 → a ≠ b → (TX7 a).2.1 ≠ (TX7 b).2.1 := by decide +kernel
theorem tyX7_ok : ∀ k, k < 1 → parseFieldDescriptor (TX7 k).2.2.1 = some (tyX7 k) := by decide +kernel
abbrev cX7_init : ByteArray := prog_9_method_1_code
def yX7_init : MethodName := ⟨RX7, "<init>", "()V"⟩
abbrev cX7_reckon : ByteArray := prog_9_method_2_code
def yX7_reckon : MethodName := ⟨RX7, "reckon", "(LHalfLadders$Orchard;LHalfLadders$Pairs;)V"⟩
abbrev cX7_wholeOf : ByteArray := prog_9_method_3_code
def yX7_wholeOf : MethodName := ⟨RX7, "wholeOf", "(LHalfLadders$Pairs;I)I"⟩
abbrev cX7_grownOverOrders : ByteArray := prog_9_method_4_code
def yX7_grownOverOrders : MethodName := ⟨RX7, "grownOverOrders", "(II)I"⟩
def RX8 : String := "HalfLadders$Text"
def TX8 : u_T := fun k => match k with
  | 0 => ("HalfLadders$Text", "bytes", "[B", true)
  | 1 => ("HalfLadders$Text", "length", "I", false)
  | 2 => ("HalfLadders$Text", "tokens", "[I", true)
  | 3 => ("HalfLadders$Text", "places", "[I", true)
  | _ => ("HalfLadders$Text", "values", "[I", true)
def tyX8 : Nat → FieldType := fun k => match k with
  | 0 => .array .byte
  | 1 => .int
  | 2 => .array .int
  | 3 => .array .int
  | _ => .array .int
abbrev wsX80 : List Cond := u_ws RX8 TX8 5
theorem nmX8 : ∀ a, a < 5 → ∀ b, b < 5 → a ≠ b → (TX8 a).2.1 ≠ (TX8 b).2.1 := by decide +kernel
theorem tyX8_ok : ∀ k, k < 5 → parseFieldDescriptor (TX8 k).2.2.1 = some (tyX8 k) := by decide +kernel
abbrev cX8_init : ByteArray := prog_10_method_1_code
def yX8_init : MethodName := ⟨RX8, "<init>", "()V"⟩
abbrev cX8_room : ByteArray := prog_10_method_2_code
def yX8_room : MethodName := ⟨RX8, "room", "()I"⟩
abbrev cX8_add : ByteArray := prog_10_method_3_code
def yX8_add : MethodName := ⟨RX8, "add", "(B)V"⟩
abbrev cX8_at : ByteArray := prog_10_method_4_code
def yX8_at : MethodName := ⟨RX8, "at", "(I)I"⟩
abbrev cX8_cutIntoTokens : ByteArray := prog_10_method_5_code
def yX8_cutIntoTokens : MethodName := ⟨RX8, "cutIntoTokens", "()V"⟩
abbrev cX8_endOfToken : ByteArray := prog_10_method_6_code
def yX8_endOfToken : MethodName := ⟨RX8, "endOfToken", "(I)I"⟩
abbrev cX8_tokenOf : ByteArray := prog_10_method_7_code
def yX8_tokenOf : MethodName := ⟨RX8, "tokenOf", "(II)I"⟩
abbrev cX8_spells : ByteArray := prog_10_method_8_code
def yX8_spells : MethodName := ⟨RX8, "spells", "(Ljava/lang/String;II)Z"⟩
abbrev cX8_numberAt : ByteArray := prog_10_method_9_code
def yX8_numberAt : MethodName := ⟨RX8, "numberAt", "(II)I"⟩
abbrev cX8_isLetter : ByteArray := prog_10_method_10_code
def yX8_isLetter : MethodName := ⟨RX8, "isLetter", "(I)Z"⟩
abbrev cX8_isDigit : ByteArray := prog_10_method_11_code
def yX8_isDigit : MethodName := ⟨RX8, "isDigit", "(I)Z"⟩
def RX9 : String := "HalfLadders"
def TX9 : u_T := fun k => match k with
  | 0 => ("HalfLadders", "text", "LHalfLadders$Text;", true)
  | 1 => ("HalfLadders", "reader", "LHalfLadders$Reader;", true)
  | 2 => ("HalfLadders", "told", "LHalfLadders$Orchard;", false)
  | 3 => ("HalfLadders", "draft", "LHalfLadders$Orchard;", false)
  | 4 => ("HalfLadders", "pairs", "LHalfLadders$Pairs;", true)
  | 5 => ("HalfLadders", "sums", "LHalfLadders$Sums;", true)
  | 6 => ("HalfLadders", "cutting", "LHalfLadders$Cutting;", true)
  | 7 => ("HalfLadders", "liking", "LHalfLadders$Liking;", true)
  | 8 => ("HalfLadders", "plan", "LHalfLadders$Plan;", true)
  | 9 => ("HalfLadders", "present", "LHalfLadders$Now;", true)
  | 10 => ("HalfLadders", "ahead", "LHalfLadders$Now;", true)
  | 11 => ("HalfLadders", "images", "[LHalfLadders$Now;", true)
  | 12 => ("HalfLadders", "kept", "[Z", true)
  | _ => ("HalfLadders", "traced", "J", false)
def tyX9 : Nat → FieldType := fun k => match k with
  | 0 => .object "HalfLadders$Text"
  | 1 => .object "HalfLadders$Reader"
  | 2 => .object "HalfLadders$Orchard"
  | 3 => .object "HalfLadders$Orchard"
  | 4 => .object "HalfLadders$Pairs"
  | 5 => .object "HalfLadders$Sums"
  | 6 => .object "HalfLadders$Cutting"
  | 7 => .object "HalfLadders$Liking"
  | 8 => .object "HalfLadders$Plan"
  | 9 => .object "HalfLadders$Now"
  | 10 => .object "HalfLadders$Now"
  | 11 => .array (.object "HalfLadders$Now")
  | 12 => .array .boolean
  | _ => .long
abbrev wsX90 : List Cond := u_ws RX9 TX9 14
theorem nmX9 : ∀ a, a < 14 → ∀ b, b < 14 → a ≠ b → (TX9 a).2.1 ≠ (TX9 b).2.1 := by decide +kernel
theorem tyX9_ok : ∀ k, k < 14 → parseFieldDescriptor (TX9 k).2.2.1 = some (tyX9 k) := by decide +kernel
abbrev cX9_init : ByteArray := prog_1_method_1_code
def yX9_init : MethodName := ⟨RX9, "<init>", "()V"⟩
abbrev cX9_type : ByteArray := prog_1_method_2_code
def yX9_type : MethodName := ⟨RX9, "type", "(JI)I"⟩
abbrev cX9_clear : ByteArray := prog_1_method_3_code
def yX9_clear : MethodName := ⟨RX9, "clear", "()I"⟩
abbrev cX9_orchard : ByteArray := prog_1_method_4_code
def yX9_orchard : MethodName := ⟨RX9, "orchard", "()I"⟩
abbrev cX9_half : ByteArray := prog_1_method_5_code
def yX9_half : MethodName := ⟨RX9, "half", "(II)I"⟩
abbrev cX9_tree : ByteArray := prog_1_method_6_code
def yX9_tree : MethodName := ⟨RX9, "tree", "(II)I"⟩
abbrev cX9_fit : ByteArray := prog_1_method_7_code
def yX9_fit : MethodName := ⟨RX9, "fit", "(II)I"⟩
abbrev cX9_climb : ByteArray := prog_1_method_8_code
def yX9_climb : MethodName := ⟨RX9, "climb", "(III)I"⟩
abbrev cX9_ends : ByteArray := prog_1_method_9_code
def yX9_ends : MethodName := ⟨RX9, "ends", "()I"⟩
abbrev cX9_now : ByteArray := prog_1_method_10_code
def yX9_now : MethodName := ⟨RX9, "now", "(I)I"⟩
abbrev cX9_year : ByteArray := prog_1_method_11_code
def yX9_year : MethodName := ⟨RX9, "year", "()I"⟩
abbrev cX9_lot : ByteArray := prog_1_method_12_code
def yX9_lot : MethodName := ⟨RX9, "lot", "(I)I"⟩
abbrev cX9_best : ByteArray := prog_1_method_13_code
def yX9_best : MethodName := ⟨RX9, "best", "(I)I"⟩
abbrev cX9_season : ByteArray := prog_1_method_14_code
def yX9_season : MethodName := ⟨RX9, "season", "(I)I"⟩
abbrev cX9_whole : ByteArray := prog_1_method_15_code
def yX9_whole : MethodName := ⟨RX9, "whole", "(I)I"⟩
abbrev cX9_worth : ByteArray := prog_1_method_16_code
def yX9_worth : MethodName := ⟨RX9, "worth", "(II)I"⟩
abbrev cX9_asked : ByteArray := prog_1_method_17_code
def yX9_asked : MethodName := ⟨RX9, "asked", "(I)I"⟩
abbrev cX9_rests : ByteArray := prog_1_method_18_code
def yX9_rests : MethodName := ⟨RX9, "rests", "()I"⟩
abbrev cX9_cuts : ByteArray := prog_1_method_19_code
def yX9_cuts : MethodName := ⟨RX9, "cuts", "(I)I"⟩
abbrev cX9_whose : ByteArray := prog_1_method_20_code
def yX9_whose : MethodName := ⟨RX9, "whose", "(III)I"⟩
abbrev cX9_mark : ByteArray := prog_1_method_21_code
def yX9_mark : MethodName := ⟨RX9, "mark", "(II)I"⟩
abbrev cX9_keep : ByteArray := prog_1_method_22_code
def yX9_keep : MethodName := ⟨RX9, "keep", "(I)I"⟩
abbrev cX9_back : ByteArray := prog_1_method_23_code
def yX9_back : MethodName := ⟨RX9, "back", "(I)I"⟩
abbrev cX9_count : ByteArray := prog_1_method_24_code
def yX9_count : MethodName := ⟨RX9, "count", "(I)I"⟩
abbrev cX9_trace : ByteArray := prog_1_method_25_code
def yX9_trace : MethodName := ⟨RX9, "trace", "()J"⟩
abbrev cX9_startAnew : ByteArray := prog_1_method_26_code
def yX9_startAnew : MethodName := ⟨RX9, "startAnew", "()V"⟩
abbrev cX9_areTwo : ByteArray := prog_1_method_27_code
def yX9_areTwo : MethodName := ⟨RX9, "areTwo", "(II)Z"⟩
abbrev cX9_isImage : ByteArray := prog_1_method_28_code
def yX9_isImage : MethodName := ⟨RX9, "isImage", "(I)Z"⟩
abbrev cX9_greatestDivisor : ByteArray := prog_1_method_29_code
def yX9_greatestDivisor : MethodName := ⟨RX9, "greatestDivisor", "(II)I"⟩
abbrev cX9_markAs : ByteArray := prog_1_method_30_code
def yX9_markAs : MethodName := ⟨RX9, "markAs", "(LHalfLadders;III)I"⟩
abbrev cX9_restsFrom : ByteArray := prog_1_method_31_code
def yX9_restsFrom : MethodName := ⟨RX9, "restsFrom", "(LHalfLadders$Liking;LHalfLadders$Pairs;I)I"⟩
def RX10 : String := "HalfLaddersModel"
def TX10 : u_T := fun k => match k with
  | 0 => ("HalfLaddersModel", "trace", "J", false)
  | 1 => ("HalfLaddersModel", "text", "[B", true)
  | 2 => ("HalfLaddersModel", "typed", "I", false)
  | 3 => ("HalfLaddersModel", "people", "[I", true)
  | 4 => ("HalfLaddersModel", "side", "[I", true)
  | 5 => ("HalfLaddersModel", "gap", "[I", true)
  | 6 => ("HalfLaddersModel", "tall", "[I", true)
  | 7 => ("HalfLaddersModel", "pace", "[I", true)
  | 8 => ("HalfLaddersModel", "quarrel", "[Z", true)
  | 9 => ("HalfLaddersModel", "trees", "[I", true)
  | 10 => ("HalfLaddersModel", "high", "[I", true)
  | 11 => ("HalfLaddersModel", "ripe", "[I", true)
  | 12 => ("HalfLaddersModel", "hangs", "[I", true)
  | 13 => ("HalfLaddersModel", "at", "I", false)
  | 14 => ("HalfLaddersModel", "start", "I", false)
  | 15 => ("HalfLaddersModel", "sort", "I", false)
  | 16 => ("HalfLaddersModel", "value", "I", false)
  | 17 => ("HalfLaddersModel", "fault", "I", false)
  | 18 => ("HalfLaddersModel", "now", "[I", true)
  | 19 => ("HalfLaddersModel", "isKept", "[Z", true)
  | 20 => ("HalfLaddersModel", "most", "[I", true)
  | 21 => ("HalfLaddersModel", "pairAt", "[I", true)
  | 22 => ("HalfLaddersModel", "wholes", "[I", true)
  | 23 => ("HalfLaddersModel", "with", "[I", true)
  | 24 => ("HalfLaddersModel", "turnedDown", "[I", true)
  | 25 => ("HalfLaddersModel", "fewest", "[I", true)
  | _ => ("HalfLaddersModel", "then", "[I", true)
def tyX10 : Nat → FieldType := fun k => match k with
  | 0 => .long
  | 1 => .array .byte
  | 2 => .int
  | 3 => .array .int
  | 4 => .array .int
  | 5 => .array .int
  | 6 => .array .int
  | 7 => .array .int
  | 8 => .array .boolean
  | 9 => .array .int
  | 10 => .array .int
  | 11 => .array .int
  | 12 => .array .int
  | 13 => .int
  | 14 => .int
  | 15 => .int
  | 16 => .int
  | 17 => .int
  | 18 => .array .int
  | 19 => .array .boolean
  | 20 => .array .int
  | 21 => .array .int
  | 22 => .array .int
  | 23 => .array .int
  | 24 => .array .int
  | 25 => .array .int
  | _ => .array .int
abbrev wsX100 : List Cond := u_ws RX10 TX10 27
theorem nmX10 : ∀ a, a < 27 → ∀ b, b < 27 → a ≠ b → (TX10 a).2.1 ≠ (TX10 b).2.1 := by decide +kernel
theorem tyX10_ok : ∀ k, k < 27 → parseFieldDescriptor (TX10 k).2.2.1 = some (tyX10 k) := by decide +kernel
abbrev cX10_init : ByteArray := prog_12_method_1_code
def yX10_init : MethodName := ⟨RX10, "<init>", "()V"⟩
abbrev cX10_in : ByteArray := prog_12_method_3_code
def yX10_in : MethodName := ⟨RX10, "in", "(III)Z"⟩
abbrev cX10_type : ByteArray := prog_12_method_4_code
def yX10_type : MethodName := ⟨RX10, "type", "(JI)I"⟩
abbrev cX10_clear : ByteArray := prog_12_method_5_code
def yX10_clear : MethodName := ⟨RX10, "clear", "()I"⟩
abbrev cX10_here : ByteArray := prog_12_method_6_code
def yX10_here : MethodName := ⟨RX10, "here", "()I"⟩
abbrev cX10_meaning : ByteArray := prog_12_method_7_code
def yX10_meaning : MethodName := ⟨RX10, "meaning", "(II)I"⟩
abbrev cX10_next : ByteArray := prog_12_method_8_code
def yX10_next : MethodName := ⟨RX10, "next", "()V"⟩
abbrev cX10_due : ByteArray := prog_12_method_9_code
def yX10_due : MethodName := ⟨RX10, "due", "(Z)I"⟩
abbrev cX10_number : ByteArray := prog_12_method_10_code
def yX10_number : MethodName := ⟨RX10, "number", "(II)I"⟩
abbrev cX10_readItem : ByteArray := prog_12_method_11_code
def yX10_readItem : MethodName := ⟨RX10, "readItem", "()V"⟩
abbrev cX10_orchard : ByteArray := prog_12_method_12_code
def yX10_orchard : MethodName := ⟨RX10, "orchard", "()I"⟩
abbrev cX10_isOne : ByteArray := prog_12_method_13_code
def yX10_isOne : MethodName := ⟨RX10, "isOne", "(I)Z"⟩
abbrev cX10_isTree : ByteArray := prog_12_method_14_code
def yX10_isTree : MethodName := ⟨RX10, "isTree", "(I)Z"⟩
abbrev cX10_fits : ByteArray := prog_12_method_15_code
def yX10_fits : MethodName := ⟨RX10, "fits", "(II)Z"⟩
abbrev cX10_ladder : ByteArray := prog_12_method_16_code
def yX10_ladder : MethodName := ⟨RX10, "ladder", "(II)I"⟩
abbrev cX10_half : ByteArray := prog_12_method_17_code
def yX10_half : MethodName := ⟨RX10, "half", "(II)I"⟩
abbrev cX10_tree : ByteArray := prog_12_method_18_code
def yX10_tree : MethodName := ⟨RX10, "tree", "(II)I"⟩
abbrev cX10_fit : ByteArray := prog_12_method_19_code
def yX10_fit : MethodName := ⟨RX10, "fit", "(II)I"⟩
abbrev cX10_begin : ByteArray := prog_12_method_20_code
def yX10_begin : MethodName := ⟨RX10, "begin", "()V"⟩
abbrev cX10_mayClimb : ByteArray := prog_12_method_21_code
def yX10_mayClimb : MethodName := ⟨RX10, "mayClimb", "(IIII)Z"⟩
abbrev cX10_picks : ByteArray := prog_12_method_22_code
def yX10_picks : MethodName := ⟨RX10, "picks", "(IIII)I"⟩
abbrev cX10_climbs : ByteArray := prog_12_method_23_code
def yX10_climbs : MethodName := ⟨RX10, "climbs", "(IIII)I"⟩
abbrev cX10_endDay : ByteArray := prog_12_method_24_code
def yX10_endDay : MethodName := ⟨RX10, "endDay", "(I)I"⟩
abbrev cX10_climb : ByteArray := prog_12_method_25_code
def yX10_climb : MethodName := ⟨RX10, "climb", "(III)I"⟩
abbrev cX10_ends : ByteArray := prog_12_method_26_code
def yX10_ends : MethodName := ⟨RX10, "ends", "()I"⟩
abbrev cX10_now : ByteArray := prog_12_method_27_code
def yX10_now : MethodName := ⟨RX10, "now", "(I)I"⟩
abbrev cX10_year : ByteArray := prog_12_method_28_code
def yX10_year : MethodName := ⟨RX10, "year", "()I"⟩
abbrev cX10_lot : ByteArray := prog_12_method_29_code
def yX10_lot : MethodName := ⟨RX10, "lot", "(I)I"⟩
abbrev cX10_leftOf : ByteArray := prog_12_method_30_code
def yX10_leftOf : MethodName := ⟨RX10, "leftOf", "(I)I"⟩
abbrev cX10_mayPair : ByteArray := prog_12_method_31_code
def yX10_mayPair : MethodName := ⟨RX10, "mayPair", "(IIII)Z"⟩
abbrev cX10_findBest : ByteArray := prog_12_method_32_code
def yX10_findBest : MethodName := ⟨RX10, "findBest", "(I)V"⟩
abbrev cX10_best : ByteArray := prog_12_method_33_code
def yX10_best : MethodName := ⟨RX10, "best", "(I)I"⟩
abbrev cX10_copy : ByteArray := prog_12_method_34_code
def yX10_copy : MethodName := ⟨RX10, "copy", "(II)V"⟩
abbrev cX10_season : ByteArray := prog_12_method_35_code
def yX10_season : MethodName := ⟨RX10, "season", "(I)I"⟩
abbrev cX10_findWholes : ByteArray := prog_12_method_36_code
def yX10_findWholes : MethodName := ⟨RX10, "findWholes", "()V"⟩
abbrev cX10_whole : ByteArray := prog_12_method_37_code
def yX10_whole : MethodName := ⟨RX10, "whole", "(I)I"⟩
abbrev cX10_orders : ByteArray := prog_12_method_38_code
def yX10_orders : MethodName := ⟨RX10, "orders", "(I)I"⟩
abbrev cX10_bitsIn : ByteArray := prog_12_method_39_code
def yX10_bitsIn : MethodName := ⟨RX10, "bitsIn", "(I)I"⟩
abbrev cX10_common : ByteArray := prog_12_method_40_code
def yX10_common : MethodName := ⟨RX10, "common", "(II)I"⟩
abbrev cX10_worth : ByteArray := prog_12_method_41_code
def yX10_worth : MethodName := ⟨RX10, "worth", "(II)I"⟩
abbrev cX10_likes : ByteArray := prog_12_method_42_code
def yX10_likes : MethodName := ⟨RX10, "likes", "(III)Z"⟩
abbrev cX10_asksNext : ByteArray := prog_12_method_43_code
def yX10_asksNext : MethodName := ⟨RX10, "asksNext", "(I)I"⟩
abbrev cX10_ask : ByteArray := prog_12_method_44_code
def yX10_ask : MethodName := ⟨RX10, "ask", "()V"⟩
abbrev cX10_asked : ByteArray := prog_12_method_45_code
def yX10_asked : MethodName := ⟨RX10, "asked", "(I)I"⟩
abbrev cX10_pair : ByteArray := prog_12_method_46_code
def yX10_pair : MethodName := ⟨RX10, "pair", "(II)Z"⟩
abbrev cX10_right : ByteArray := prog_12_method_47_code
def yX10_right : MethodName := ⟨RX10, "right", "(I)I"⟩
abbrev cX10_isRest : ByteArray := prog_12_method_48_code
def yX10_isRest : MethodName := ⟨RX10, "isRest", "()Z"⟩
abbrev cX10_rests : ByteArray := prog_12_method_49_code
def yX10_rests : MethodName := ⟨RX10, "rests", "()I"⟩
abbrev cX10_cuts : ByteArray := prog_12_method_50_code
def yX10_cuts : MethodName := ⟨RX10, "cuts", "(I)I"⟩
abbrev cX10_cutOne : ByteArray := prog_12_method_51_code
def yX10_cutOne : MethodName := ⟨RX10, "cutOne", "(II)V"⟩
abbrev cX10_whose : ByteArray := prog_12_method_52_code
def yX10_whose : MethodName := ⟨RX10, "whose", "(III)I"⟩
abbrev cX10_mark : ByteArray := prog_12_method_53_code
def yX10_mark : MethodName := ⟨RX10, "mark", "(II)I"⟩
abbrev cX10_keep : ByteArray := prog_12_method_54_code
def yX10_keep : MethodName := ⟨RX10, "keep", "(I)I"⟩
abbrev cX10_back : ByteArray := prog_12_method_55_code
def yX10_back : MethodName := ⟨RX10, "back", "(I)I"⟩
abbrev cX10_count : ByteArray := prog_12_method_56_code
def yX10_count : MethodName := ⟨RX10, "count", "(I)I"⟩
abbrev cX10_trace : ByteArray := prog_12_method_57_code
def yX10_trace : MethodName := ⟨RX10, "trace", "()J"⟩
def RJx145de : String := "java/io/Serializable"
def TJx145de : u_T := fun k => match k with
  | _ => ("", "", "", false)
def tyJx145de : Nat → FieldType := fun k => match k with
  | _ => .int
abbrev wsJx145de0 : List Cond := u_ws RJx145de TJx145de 0
theorem nmJx145de : ∀ a, a < 0 → ∀ b, b < 0 → a ≠ b → (TJx145de a).2.1 ≠ (TJx145de b).2.1 := by decide +kernel
theorem tyJx145de_ok : ∀ k, k < 0 → parseFieldDescriptor (TJx145de k).2.2.1 = some (tyJx145de k) := by decide +kernel
def RJx9f9b0 : String := "java/lang/CharSequence"
def TJx9f9b0 : u_T := fun k => match k with
  | _ => ("", "", "", false)
def tyJx9f9b0 : Nat → FieldType := fun k => match k with
  | _ => .int
abbrev wsJx9f9b00 : List Cond := u_ws RJx9f9b0 TJx9f9b0 0
theorem nmJx9f9b0 : ∀ a, a < 0 → ∀ b, b < 0 → a ≠ b → (TJx9f9b0 a).2.1 ≠ (TJx9f9b0 b).2.1 := by decide +kernel
theorem tyJx9f9b0_ok : ∀ k, k < 0 → parseFieldDescriptor (TJx9f9b0 k).2.2.1 = some (tyJx9f9b0 k) := by decide +kernel
def RJxb160c : String := "java/lang/Comparable"
def TJxb160c : u_T := fun k => match k with
  | _ => ("", "", "", false)
def tyJxb160c : Nat → FieldType := fun k => match k with
  | _ => .int
abbrev wsJxb160c0 : List Cond := u_ws RJxb160c TJxb160c 0
theorem nmJxb160c : ∀ a, a < 0 → ∀ b, b < 0 → a ≠ b → (TJxb160c a).2.1 ≠ (TJxb160c b).2.1 := by decide +kernel
theorem tyJxb160c_ok : ∀ k, k < 0 → parseFieldDescriptor (TJxb160c k).2.2.1 = some (tyJxb160c k) := by decide +kernel
def RJ6 : String := "java/lang/Integer"
def TJ6 : u_T := fun k => match k with
  | _ => ("", "", "", false)
def tyJ6 : Nat → FieldType := fun k => match k with
  | _ => .int
abbrev wsJ60 : List Cond := u_ws RJ6 TJ6 0
theorem nmJ6 : ∀ a, a < 0 → ∀ b, b < 0 → a ≠ b → (TJ6 a).2.1 ≠ (TJ6 b).2.1 := by decide +kernel
theorem tyJ6_ok : ∀ k, k < 0 → parseFieldDescriptor (TJ6 k).2.2.1 = some (tyJ6 k) := by decide +kernel
abbrev cJ6_numberOfTrailingZeros_0f7a4 : ByteArray := prog_13_method_48_code
def yJ6_numberOfTrailingZeros_0f7a4 : MethodName := ⟨RJ6, "numberOfTrailingZeros", "(I)I"⟩
abbrev cJ6_bitCount_0f7a4 : ByteArray := prog_13_method_49_code
def yJ6_bitCount_0f7a4 : MethodName := ⟨RJ6, "bitCount", "(I)I"⟩
def RJ9 : String := "java/lang/Math"
def TJ9 : u_T := fun k => match k with
  | _ => ("", "", "", false)
def tyJ9 : Nat → FieldType := fun k => match k with
  | _ => .int
abbrev wsJ90 : List Cond := u_ws RJ9 TJ9 0
theorem nmJ9 : ∀ a, a < 0 → ∀ b, b < 0 → a ≠ b → (TJ9 a).2.1 ≠ (TJ9 b).2.1 := by decide +kernel
theorem tyJ9_ok : ∀ k, k < 0 → parseFieldDescriptor (TJ9 k).2.2.1 = some (tyJ9 k) := by decide +kernel
abbrev cJ9_abs_0f7a4 : ByteArray := prog_14_method_59_code
def yJ9_abs_0f7a4 : MethodName := ⟨RJ9, "abs", "(I)I"⟩
abbrev cJ9_max_7cf53 : ByteArray := prog_14_method_65_code
def yJ9_max_7cf53 : MethodName := ⟨RJ9, "max", "(II)I"⟩
abbrev cJ9_min_7cf53 : ByteArray := prog_14_method_69_code
def yJ9_min_7cf53 : MethodName := ⟨RJ9, "min", "(II)I"⟩
def RJ0 : String := "java/lang/String"
def TJ0 : u_T := fun k => match k with
  | _ => ("", "", "", false)
def tyJ0 : Nat → FieldType := fun k => match k with
  | _ => .int
abbrev wsJ00 : List Cond := u_ws RJ0 TJ0 0
theorem nmJ0 : ∀ a, a < 0 → ∀ b, b < 0 → a ≠ b → (TJ0 a).2.1 ≠ (TJ0 b).2.1 := by decide +kernel
theorem tyJ0_ok : ∀ k, k < 0 → parseFieldDescriptor (TJ0 k).2.2.1 = some (tyJ0 k) := by decide +kernel
abbrev cJ0_length_8abf5 : ByteArray := prog_15_method_54_code
def yJ0_length_8abf5 : MethodName := ⟨RJ0, "length", "()I"⟩
abbrev cJ0_charAt_5068e : ByteArray := prog_15_method_56_code
def yJ0_charAt_5068e : MethodName := ⟨RJ0, "charAt", "(I)C"⟩
abbrev cJ0_coder_7d493 : ByteArray := prog_15_method_152_code
def yJ0_coder_7d493 : MethodName := ⟨RJ0, "coder", "()B"⟩
abbrev cJ0_isLatin1_aae02 : ByteArray := prog_15_method_154_code
def yJ0_isLatin1_aae02 : MethodName := ⟨RJ0, "isLatin1", "()Z"⟩
abbrev cJ0_checkIndex_df160 : ByteArray := prog_15_method_155_code
def yJ0_checkIndex_df160 : MethodName := ⟨RJ0, "checkIndex", "(II)V"⟩
def RJ1 : String := "java/lang/StringLatin1"
def TJ1 : u_T := fun k => match k with
  | _ => ("", "", "", false)
def tyJ1 : Nat → FieldType := fun k => match k with
  | _ => .int
abbrev wsJ10 : List Cond := u_ws RJ1 TJ1 0
theorem nmJ1 : ∀ a, a < 0 → ∀ b, b < 0 → a ≠ b → (TJ1 a).2.1 ≠ (TJ1 b).2.1 := by decide +kernel
theorem tyJ1_ok : ∀ k, k < 0 → parseFieldDescriptor (TJ1 k).2.2.1 = some (tyJ1 k) := by decide +kernel
abbrev cJ1_charAt_3b067 : ByteArray := prog_16_method_2_code
def yJ1_charAt_3b067 : MethodName := ⟨RJ1, "charAt", "([BI)C"⟩
def RJ2 : String := "java/lang/StringUTF16"
def TJ2 : u_T := fun k => match k with
  | _ => ("", "", "", false)
def tyJ2 : Nat → FieldType := fun k => match k with
  | _ => .int
abbrev wsJ20 : List Cond := u_ws RJ2 TJ2 0
theorem nmJ2 : ∀ a, a < 0 → ∀ b, b < 0 → a ≠ b → (TJ2 a).2.1 ≠ (TJ2 b).2.1 := by decide +kernel
theorem tyJ2_ok : ∀ k, k < 0 → parseFieldDescriptor (TJ2 k).2.2.1 = some (tyJ2 k) := by decide +kernel
abbrev cJ2_getChar_3b067 : ByteArray := prog_17_method_5_code
def yJ2_getChar_3b067 : MethodName := ⟨RJ2, "getChar", "([BI)C"⟩
abbrev cJ2_length_9d52b : ByteArray := prog_17_method_6_code
def yJ2_length_9d52b : MethodName := ⟨RJ2, "length", "([B)I"⟩
abbrev cJ2_charAt_3b067 : ByteArray := prog_17_method_83_code
def yJ2_charAt_3b067 : MethodName := ⟨RJ2, "charAt", "([BI)C"⟩
abbrev cJ2_checkIndex_2214a : ByteArray := prog_17_method_91_code
def yJ2_checkIndex_2214a : MethodName := ⟨RJ2, "checkIndex", "(I[B)V"⟩
def RJxfd54e : String := "java/lang/constant/Constable"
def TJxfd54e : u_T := fun k => match k with
  | _ => ("", "", "", false)
def tyJxfd54e : Nat → FieldType := fun k => match k with
  | _ => .int
abbrev wsJxfd54e0 : List Cond := u_ws RJxfd54e TJxfd54e 0
theorem nmJxfd54e : ∀ a, a < 0 → ∀ b, b < 0 → a ≠ b → (TJxfd54e a).2.1 ≠ (TJxfd54e b).2.1 := by decide +kernel
theorem tyJxfd54e_ok : ∀ k, k < 0 → parseFieldDescriptor (TJxfd54e k).2.2.1 = some (tyJxfd54e k) := by decide +kernel
def RJx3cf43 : String := "java/lang/constant/ConstantDesc"
def TJx3cf43 : u_T := fun k => match k with
  | _ => ("", "", "", false)
def tyJx3cf43 : Nat → FieldType := fun k => match k with
  | _ => .int
abbrev wsJx3cf430 : List Cond := u_ws RJx3cf43 TJx3cf43 0
theorem nmJx3cf43 : ∀ a, a < 0 → ∀ b, b < 0 → a ≠ b → (TJx3cf43 a).2.1 ≠ (TJx3cf43 b).2.1 := by decide +kernel
theorem tyJx3cf43_ok : ∀ k, k < 0 → parseFieldDescriptor (TJx3cf43 k).2.2.1 = some (tyJx3cf43 k) := by decide +kernel
def RJ7 : String := "java/util/Arrays"
def TJ7 : u_T := fun k => match k with
  | _ => ("", "", "", false)
def tyJ7 : Nat → FieldType := fun k => match k with
  | _ => .int
abbrev wsJ70 : List Cond := u_ws RJ7 TJ7 0
theorem nmJ7 : ∀ a, a < 0 → ∀ b, b < 0 → a ≠ b → (TJ7 a).2.1 ≠ (TJ7 b).2.1 := by decide +kernel
theorem tyJ7_ok : ∀ k, k < 0 → parseFieldDescriptor (TJ7 k).2.2.1 = some (tyJ7 k) := by decide +kernel
abbrev cJ7_fill_53178 : ByteArray := prog_18_method_103_code
def yJ7_fill_53178 : MethodName := ⟨RJ7, "fill", "([II)V"⟩
def RJ3 : String := "jdk/internal/util/Preconditions"
def TJ3 : u_T := fun k => match k with
  | _ => ("", "", "", false)
def tyJ3 : Nat → FieldType := fun k => match k with
  | _ => .int
abbrev wsJ30 : List Cond := u_ws RJ3 TJ3 0
theorem nmJ3 : ∀ a, a < 0 → ∀ b, b < 0 → a ≠ b → (TJ3 a).2.1 ≠ (TJ3 b).2.1 := by decide +kernel
theorem tyJ3_ok : ∀ k, k < 0 → parseFieldDescriptor (TJ3 k).2.2.1 = some (tyJ3 k) := by decide +kernel
abbrev cJ3_checkIndex_8e157 : ByteArray := prog_19_method_11_code
def yJ3_checkIndex_8e157 : MethodName := ⟨RJ3, "checkIndex", "(IILjava/util/function/BiFunction;)I"⟩
def RL : String := "HalfLaddersLaw"
abbrev cL_law : ByteArray := code
def yL_law : MethodName := ⟨RL, "law", "([I)Z"⟩
def wsX0_init : List Cond := .code yX0_init cX0_init 1 none :: ([.methodLink RX0 3 objectInit, .instanceMethod objectInit, .code objectInit ⟨#[0xb1]⟩ 1 none, .arrayClass .int, .fieldLink RX0 9 "HalfLadders$Cutting" "fewest" "[I", .fieldLink RX0 15 "HalfLadders$Cutting" "forSet" "[I"] ++ wsX00)
def wsJ7_fill_53178 : List Cond := .code yJ7_fill_53178 cJ7_fill_53178 4 none :: ([])
def wsX3_everybody : List Cond := .code yX3_everybody cX3_everybody 1 (some .int) :: ([.fieldLink RX3 9 "HalfLadders$Orchard" "people" "I"] ++ wsX30)
def wsJ6_numberOfTrailingZeros_0f7a4 : List Cond := .code yJ6_numberOfTrailingZeros_0f7a4 cJ6_numberOfTrailingZeros_0f7a4 2 (some .int) :: ([.constant RJ6 264 (65536)])
def wsX3_hasHalf : List Cond := .code yX3_hasHalf cX3_hasHalf 2 (some .boolean) :: ([.fieldLink RX3 9 "HalfLadders$Orchard" "people" "I"] ++ wsX30)
def wsX3_couldFit : List Cond := .code yX3_couldFit cX3_couldFit 3 (some .boolean) :: ([.fieldLink RX3 18 "HalfLadders$Orchard" "sides" "[I", .fieldLink RX3 31 "HalfLadders$Orchard" "quarrels" "[I", .methodLink RX3 43 yX3_hasHalf, .instanceMethod yX3_hasHalf, .selects RX3 yX3_hasHalf yX3_hasHalf, .initialized RX3, .code yX3_hasHalf cX3_hasHalf 2 (some .boolean), .fieldLink RX3 9 "HalfLadders$Orchard" "people" "I"] ++ wsX30)
def wsX0_fewer : List Cond := .code yX0_fewer cX0_fewer 2 (some .int) :: ([.methodLink RX0 63 Lib.Math.min.name, .static Lib.Math.min.name, .initialized "java/lang/Math", .code Lib.Math.min.name Lib.Math.min.code 2 (some .int)])
def wsX0_fewestOf_r1 : List Cond := [Cond.fieldLink RX0 47 "HalfLadders$Orchard" "people" "I", Cond.fieldLink RX0 15 "HalfLadders$Cutting" "forSet" "[I", Cond.fieldLink RX0 55 "HalfLadders$Orchard" "gaps" "[I", Cond.methodLink RX0 58 Lib.Math.abs.name, Cond.static Lib.Math.abs.name, Cond.initialized "java/lang/Math", Cond.code Lib.Math.abs.name Lib.Math.abs.code 1 (some .int), Cond.methodLink RX0 44 yJ6_numberOfTrailingZeros_0f7a4, Cond.static yJ6_numberOfTrailingZeros_0f7a4, Cond.initialized RJ6, Cond.code yJ6_numberOfTrailingZeros_0f7a4 cJ6_numberOfTrailingZeros_0f7a4 2 (some .int), Cond.constant RJ6 264 (65536), Cond.methodLink RX0 51 yX3_couldFit, Cond.instanceMethod yX3_couldFit, Cond.selects RX3 yX3_couldFit yX3_couldFit, Cond.initialized RX3, Cond.code yX3_couldFit cX3_couldFit 3 (some .boolean), Cond.fieldLink RX3 18 "HalfLadders$Orchard" "sides" "[I", Cond.fieldLink RX3 31 "HalfLadders$Orchard" "quarrels" "[I", Cond.methodLink RX3 43 yX3_hasHalf, Cond.instanceMethod yX3_hasHalf, Cond.selects RX3 yX3_hasHalf yX3_hasHalf, Cond.code yX3_hasHalf cX3_hasHalf 2 (some .boolean), Cond.fieldLink RX3 9 "HalfLadders$Orchard" "people" "I"]
def wsX0_fewestOf_r2 : List Cond := [Cond.methodLink RX0 40 yX0_fewer, Cond.static yX0_fewer, Cond.initialized RX0, Cond.code yX0_fewer cX0_fewer 2 (some .int), Cond.methodLink RX0 63 Lib.Math.min.name, Cond.static Lib.Math.min.name, Cond.code Lib.Math.min.name Lib.Math.min.code 2 (some .int)]
def wsX0_fewestOf : List Cond := .code yX0_fewestOf cX0_fewestOf 7 (some .int) :: ((wsX0_fewestOf_r1 ++ wsX0_fewestOf_r2) ++ wsX30 ++ wsX00)
def wsJ6_bitCount_0f7a4 : List Cond := .code yJ6_bitCount_0f7a4 cJ6_bitCount_0f7a4 1 (some .int) :: ([.constant RJ6 265 (1431655765), .constant RJ6 266 (858993459), .constant RJ6 267 (252645135)])
def wsX0_reckon_r1 : List Cond := [Cond.fieldLink RX0 9 "HalfLadders$Cutting" "fewest" "[I", Cond.fieldLink RX0 15 "HalfLadders$Cutting" "forSet" "[I", Cond.methodLink RX0 18 yJ7_fill_53178, Cond.static yJ7_fill_53178, Cond.initialized RJ7, Cond.code yJ7_fill_53178 cJ7_fill_53178 4 none, Cond.methodLink RX0 24 yX3_everybody, Cond.instanceMethod yX3_everybody, Cond.selects RX3 yX3_everybody yX3_everybody, Cond.initialized RX3, Cond.code yX3_everybody cX3_everybody 1 (some .int), Cond.fieldLink RX3 9 "HalfLadders$Orchard" "people" "I", Cond.methodLink RX0 30 yX0_fewestOf, Cond.instanceMethod yX0_fewestOf, Cond.selects RX0 yX0_fewestOf yX0_fewestOf, Cond.initialized RX0, Cond.code yX0_fewestOf cX0_fewestOf 7 (some .int), Cond.fieldLink RX0 47 "HalfLadders$Orchard" "people" "I", Cond.fieldLink RX0 55 "HalfLadders$Orchard" "gaps" "[I", Cond.methodLink RX0 58 Lib.Math.abs.name, Cond.static Lib.Math.abs.name, Cond.initialized "java/lang/Math", Cond.code Lib.Math.abs.name Lib.Math.abs.code 1 (some .int), Cond.methodLink RX0 44 yJ6_numberOfTrailingZeros_0f7a4]
def wsX0_reckon_r2 : List Cond := [Cond.static yJ6_numberOfTrailingZeros_0f7a4, Cond.initialized RJ6, Cond.code yJ6_numberOfTrailingZeros_0f7a4 cJ6_numberOfTrailingZeros_0f7a4 2 (some .int), Cond.constant RJ6 264 (65536), Cond.methodLink RX0 51 yX3_couldFit, Cond.instanceMethod yX3_couldFit, Cond.selects RX3 yX3_couldFit yX3_couldFit, Cond.code yX3_couldFit cX3_couldFit 3 (some .boolean), Cond.fieldLink RX3 18 "HalfLadders$Orchard" "sides" "[I", Cond.fieldLink RX3 31 "HalfLadders$Orchard" "quarrels" "[I", Cond.methodLink RX3 43 yX3_hasHalf, Cond.instanceMethod yX3_hasHalf, Cond.selects RX3 yX3_hasHalf yX3_hasHalf, Cond.code yX3_hasHalf cX3_hasHalf 2 (some .boolean), Cond.methodLink RX0 40 yX0_fewer, Cond.static yX0_fewer, Cond.code yX0_fewer cX0_fewer 2 (some .int), Cond.methodLink RX0 63 Lib.Math.min.name, Cond.static Lib.Math.min.name, Cond.code Lib.Math.min.name Lib.Math.min.code 2 (some .int), Cond.methodLink RX0 34 yJ6_bitCount_0f7a4, Cond.static yJ6_bitCount_0f7a4, Cond.code yJ6_bitCount_0f7a4 cJ6_bitCount_0f7a4 1 (some .int), Cond.constant RJ6 265 (1431655765)]
def wsX0_reckon_r3 : List Cond := [Cond.constant RJ6 266 (858993459), Cond.constant RJ6 267 (252645135)]
def wsX0_reckon : List Cond := .code yX0_reckon cX0_reckon 4 none :: ((wsX0_reckon_r1 ++ (wsX0_reckon_r2 ++ wsX0_reckon_r3)) ++ wsX00 ++ wsX30)
def wsX1_init : List Cond := .code yX1_init cX1_init 1 none :: ([.methodLink RX1 3 objectInit, .instanceMethod objectInit, .code objectInit ⟨#[0xb1]⟩ 1 none, .classLink RX1 9 "[[I", .arrayClass .int, .fieldLink RX1 11 "HalfLadders$Liking" "likes" "[[I", .fieldLink RX1 16 "HalfLadders$Liking" "asked" "[I", .fieldLink RX1 20 "HalfLadders$Liking" "with" "[I", .fieldLink RX1 23 "HalfLadders$Liking" "tried" "[I", .fieldLink RX1 26 "HalfLadders$Liking" "restCount" "I"] ++ wsX10)
def wsX1_ratherHas : List Cond := .code yX1_ratherHas cX1_ratherHas 4 (some .boolean) :: ([.fieldLink RX1 20 "HalfLadders$Liking" "with" "[I", .fieldLink RX1 11 "HalfLadders$Liking" "likes" "[[I"] ++ wsX10)
def wsX1_askNext : List Cond := .code yX1_askNext cX1_askNext 4 none :: ([.fieldLink RX1 23 "HalfLadders$Liking" "tried" "[I", .fieldLink RX1 11 "HalfLadders$Liking" "likes" "[[I", .fieldLink RX1 20 "HalfLadders$Liking" "with" "[I", .methodLink RX1 70 yX1_ratherHas, .instanceMethod yX1_ratherHas, .selects RX1 yX1_ratherHas yX1_ratherHas, .initialized RX1, .code yX1_ratherHas cX1_ratherHas 4 (some .boolean)] ++ wsX10)
def wsX1_askAll : List Cond := .code yX1_askAll cX1_askAll 4 none :: ([.fieldLink RX1 23 "HalfLadders$Liking" "tried" "[I", .fieldLink RX1 36 "HalfLadders$Pairs" "count" "I", .fieldLink RX1 63 "HalfLadders$Pairs" "allLefts" "I", .fieldLink RX1 20 "HalfLadders$Liking" "with" "[I", .methodLink RX1 30 yJ7_fill_53178, .static yJ7_fill_53178, .initialized RJ7, .code yJ7_fill_53178 cJ7_fill_53178 4 none, .methodLink RX1 66 yX1_askNext, .instanceMethod yX1_askNext, .selects RX1 yX1_askNext yX1_askNext, .initialized RX1, .code yX1_askNext cX1_askNext 4 none, .fieldLink RX1 11 "HalfLadders$Liking" "likes" "[[I", .methodLink RX1 70 yX1_ratherHas, .instanceMethod yX1_ratherHas, .selects RX1 yX1_ratherHas yX1_ratherHas, .code yX1_ratherHas cX1_ratherHas 4 (some .boolean)] ++ wsX10 ++ wsX40)
def wsX1_isRest : List Cond := .code yX1_isRest cX1_isRest 5 (some .boolean) :: ([.fieldLink RX1 36 "HalfLadders$Pairs" "count" "I", .fieldLink RX1 41 "HalfLadders$Pairs" "lefts" "[I", .fieldLink RX1 44 "HalfLadders$Pairs" "rights" "[I", .methodLink RX1 70 yX1_ratherHas, .instanceMethod yX1_ratherHas, .selects RX1 yX1_ratherHas yX1_ratherHas, .initialized RX1, .code yX1_ratherHas cX1_ratherHas 4 (some .boolean), .fieldLink RX1 20 "HalfLadders$Liking" "with" "[I", .fieldLink RX1 11 "HalfLadders$Liking" "likes" "[[I"] ++ wsX40 ++ wsX10)
def wsX9_restsFrom : List Cond := .code yX9_restsFrom cX9_restsFrom 6 (some .int) :: ([.fieldLink RX9 284 "HalfLadders$Pairs" "count" "I", .fieldLink RX9 295 "HalfLadders$Pairs" "lefts" "[I", .fieldLink RX9 298 "HalfLadders$Pairs" "rights" "[I", .fieldLink RX9 301 "HalfLadders$Liking" "with" "[I", .methodLink RX9 287 yX1_isRest, .instanceMethod yX1_isRest, .selects RX1 yX1_isRest yX1_isRest, .initialized RX1, .code yX1_isRest cX1_isRest 5 (some .boolean), .fieldLink RX1 36 "HalfLadders$Pairs" "count" "I", .fieldLink RX1 41 "HalfLadders$Pairs" "lefts" "[I", .fieldLink RX1 44 "HalfLadders$Pairs" "rights" "[I", .methodLink RX1 70 yX1_ratherHas, .instanceMethod yX1_ratherHas, .selects RX1 yX1_ratherHas yX1_ratherHas, .code yX1_ratherHas cX1_ratherHas 4 (some .boolean), .fieldLink RX1 20 "HalfLadders$Liking" "with" "[I", .fieldLink RX1 11 "HalfLadders$Liking" "likes" "[[I", .methodLink RX9 291 yX9_restsFrom, .static yX9_restsFrom, .initialized RX9] ++ wsX40 ++ wsX10)
def wsX1_reckon_r1 : List Cond := [Cond.fieldLink RX1 11 "HalfLadders$Liking" "likes" "[[I", Cond.fieldLink RX1 36 "HalfLadders$Pairs" "count" "I", Cond.fieldLink RX1 41 "HalfLadders$Pairs" "lefts" "[I", Cond.fieldLink RX1 44 "HalfLadders$Pairs" "rights" "[I", Cond.fieldLink RX1 47 "HalfLadders$Pairs" "ladders" "[I", Cond.fieldLink RX1 50 "HalfLadders$Orchard" "paces" "[I", Cond.fieldLink RX1 20 "HalfLadders$Liking" "with" "[I", Cond.fieldLink RX1 16 "HalfLadders$Liking" "asked" "[I", Cond.fieldLink RX1 26 "HalfLadders$Liking" "restCount" "I", Cond.methodLink RX1 30 yJ7_fill_53178, Cond.static yJ7_fill_53178, Cond.initialized RJ7, Cond.code yJ7_fill_53178 cJ7_fill_53178 4 none, Cond.methodLink RX1 55 yX1_askAll, Cond.instanceMethod yX1_askAll, Cond.selects RX1 yX1_askAll yX1_askAll, Cond.initialized RX1, Cond.code yX1_askAll cX1_askAll 4 none, Cond.fieldLink RX1 23 "HalfLadders$Liking" "tried" "[I", Cond.fieldLink RX1 63 "HalfLadders$Pairs" "allLefts" "I", Cond.methodLink RX1 66 yX1_askNext, Cond.instanceMethod yX1_askNext, Cond.selects RX1 yX1_askNext yX1_askNext, Cond.code yX1_askNext cX1_askNext 4 none]
def wsX1_reckon_r2 : List Cond := [Cond.methodLink RX1 70 yX1_ratherHas, Cond.instanceMethod yX1_ratherHas, Cond.selects RX1 yX1_ratherHas yX1_ratherHas, Cond.code yX1_ratherHas cX1_ratherHas 4 (some .boolean), Cond.static yX9_restsFrom, Cond.initialized RX9, Cond.code yX9_restsFrom cX9_restsFrom 6 (some .int), Cond.fieldLink RX9 284 "HalfLadders$Pairs" "count" "I", Cond.fieldLink RX9 295 "HalfLadders$Pairs" "lefts" "[I", Cond.fieldLink RX9 298 "HalfLadders$Pairs" "rights" "[I", Cond.fieldLink RX9 301 "HalfLadders$Liking" "with" "[I", Cond.methodLink RX9 287 yX1_isRest, Cond.instanceMethod yX1_isRest, Cond.selects RX1 yX1_isRest yX1_isRest, Cond.code yX1_isRest cX1_isRest 5 (some .boolean), Cond.methodLink RX9 291 yX9_restsFrom]
def wsX1_reckon : List Cond := .code yX1_reckon cX1_reckon 6 none :: ((wsX1_reckon_r1 ++ wsX1_reckon_r2) ++ wsX10 ++ wsX40 ++ wsX30)
def wsX2_init : List Cond := .code yX2_init cX2_init 1 none :: ([.methodLink RX2 3 objectInit, .instanceMethod objectInit, .code objectInit ⟨#[0xb1]⟩ 1 none, .fieldLink RX2 9 "HalfLadders$Now" "day" "I", .fieldLink RX2 15 "HalfLadders$Now" "climbers" "I", .fieldLink RX2 18 "HalfLadders$Now" "climbed" "I", .fieldLink RX2 21 "HalfLadders$Now" "picked" "I", .fieldLink RX2 24 "HalfLadders$Now" "fallen" "I", .fieldLink RX2 27 "HalfLadders$Now" "theLot" "I", .arrayClass .int, .fieldLink RX2 30 "HalfLadders$Now" "left" "[I"] ++ wsX20)
def wsX2_begin : List Cond := .code yX2_begin cX2_begin 1 none :: ([.fieldLink RX2 9 "HalfLadders$Now" "day" "I", .fieldLink RX2 15 "HalfLadders$Now" "climbers" "I", .fieldLink RX2 18 "HalfLadders$Now" "climbed" "I", .fieldLink RX2 21 "HalfLadders$Now" "picked" "I", .fieldLink RX2 24 "HalfLadders$Now" "fallen" "I"] ++ wsX20)
def wsX2_bearAsTold : List Cond := .code yX2_bearAsTold cX2_bearAsTold 3 none :: ([.fieldLink RX2 34 "HalfLadders$Orchard" "trees" "I", .fieldLink RX2 30 "HalfLadders$Now" "left" "[I", .fieldLink RX2 39 "HalfLadders$Orchard" "baskets" "[I"] ++ wsX30 ++ wsX20)
def wsX2_blossom : List Cond := .code yX2_blossom cX2_blossom 4 none :: ([.fieldLink RX2 34 "HalfLadders$Orchard" "trees" "I", .fieldLink RX2 27 "HalfLadders$Now" "theLot" "I", .constant RX2 42 (1103515245), .fieldLink RX2 30 "HalfLadders$Now" "left" "[I", .fieldLink RX2 39 "HalfLadders$Orchard" "baskets" "[I"] ++ wsX30 ++ wsX20)
def wsX2_become : List Cond := .code yX2_become cX2_become 3 none :: ([.fieldLink RX2 9 "HalfLadders$Now" "day" "I", .fieldLink RX2 15 "HalfLadders$Now" "climbers" "I", .fieldLink RX2 18 "HalfLadders$Now" "climbed" "I", .fieldLink RX2 21 "HalfLadders$Now" "picked" "I", .fieldLink RX2 24 "HalfLadders$Now" "fallen" "I", .fieldLink RX2 27 "HalfLadders$Now" "theLot" "I", .fieldLink RX2 30 "HalfLadders$Now" "left" "[I"] ++ wsX20)
def wsX2_leftOnAll : List Cond := .code yX2_leftOnAll cX2_leftOnAll 4 (some .int) :: ([.fieldLink RX2 34 "HalfLadders$Orchard" "trees" "I", .fieldLink RX2 30 "HalfLadders$Now" "left" "[I"] ++ wsX30 ++ wsX20)
def wsX3_hasTree : List Cond := .code yX3_hasTree cX3_hasTree 2 (some .boolean) :: ([.fieldLink RX3 15 "HalfLadders$Orchard" "trees" "I"] ++ wsX30)
def wsX3_isRipe : List Cond := .code yX3_isRipe cX3_isRipe 3 (some .boolean) :: ([.fieldLink RX3 37 "HalfLadders$Orchard" "ripes" "[I", .methodLink RX3 57 yX3_hasTree, .instanceMethod yX3_hasTree, .selects RX3 yX3_hasTree yX3_hasTree, .initialized RX3, .code yX3_hasTree cX3_hasTree 2 (some .boolean), .fieldLink RX3 15 "HalfLadders$Orchard" "trees" "I"] ++ wsX30)
def wsX2_pickable : List Cond := .code yX2_pickable cX2_pickable 5 (some .int) :: ([.fieldLink RX2 9 "HalfLadders$Now" "day" "I", .fieldLink RX2 18 "HalfLadders$Now" "climbed" "I", .fieldLink RX2 15 "HalfLadders$Now" "climbers" "I", .fieldLink RX2 47 "HalfLadders$Pairs" "bits" "[I", .fieldLink RX2 52 "HalfLadders$Pairs" "ladders" "[I", .fieldLink RX2 55 "HalfLadders$Orchard" "highs" "[I", .fieldLink RX2 58 "HalfLadders$Pairs" "picks" "[I", .fieldLink RX2 30 "HalfLadders$Now" "left" "[I", .methodLink RX2 61 Lib.Math.min.name, .static Lib.Math.min.name, .initialized "java/lang/Math", .code Lib.Math.min.name Lib.Math.min.code 2 (some .int), .methodLink RX2 43 yX3_isRipe, .instanceMethod yX3_isRipe, .selects RX3 yX3_isRipe yX3_isRipe, .initialized RX3, .code yX3_isRipe cX3_isRipe 3 (some .boolean), .fieldLink RX3 37 "HalfLadders$Orchard" "ripes" "[I", .methodLink RX3 57 yX3_hasTree, .instanceMethod yX3_hasTree, .selects RX3 yX3_hasTree yX3_hasTree, .code yX3_hasTree cX3_hasTree 2 (some .boolean), .fieldLink RX3 15 "HalfLadders$Orchard" "trees" "I"] ++ wsX20 ++ wsX40 ++ wsX30)
def wsX2_pick : List Cond := .code yX2_pick cX2_pick 4 none :: ([.fieldLink RX2 15 "HalfLadders$Now" "climbers" "I", .fieldLink RX2 18 "HalfLadders$Now" "climbed" "I", .fieldLink RX2 30 "HalfLadders$Now" "left" "[I", .fieldLink RX2 21 "HalfLadders$Now" "picked" "I"] ++ wsX20)
def wsX2_endDay : List Cond := .code yX2_endDay cX2_endDay 4 (some .int) :: ([.fieldLink RX2 9 "HalfLadders$Now" "day" "I", .fieldLink RX2 15 "HalfLadders$Now" "climbers" "I", .fieldLink RX2 18 "HalfLadders$Now" "climbed" "I", .fieldLink RX2 34 "HalfLadders$Orchard" "trees" "I", .fieldLink RX2 67 "HalfLadders$Orchard" "ripes" "[I", .fieldLink RX2 30 "HalfLadders$Now" "left" "[I", .fieldLink RX2 24 "HalfLadders$Now" "fallen" "I"] ++ wsX20 ++ wsX30)
def wsX3_init : List Cond := .code yX3_init cX3_init 1 none :: ([.methodLink RX3 3 objectInit, .instanceMethod objectInit, .code objectInit ⟨#[0xb1]⟩ 1 none, .fieldLink RX3 9 "HalfLadders$Orchard" "people" "I", .fieldLink RX3 15 "HalfLadders$Orchard" "trees" "I", .arrayClass .int, .fieldLink RX3 18 "HalfLadders$Orchard" "sides" "[I", .fieldLink RX3 22 "HalfLadders$Orchard" "gaps" "[I", .fieldLink RX3 25 "HalfLadders$Orchard" "lengths" "[I", .fieldLink RX3 28 "HalfLadders$Orchard" "paces" "[I", .fieldLink RX3 31 "HalfLadders$Orchard" "quarrels" "[I", .fieldLink RX3 34 "HalfLadders$Orchard" "highs" "[I", .fieldLink RX3 37 "HalfLadders$Orchard" "ripes" "[I", .fieldLink RX3 40 "HalfLadders$Orchard" "baskets" "[I"] ++ wsX30)
def wsX3_empty : List Cond := .code yX3_empty cX3_empty 1 none :: ([.fieldLink RX3 9 "HalfLadders$Orchard" "people" "I", .fieldLink RX3 15 "HalfLadders$Orchard" "trees" "I"] ++ wsX30)
def wsX3_addHalf : List Cond := .code yX3_addHalf cX3_addHalf 5 none :: ([.fieldLink RX3 9 "HalfLadders$Orchard" "people" "I", .fieldLink RX3 18 "HalfLadders$Orchard" "sides" "[I", .fieldLink RX3 22 "HalfLadders$Orchard" "gaps" "[I", .fieldLink RX3 25 "HalfLadders$Orchard" "lengths" "[I", .fieldLink RX3 28 "HalfLadders$Orchard" "paces" "[I", .fieldLink RX3 31 "HalfLadders$Orchard" "quarrels" "[I"] ++ wsX30)
def wsX3_addQuarrel : List Cond := .code yX3_addQuarrel cX3_addQuarrel 3 none :: ([.fieldLink RX3 31 "HalfLadders$Orchard" "quarrels" "[I", .methodLink RX3 43 yX3_hasHalf, .instanceMethod yX3_hasHalf, .selects RX3 yX3_hasHalf yX3_hasHalf, .initialized RX3, .code yX3_hasHalf cX3_hasHalf 2 (some .boolean), .fieldLink RX3 9 "HalfLadders$Orchard" "people" "I"] ++ wsX30)
def wsX3_addTree : List Cond := .code yX3_addTree cX3_addTree 4 none :: ([.fieldLink RX3 15 "HalfLadders$Orchard" "trees" "I", .fieldLink RX3 34 "HalfLadders$Orchard" "highs" "[I", .fieldLink RX3 37 "HalfLadders$Orchard" "ripes" "[I", .fieldLink RX3 40 "HalfLadders$Orchard" "baskets" "[I"] ++ wsX30)
def wsX3_fits : List Cond := .code yX3_fits cX3_fits 3 (some .boolean) :: ([.fieldLink RX3 22 "HalfLadders$Orchard" "gaps" "[I", .methodLink RX3 47 yX3_couldFit, .instanceMethod yX3_couldFit, .selects RX3 yX3_couldFit yX3_couldFit, .initialized RX3, .code yX3_couldFit cX3_couldFit 3 (some .boolean), .fieldLink RX3 18 "HalfLadders$Orchard" "sides" "[I", .fieldLink RX3 31 "HalfLadders$Orchard" "quarrels" "[I", .methodLink RX3 43 yX3_hasHalf, .instanceMethod yX3_hasHalf, .selects RX3 yX3_hasHalf yX3_hasHalf, .code yX3_hasHalf cX3_hasHalf 2 (some .boolean), .fieldLink RX3 9 "HalfLadders$Orchard" "people" "I"] ++ wsX30)
def wsX3_quarrelPairs : List Cond := .code yX3_quarrelPairs cX3_quarrelPairs 3 (some .int) :: ([.fieldLink RX3 9 "HalfLadders$Orchard" "people" "I", .fieldLink RX3 31 "HalfLadders$Orchard" "quarrels" "[I", .methodLink RX3 51 yJ6_bitCount_0f7a4, .static yJ6_bitCount_0f7a4, .initialized RJ6, .code yJ6_bitCount_0f7a4 cJ6_bitCount_0f7a4 1 (some .int), .constant RJ6 265 (1431655765), .constant RJ6 266 (858993459), .constant RJ6 267 (252645135)] ++ wsX30)
def wsX4_init : List Cond := .code yX4_init cX4_init 1 none :: ([.methodLink RX4 3 objectInit, .instanceMethod objectInit, .code objectInit ⟨#[0xb1]⟩ 1 none, .fieldLink RX4 9 "HalfLadders$Pairs" "count" "I", .fieldLink RX4 15 "HalfLadders$Pairs" "allLefts" "I", .arrayClass .int, .fieldLink RX4 18 "HalfLadders$Pairs" "lefts" "[I", .fieldLink RX4 22 "HalfLadders$Pairs" "rights" "[I", .fieldLink RX4 25 "HalfLadders$Pairs" "bits" "[I", .fieldLink RX4 28 "HalfLadders$Pairs" "gaps" "[I", .fieldLink RX4 31 "HalfLadders$Pairs" "ladders" "[I", .fieldLink RX4 34 "HalfLadders$Pairs" "picks" "[I"] ++ wsX40)
def wsX4_listOf_r1 : List Cond := [Cond.fieldLink RX4 37 "HalfLadders$Orchard" "people" "I", Cond.fieldLink RX4 9 "HalfLadders$Pairs" "count" "I", Cond.fieldLink RX4 18 "HalfLadders$Pairs" "lefts" "[I", Cond.fieldLink RX4 22 "HalfLadders$Pairs" "rights" "[I", Cond.fieldLink RX4 25 "HalfLadders$Pairs" "bits" "[I", Cond.fieldLink RX4 28 "HalfLadders$Pairs" "gaps" "[I", Cond.fieldLink RX4 53 "HalfLadders$Orchard" "gaps" "[I", Cond.fieldLink RX4 31 "HalfLadders$Pairs" "ladders" "[I", Cond.fieldLink RX4 54 "HalfLadders$Orchard" "lengths" "[I", Cond.methodLink RX4 57 Lib.Math.min.name, Cond.static Lib.Math.min.name, Cond.initialized "java/lang/Math", Cond.code Lib.Math.min.name Lib.Math.min.code 2 (some .int), Cond.fieldLink RX4 34 "HalfLadders$Pairs" "picks" "[I", Cond.fieldLink RX4 63 "HalfLadders$Orchard" "paces" "[I", Cond.methodLink RX4 49 yX3_fits, Cond.instanceMethod yX3_fits, Cond.selects RX3 yX3_fits yX3_fits, Cond.initialized RX3, Cond.code yX3_fits cX3_fits 3 (some .boolean), Cond.fieldLink RX3 22 "HalfLadders$Orchard" "gaps" "[I", Cond.methodLink RX3 47 yX3_couldFit, Cond.instanceMethod yX3_couldFit, Cond.selects RX3 yX3_couldFit yX3_couldFit]
def wsX4_listOf_r2 : List Cond := [Cond.code yX3_couldFit cX3_couldFit 3 (some .boolean), Cond.fieldLink RX3 18 "HalfLadders$Orchard" "sides" "[I", Cond.fieldLink RX3 31 "HalfLadders$Orchard" "quarrels" "[I", Cond.methodLink RX3 43 yX3_hasHalf, Cond.instanceMethod yX3_hasHalf, Cond.selects RX3 yX3_hasHalf yX3_hasHalf, Cond.code yX3_hasHalf cX3_hasHalf 2 (some .boolean), Cond.fieldLink RX3 9 "HalfLadders$Orchard" "people" "I"]
def wsX4_listOf : List Cond := .code yX4_listOf cX4_listOf 4 none :: ((wsX4_listOf_r1 ++ wsX4_listOf_r2) ++ wsX30 ++ wsX40)
def wsX4_list_r1 : List Cond := [Cond.fieldLink RX4 9 "HalfLadders$Pairs" "count" "I", Cond.fieldLink RX4 15 "HalfLadders$Pairs" "allLefts" "I", Cond.fieldLink RX4 37 "HalfLadders$Orchard" "people" "I", Cond.fieldLink RX4 42 "HalfLadders$Orchard" "sides" "[I", Cond.methodLink RX4 45 yX4_listOf, Cond.instanceMethod yX4_listOf, Cond.selects RX4 yX4_listOf yX4_listOf, Cond.initialized RX4, Cond.code yX4_listOf cX4_listOf 4 none, Cond.fieldLink RX4 18 "HalfLadders$Pairs" "lefts" "[I", Cond.fieldLink RX4 22 "HalfLadders$Pairs" "rights" "[I", Cond.fieldLink RX4 25 "HalfLadders$Pairs" "bits" "[I", Cond.fieldLink RX4 28 "HalfLadders$Pairs" "gaps" "[I", Cond.fieldLink RX4 53 "HalfLadders$Orchard" "gaps" "[I", Cond.fieldLink RX4 31 "HalfLadders$Pairs" "ladders" "[I", Cond.fieldLink RX4 54 "HalfLadders$Orchard" "lengths" "[I", Cond.methodLink RX4 57 Lib.Math.min.name, Cond.static Lib.Math.min.name, Cond.initialized "java/lang/Math", Cond.code Lib.Math.min.name Lib.Math.min.code 2 (some .int), Cond.fieldLink RX4 34 "HalfLadders$Pairs" "picks" "[I", Cond.fieldLink RX4 63 "HalfLadders$Orchard" "paces" "[I", Cond.methodLink RX4 49 yX3_fits, Cond.instanceMethod yX3_fits]
def wsX4_list_r2 : List Cond := [Cond.selects RX3 yX3_fits yX3_fits, Cond.initialized RX3, Cond.code yX3_fits cX3_fits 3 (some .boolean), Cond.fieldLink RX3 22 "HalfLadders$Orchard" "gaps" "[I", Cond.methodLink RX3 47 yX3_couldFit, Cond.instanceMethod yX3_couldFit, Cond.selects RX3 yX3_couldFit yX3_couldFit, Cond.code yX3_couldFit cX3_couldFit 3 (some .boolean), Cond.fieldLink RX3 18 "HalfLadders$Orchard" "sides" "[I", Cond.fieldLink RX3 31 "HalfLadders$Orchard" "quarrels" "[I", Cond.methodLink RX3 43 yX3_hasHalf, Cond.instanceMethod yX3_hasHalf, Cond.selects RX3 yX3_hasHalf yX3_hasHalf, Cond.code yX3_hasHalf cX3_hasHalf 2 (some .boolean), Cond.fieldLink RX3 9 "HalfLadders$Orchard" "people" "I"]
def wsX4_list : List Cond := .code yX4_list cX4_list 3 none :: ((wsX4_list_r1 ++ wsX4_list_r2) ++ wsX40 ++ wsX30)
def wsX4_indexOf : List Cond := .code yX4_indexOf cX4_indexOf 3 (some .int) :: ([.fieldLink RX4 9 "HalfLadders$Pairs" "count" "I", .fieldLink RX4 25 "HalfLadders$Pairs" "bits" "[I"] ++ wsX40)
def wsX4_numberOf : List Cond := .code yX4_numberOf cX4_numberOf 2 (some .int) :: ([.fieldLink RX4 9 "HalfLadders$Pairs" "count" "I", .fieldLink RX4 18 "HalfLadders$Pairs" "lefts" "[I", .fieldLink RX4 22 "HalfLadders$Pairs" "rights" "[I"] ++ wsX40)
def wsX4_howManyWith : List Cond := .code yX4_howManyWith cX4_howManyWith 4 (some .int) :: ([.fieldLink RX4 9 "HalfLadders$Pairs" "count" "I", .fieldLink RX4 25 "HalfLadders$Pairs" "bits" "[I"] ++ wsX40)
def wsX4_leavesMarks : List Cond := .code yX4_leavesMarks cX4_leavesMarks 4 (some .boolean) :: ([.fieldLink RX4 28 "HalfLadders$Pairs" "gaps" "[I", .fieldLink RX4 31 "HalfLadders$Pairs" "ladders" "[I"] ++ wsX40)
def wsX4_howMany : List Cond := .code yX4_howMany cX4_howMany 5 (some .int) :: ([.fieldLink RX4 9 "HalfLadders$Pairs" "count" "I", .methodLink RX4 66 yX4_leavesMarks, .instanceMethod yX4_leavesMarks, .selects RX4 yX4_leavesMarks yX4_leavesMarks, .initialized RX4, .code yX4_leavesMarks cX4_leavesMarks 4 (some .boolean), .fieldLink RX4 28 "HalfLadders$Pairs" "gaps" "[I", .fieldLink RX4 31 "HalfLadders$Pairs" "ladders" "[I"] ++ wsX40)
def wsX4_firstOf : List Cond := .code yX4_firstOf cX4_firstOf 4 (some .int) :: ([.fieldLink RX4 9 "HalfLadders$Pairs" "count" "I", .methodLink RX4 66 yX4_leavesMarks, .instanceMethod yX4_leavesMarks, .selects RX4 yX4_leavesMarks yX4_leavesMarks, .initialized RX4, .code yX4_leavesMarks cX4_leavesMarks 4 (some .boolean), .fieldLink RX4 28 "HalfLadders$Pairs" "gaps" "[I", .fieldLink RX4 31 "HalfLadders$Pairs" "ladders" "[I", .methodLink RX4 70 yX4_numberOf, .instanceMethod yX4_numberOf, .selects RX4 yX4_numberOf yX4_numberOf, .code yX4_numberOf cX4_numberOf 2 (some .int), .fieldLink RX4 18 "HalfLadders$Pairs" "lefts" "[I", .fieldLink RX4 22 "HalfLadders$Pairs" "rights" "[I"] ++ wsX40)
def wsX5_init : List Cond := .code yX5_init cX5_init 1 none :: ([.methodLink RX5 3 objectInit, .instanceMethod objectInit, .code objectInit ⟨#[0xb1]⟩ 1 none, .arrayClass .int, .fieldLink RX5 9 "HalfLadders$Plan" "chosen" "[I", .classLink RX5 15 "[[I", .fieldLink RX5 17 "HalfLadders$Plan" "gains" "[[I", .fieldLink RX5 20 "HalfLadders$Plan" "most" "[[I"] ++ wsX50)
def wsX5_canBeTaken : List Cond := .code yX5_canBeTaken cX5_canBeTaken 4 (some .boolean) :: ([.fieldLink RX5 68 "HalfLadders$Pairs" "allLefts" "I", .methodLink RX5 62 yJ6_bitCount_0f7a4, .static yJ6_bitCount_0f7a4, .initialized RJ6, .code yJ6_bitCount_0f7a4 cJ6_bitCount_0f7a4 1 (some .int), .constant RJ6 265 (1431655765), .constant RJ6 266 (858993459), .constant RJ6 267 (252645135)] ++ wsX40)
def wsX5_canClimb : List Cond := .code yX5_canClimb cX5_canClimb 5 (some .boolean) :: ([.fieldLink RX5 17 "HalfLadders$Plan" "gains" "[[I", .fieldLink RX5 85 "HalfLadders$Pairs" "bits" "[I"] ++ wsX50 ++ wsX40)
def wsX5_with : List Cond := .code yX5_with cX5_with 5 (some .int) :: ([.fieldLink RX5 17 "HalfLadders$Plan" "gains" "[[I", .fieldLink RX5 20 "HalfLadders$Plan" "most" "[[I", .fieldLink RX5 85 "HalfLadders$Pairs" "bits" "[I"] ++ wsX50 ++ wsX40)
def wsX5_mostFrom : List Cond := .code yX5_mostFrom cX5_mostFrom 6 (some .int) :: ([.fieldLink RX5 20 "HalfLadders$Plan" "most" "[[I", .fieldLink RX5 35 "HalfLadders$Pairs" "count" "I", .methodLink RX5 79 Lib.Math.max.name, .static Lib.Math.max.name, .initialized "java/lang/Math", .code Lib.Math.max.name Lib.Math.max.code 2 (some .int), .methodLink RX5 71 yX5_canClimb, .instanceMethod yX5_canClimb, .selects RX5 yX5_canClimb yX5_canClimb, .initialized RX5, .code yX5_canClimb cX5_canClimb 5 (some .boolean), .fieldLink RX5 17 "HalfLadders$Plan" "gains" "[[I", .fieldLink RX5 85 "HalfLadders$Pairs" "bits" "[I", .methodLink RX5 75 yX5_with, .instanceMethod yX5_with, .selects RX5 yX5_with yX5_with, .code yX5_with cX5_with 5 (some .int)] ++ wsX50 ++ wsX40)
def wsX5_firstOfBest : List Cond := .code yX5_firstOfBest cX5_firstOfBest 5 (some .int) :: ([.fieldLink RX5 20 "HalfLadders$Plan" "most" "[[I", .fieldLink RX5 35 "HalfLadders$Pairs" "count" "I", .methodLink RX5 71 yX5_canClimb, .instanceMethod yX5_canClimb, .selects RX5 yX5_canClimb yX5_canClimb, .initialized RX5, .code yX5_canClimb cX5_canClimb 5 (some .boolean), .fieldLink RX5 17 "HalfLadders$Plan" "gains" "[[I", .fieldLink RX5 85 "HalfLadders$Pairs" "bits" "[I", .methodLink RX5 75 yX5_with, .instanceMethod yX5_with, .selects RX5 yX5_with yX5_with, .code yX5_with cX5_with 5 (some .int)] ++ wsX50 ++ wsX40)
def wsX5_choose : List Cond := .code yX5_choose cX5_choose 5 none :: ([.fieldLink RX5 23 "HalfLadders$Orchard" "trees" "I", .fieldLink RX5 9 "HalfLadders$Plan" "chosen" "[I", .fieldLink RX5 85 "HalfLadders$Pairs" "bits" "[I", .methodLink RX5 88 yX5_firstOfBest, .instanceMethod yX5_firstOfBest, .selects RX5 yX5_firstOfBest yX5_firstOfBest, .initialized RX5, .code yX5_firstOfBest cX5_firstOfBest 5 (some .int), .fieldLink RX5 20 "HalfLadders$Plan" "most" "[[I", .fieldLink RX5 35 "HalfLadders$Pairs" "count" "I", .methodLink RX5 71 yX5_canClimb, .instanceMethod yX5_canClimb, .selects RX5 yX5_canClimb yX5_canClimb, .code yX5_canClimb cX5_canClimb 5 (some .boolean), .fieldLink RX5 17 "HalfLadders$Plan" "gains" "[[I", .methodLink RX5 75 yX5_with, .instanceMethod yX5_with, .selects RX5 yX5_with yX5_with, .code yX5_with cX5_with 5 (some .int)] ++ wsX30 ++ wsX50 ++ wsX40)
def wsX5_make_r1 : List Cond := [Cond.fieldLink RX5 20 "HalfLadders$Plan" "most" "[[I", Cond.fieldLink RX5 23 "HalfLadders$Orchard" "trees" "I", Cond.fieldLink RX5 35 "HalfLadders$Pairs" "count" "I", Cond.fieldLink RX5 17 "HalfLadders$Plan" "gains" "[[I", Cond.methodLink RX5 29 yJ7_fill_53178, Cond.static yJ7_fill_53178, Cond.initialized RJ7, Cond.code yJ7_fill_53178 cJ7_fill_53178 4 none, Cond.methodLink RX5 40 yX2_pickable, Cond.instanceMethod yX2_pickable, Cond.selects RX2 yX2_pickable yX2_pickable, Cond.initialized RX2, Cond.code yX2_pickable cX2_pickable 5 (some .int), Cond.fieldLink RX2 9 "HalfLadders$Now" "day" "I", Cond.fieldLink RX2 18 "HalfLadders$Now" "climbed" "I", Cond.fieldLink RX2 15 "HalfLadders$Now" "climbers" "I", Cond.fieldLink RX2 47 "HalfLadders$Pairs" "bits" "[I", Cond.fieldLink RX2 52 "HalfLadders$Pairs" "ladders" "[I", Cond.fieldLink RX2 55 "HalfLadders$Orchard" "highs" "[I", Cond.fieldLink RX2 58 "HalfLadders$Pairs" "picks" "[I", Cond.fieldLink RX2 30 "HalfLadders$Now" "left" "[I", Cond.methodLink RX2 61 Lib.Math.min.name, Cond.static Lib.Math.min.name, Cond.initialized "java/lang/Math"]
def wsX5_make_r2 : List Cond := [Cond.code Lib.Math.min.name Lib.Math.min.code 2 (some .int), Cond.methodLink RX2 43 yX3_isRipe, Cond.instanceMethod yX3_isRipe, Cond.selects RX3 yX3_isRipe yX3_isRipe, Cond.initialized RX3, Cond.code yX3_isRipe cX3_isRipe 3 (some .boolean), Cond.fieldLink RX3 37 "HalfLadders$Orchard" "ripes" "[I", Cond.methodLink RX3 57 yX3_hasTree, Cond.instanceMethod yX3_hasTree, Cond.selects RX3 yX3_hasTree yX3_hasTree, Cond.code yX3_hasTree cX3_hasTree 2 (some .boolean), Cond.fieldLink RX3 15 "HalfLadders$Orchard" "trees" "I", Cond.methodLink RX5 46 yX3_everybody, Cond.instanceMethod yX3_everybody, Cond.selects RX3 yX3_everybody yX3_everybody, Cond.code yX3_everybody cX3_everybody 1 (some .int), Cond.fieldLink RX3 9 "HalfLadders$Orchard" "people" "I", Cond.methodLink RX5 50 yX5_canBeTaken, Cond.static yX5_canBeTaken, Cond.initialized RX5, Cond.code yX5_canBeTaken cX5_canBeTaken 4 (some .boolean), Cond.fieldLink RX5 68 "HalfLadders$Pairs" "allLefts" "I", Cond.methodLink RX5 62 yJ6_bitCount_0f7a4, Cond.static yJ6_bitCount_0f7a4]
def wsX5_make_r3 : List Cond := [Cond.initialized RJ6, Cond.code yJ6_bitCount_0f7a4 cJ6_bitCount_0f7a4 1 (some .int), Cond.constant RJ6 265 (1431655765), Cond.constant RJ6 266 (858993459), Cond.constant RJ6 267 (252645135), Cond.methodLink RX5 54 yX5_mostFrom, Cond.instanceMethod yX5_mostFrom, Cond.selects RX5 yX5_mostFrom yX5_mostFrom, Cond.code yX5_mostFrom cX5_mostFrom 6 (some .int), Cond.methodLink RX5 79 Lib.Math.max.name, Cond.static Lib.Math.max.name, Cond.code Lib.Math.max.name Lib.Math.max.code 2 (some .int), Cond.methodLink RX5 71 yX5_canClimb, Cond.instanceMethod yX5_canClimb, Cond.selects RX5 yX5_canClimb yX5_canClimb, Cond.code yX5_canClimb cX5_canClimb 5 (some .boolean), Cond.fieldLink RX5 85 "HalfLadders$Pairs" "bits" "[I", Cond.methodLink RX5 75 yX5_with, Cond.instanceMethod yX5_with, Cond.selects RX5 yX5_with yX5_with, Cond.code yX5_with cX5_with 5 (some .int), Cond.methodLink RX5 58 yX5_choose, Cond.instanceMethod yX5_choose, Cond.selects RX5 yX5_choose yX5_choose]
def wsX5_make_r4 : List Cond := [Cond.code yX5_choose cX5_choose 5 none, Cond.fieldLink RX5 9 "HalfLadders$Plan" "chosen" "[I", Cond.methodLink RX5 88 yX5_firstOfBest, Cond.instanceMethod yX5_firstOfBest, Cond.selects RX5 yX5_firstOfBest yX5_firstOfBest, Cond.code yX5_firstOfBest cX5_firstOfBest 5 (some .int)]
def wsX5_make : List Cond := .code yX5_make cX5_make 6 (some .int) :: ((wsX5_make_r1 ++ (wsX5_make_r2 ++ (wsX5_make_r3 ++ wsX5_make_r4))) ++ wsX50 ++ wsX30 ++ wsX40 ++ wsX20)
def wsX5_carryOut : List Cond := .code yX5_carryOut cX5_carryOut 6 none :: ([.fieldLink RX5 23 "HalfLadders$Orchard" "trees" "I", .fieldLink RX5 9 "HalfLadders$Plan" "chosen" "[I", .fieldLink RX5 85 "HalfLadders$Pairs" "bits" "[I", .fieldLink RX5 17 "HalfLadders$Plan" "gains" "[[I", .methodLink RX5 91 yX2_pick, .instanceMethod yX2_pick, .selects RX2 yX2_pick yX2_pick, .initialized RX2, .code yX2_pick cX2_pick 4 none, .fieldLink RX2 15 "HalfLadders$Now" "climbers" "I", .fieldLink RX2 18 "HalfLadders$Now" "climbed" "I", .fieldLink RX2 30 "HalfLadders$Now" "left" "[I", .fieldLink RX2 21 "HalfLadders$Now" "picked" "I"] ++ wsX30 ++ wsX50 ++ wsX40 ++ wsX20)
def wsX6_init : List Cond := .code yX6_init cX6_init 2 none :: ([.methodLink RX6 3 objectInit, .instanceMethod objectInit, .code objectInit ⟨#[0xb1]⟩ 1 none, .fieldLink RX6 9 "HalfLadders$Reader" "looked" "I", .fieldLink RX6 15 "HalfLadders$Reader" "token" "I", .fieldLink RX6 18 "HalfLadders$Reader" "value" "I", .fieldLink RX6 21 "HalfLadders$Reader" "text" "LHalfLadders$Text;"] ++ wsX60)
def wsX8_at : List Cond := .code yX8_at cX8_at 2 (some .int) :: ([.fieldLink RX8 15 "HalfLadders$Text" "length" "I", .fieldLink RX8 9 "HalfLadders$Text" "bytes" "[B"] ++ wsX80)
def wsX8_isLetter : List Cond := .code yX8_isLetter cX8_isLetter 1 (some .boolean) :: ([])
def wsX8_isDigit : List Cond := .code yX8_isDigit cX8_isDigit 1 (some .boolean) :: ([])
def wsX8_endOfToken : List Cond := .code yX8_endOfToken cX8_endOfToken 3 (some .int) :: ([.fieldLink RX8 15 "HalfLadders$Text" "length" "I", .methodLink RX8 29 yX8_at, .instanceMethod yX8_at, .selects RX8 yX8_at yX8_at, .initialized RX8, .code yX8_at cX8_at 2 (some .int), .fieldLink RX8 9 "HalfLadders$Text" "bytes" "[B", .methodLink RX8 48 yX8_isLetter, .static yX8_isLetter, .code yX8_isLetter cX8_isLetter 1 (some .boolean), .methodLink RX8 52 yX8_isDigit, .static yX8_isDigit, .code yX8_isDigit cX8_isDigit 1 (some .boolean)] ++ wsX80)
def wsJ0_coder_7d493 : List Cond := .code yJ0_coder_7d493 cJ0_coder_7d493 1 (some .byte) :: ([.fieldLink RJ0 38 "java/lang/String" "COMPACT_STRINGS" "Z", .fieldLink RJ0 15 "java/lang/String" "coder" "B"])
def wsJ0_length_8abf5 : List Cond := .code yJ0_length_8abf5 cJ0_length_8abf5 1 (some .int) :: ([.fieldLink RJ0 9 "java/lang/String" "value" "[B", .methodLink RJ0 335 yJ0_coder_7d493, .instanceMethod yJ0_coder_7d493, .selects RJ0 yJ0_coder_7d493 yJ0_coder_7d493, .initialized RJ0, .code yJ0_coder_7d493 cJ0_coder_7d493 1 (some .byte), .fieldLink RJ0 38 "java/lang/String" "COMPACT_STRINGS" "Z", .fieldLink RJ0 15 "java/lang/String" "coder" "B"])
def wsJ0_isLatin1_aae02 : List Cond := .code yJ0_isLatin1_aae02 cJ0_isLatin1_aae02 1 (some .boolean) :: ([.fieldLink RJ0 38 "java/lang/String" "COMPACT_STRINGS" "Z", .fieldLink RJ0 15 "java/lang/String" "coder" "B"])
def wsJ3_checkIndex_8e157 : List Cond := .code yJ3_checkIndex_8e157 cJ3_checkIndex_8e157 3 (some .int) :: ([])
def wsJ0_checkIndex_df160 : List Cond := .code yJ0_checkIndex_df160 cJ0_checkIndex_df160 2 none :: ([.fieldLink RJ0 1053 "jdk/internal/util/Preconditions" "SIOOBE_FORMATTER" "Ljava/util/function/BiFunction;", .methodLink RJ0 1059 yJ3_checkIndex_8e157, .static yJ3_checkIndex_8e157, .initialized RJ3, .code yJ3_checkIndex_8e157 cJ3_checkIndex_8e157 3 (some .int)])
def wsJ1_charAt_3b067 : List Cond := .code yJ1_charAt_3b067 cJ1_charAt_3b067 2 (some .char) :: ([.methodLink RJ1 9 yJ0_checkIndex_df160, .static yJ0_checkIndex_df160, .initialized RJ0, .code yJ0_checkIndex_df160 cJ0_checkIndex_df160 2 none, .fieldLink RJ0 1053 "jdk/internal/util/Preconditions" "SIOOBE_FORMATTER" "Ljava/util/function/BiFunction;", .methodLink RJ0 1059 yJ3_checkIndex_8e157, .static yJ3_checkIndex_8e157, .initialized RJ3, .code yJ3_checkIndex_8e157 cJ3_checkIndex_8e157 3 (some .int)])
def wsJ2_length_9d52b : List Cond := .code yJ2_length_9d52b cJ2_length_9d52b 1 (some .int) :: ([])
def wsJ2_checkIndex_2214a : List Cond := .code yJ2_checkIndex_2214a cJ2_checkIndex_2214a 2 none :: ([.methodLink RJ2 48 yJ2_length_9d52b, .static yJ2_length_9d52b, .initialized RJ2, .code yJ2_length_9d52b cJ2_length_9d52b 1 (some .int), .methodLink RJ2 414 yJ0_checkIndex_df160, .static yJ0_checkIndex_df160, .initialized RJ0, .code yJ0_checkIndex_df160 cJ0_checkIndex_df160 2 none, .fieldLink RJ0 1053 "jdk/internal/util/Preconditions" "SIOOBE_FORMATTER" "Ljava/util/function/BiFunction;", .methodLink RJ0 1059 yJ3_checkIndex_8e157, .static yJ3_checkIndex_8e157, .initialized RJ3, .code yJ3_checkIndex_8e157 cJ3_checkIndex_8e157 3 (some .int)])
def wsJ2_getChar_3b067 : List Cond := .code yJ2_getChar_3b067 cJ2_getChar_3b067 2 (some .char) :: ([.fieldLink RJ2 44 "java/lang/StringUTF16" "$assertionsDisabled" "Z", .fieldLink RJ2 59 "java/lang/StringUTF16" "HI_BYTE_SHIFT" "I", .fieldLink RJ2 63 "java/lang/StringUTF16" "LO_BYTE_SHIFT" "I", .methodLink RJ2 48 yJ2_length_9d52b, .static yJ2_length_9d52b, .initialized RJ2, .code yJ2_length_9d52b cJ2_length_9d52b 1 (some .int)])
def wsJ2_charAt_3b067 : List Cond := .code yJ2_charAt_3b067 cJ2_charAt_3b067 2 (some .char) :: ([.methodLink RJ2 67 yJ2_checkIndex_2214a, .static yJ2_checkIndex_2214a, .initialized RJ2, .code yJ2_checkIndex_2214a cJ2_checkIndex_2214a 2 none, .methodLink RJ2 48 yJ2_length_9d52b, .static yJ2_length_9d52b, .code yJ2_length_9d52b cJ2_length_9d52b 1 (some .int), .methodLink RJ2 414 yJ0_checkIndex_df160, .static yJ0_checkIndex_df160, .initialized RJ0, .code yJ0_checkIndex_df160 cJ0_checkIndex_df160 2 none, .fieldLink RJ0 1053 "jdk/internal/util/Preconditions" "SIOOBE_FORMATTER" "Ljava/util/function/BiFunction;", .methodLink RJ0 1059 yJ3_checkIndex_8e157, .static yJ3_checkIndex_8e157, .initialized RJ3, .code yJ3_checkIndex_8e157 cJ3_checkIndex_8e157 3 (some .int), .methodLink RJ2 71 yJ2_getChar_3b067, .static yJ2_getChar_3b067, .code yJ2_getChar_3b067 cJ2_getChar_3b067 2 (some .char), .fieldLink RJ2 44 "java/lang/StringUTF16" "$assertionsDisabled" "Z", .fieldLink RJ2 59 "java/lang/StringUTF16" "HI_BYTE_SHIFT" "I", .fieldLink RJ2 63 "java/lang/StringUTF16" "LO_BYTE_SHIFT" "I"])
def wsJ0_charAt_5068e_r1 : List Cond := [Cond.fieldLink RJ0 9 "java/lang/String" "value" "[B", Cond.methodLink RJ0 492 yJ0_isLatin1_aae02, Cond.instanceMethod yJ0_isLatin1_aae02, Cond.selects RJ0 yJ0_isLatin1_aae02 yJ0_isLatin1_aae02, Cond.initialized RJ0, Cond.code yJ0_isLatin1_aae02 cJ0_isLatin1_aae02 1 (some .boolean), Cond.fieldLink RJ0 38 "java/lang/String" "COMPACT_STRINGS" "Z", Cond.fieldLink RJ0 15 "java/lang/String" "coder" "B", Cond.methodLink RJ0 495 yJ1_charAt_3b067, Cond.static yJ1_charAt_3b067, Cond.initialized RJ1, Cond.code yJ1_charAt_3b067 cJ1_charAt_3b067 2 (some .char), Cond.methodLink RJ1 9 yJ0_checkIndex_df160, Cond.static yJ0_checkIndex_df160, Cond.code yJ0_checkIndex_df160 cJ0_checkIndex_df160 2 none, Cond.fieldLink RJ0 1053 "jdk/internal/util/Preconditions" "SIOOBE_FORMATTER" "Ljava/util/function/BiFunction;", Cond.methodLink RJ0 1059 yJ3_checkIndex_8e157, Cond.static yJ3_checkIndex_8e157, Cond.initialized RJ3, Cond.code yJ3_checkIndex_8e157 cJ3_checkIndex_8e157 3 (some .int), Cond.methodLink RJ0 498 yJ2_charAt_3b067, Cond.static yJ2_charAt_3b067, Cond.initialized RJ2, Cond.code yJ2_charAt_3b067 cJ2_charAt_3b067 2 (some .char)]
def wsJ0_charAt_5068e_r2 : List Cond := [Cond.methodLink RJ2 67 yJ2_checkIndex_2214a, Cond.static yJ2_checkIndex_2214a, Cond.code yJ2_checkIndex_2214a cJ2_checkIndex_2214a 2 none, Cond.methodLink RJ2 48 yJ2_length_9d52b, Cond.static yJ2_length_9d52b, Cond.code yJ2_length_9d52b cJ2_length_9d52b 1 (some .int), Cond.methodLink RJ2 414 yJ0_checkIndex_df160, Cond.methodLink RJ2 71 yJ2_getChar_3b067, Cond.static yJ2_getChar_3b067, Cond.code yJ2_getChar_3b067 cJ2_getChar_3b067 2 (some .char), Cond.fieldLink RJ2 44 "java/lang/StringUTF16" "$assertionsDisabled" "Z", Cond.fieldLink RJ2 59 "java/lang/StringUTF16" "HI_BYTE_SHIFT" "I", Cond.fieldLink RJ2 63 "java/lang/StringUTF16" "LO_BYTE_SHIFT" "I"]
def wsJ0_charAt_5068e : List Cond := .code yJ0_charAt_5068e cJ0_charAt_5068e 2 (some .char) :: ((wsJ0_charAt_5068e_r1 ++ wsJ0_charAt_5068e_r2))
def wsX8_spells_r1 : List Cond := [Cond.methodLink RX8 67 yJ0_length_8abf5, Cond.instanceMethod yJ0_length_8abf5, Cond.selects RJ0 yJ0_length_8abf5 yJ0_length_8abf5, Cond.initialized RJ0, Cond.code yJ0_length_8abf5 cJ0_length_8abf5 1 (some .int), Cond.fieldLink RJ0 9 "java/lang/String" "value" "[B", Cond.methodLink RJ0 335 yJ0_coder_7d493, Cond.instanceMethod yJ0_coder_7d493, Cond.selects RJ0 yJ0_coder_7d493 yJ0_coder_7d493, Cond.code yJ0_coder_7d493 cJ0_coder_7d493 1 (some .byte), Cond.fieldLink RJ0 38 "java/lang/String" "COMPACT_STRINGS" "Z", Cond.fieldLink RJ0 15 "java/lang/String" "coder" "B", Cond.methodLink RX8 29 yX8_at, Cond.instanceMethod yX8_at, Cond.selects RX8 yX8_at yX8_at, Cond.initialized RX8, Cond.code yX8_at cX8_at 2 (some .int), Cond.fieldLink RX8 15 "HalfLadders$Text" "length" "I", Cond.fieldLink RX8 9 "HalfLadders$Text" "bytes" "[B", Cond.methodLink RX8 72 yJ0_charAt_5068e, Cond.instanceMethod yJ0_charAt_5068e, Cond.selects RJ0 yJ0_charAt_5068e yJ0_charAt_5068e, Cond.code yJ0_charAt_5068e cJ0_charAt_5068e 2 (some .char), Cond.methodLink RJ0 492 yJ0_isLatin1_aae02]
def wsX8_spells_r2 : List Cond := [Cond.instanceMethod yJ0_isLatin1_aae02, Cond.selects RJ0 yJ0_isLatin1_aae02 yJ0_isLatin1_aae02, Cond.code yJ0_isLatin1_aae02 cJ0_isLatin1_aae02 1 (some .boolean), Cond.methodLink RJ0 495 yJ1_charAt_3b067, Cond.static yJ1_charAt_3b067, Cond.initialized RJ1, Cond.code yJ1_charAt_3b067 cJ1_charAt_3b067 2 (some .char), Cond.methodLink RJ1 9 yJ0_checkIndex_df160, Cond.static yJ0_checkIndex_df160, Cond.code yJ0_checkIndex_df160 cJ0_checkIndex_df160 2 none, Cond.fieldLink RJ0 1053 "jdk/internal/util/Preconditions" "SIOOBE_FORMATTER" "Ljava/util/function/BiFunction;", Cond.methodLink RJ0 1059 yJ3_checkIndex_8e157, Cond.static yJ3_checkIndex_8e157, Cond.initialized RJ3, Cond.code yJ3_checkIndex_8e157 cJ3_checkIndex_8e157 3 (some .int), Cond.methodLink RJ0 498 yJ2_charAt_3b067, Cond.static yJ2_charAt_3b067, Cond.initialized RJ2, Cond.code yJ2_charAt_3b067 cJ2_charAt_3b067 2 (some .char), Cond.methodLink RJ2 67 yJ2_checkIndex_2214a, Cond.static yJ2_checkIndex_2214a, Cond.code yJ2_checkIndex_2214a cJ2_checkIndex_2214a 2 none, Cond.methodLink RJ2 48 yJ2_length_9d52b, Cond.static yJ2_length_9d52b]
def wsX8_spells_r3 : List Cond := [Cond.code yJ2_length_9d52b cJ2_length_9d52b 1 (some .int), Cond.methodLink RJ2 414 yJ0_checkIndex_df160, Cond.methodLink RJ2 71 yJ2_getChar_3b067, Cond.static yJ2_getChar_3b067, Cond.code yJ2_getChar_3b067 cJ2_getChar_3b067 2 (some .char), Cond.fieldLink RJ2 44 "java/lang/StringUTF16" "$assertionsDisabled" "Z", Cond.fieldLink RJ2 59 "java/lang/StringUTF16" "HI_BYTE_SHIFT" "I", Cond.fieldLink RJ2 63 "java/lang/StringUTF16" "LO_BYTE_SHIFT" "I"]
def wsX8_spells : List Cond := .code yX8_spells cX8_spells 5 (some .boolean) :: ((wsX8_spells_r1 ++ (wsX8_spells_r2 ++ wsX8_spells_r3)) ++ wsX80)
def wsX8_tokenOf_r1 : List Cond := [Cond.methodLink RX8 29 yX8_at, Cond.instanceMethod yX8_at, Cond.selects RX8 yX8_at yX8_at, Cond.initialized RX8, Cond.code yX8_at cX8_at 2 (some .int), Cond.fieldLink RX8 15 "HalfLadders$Text" "length" "I", Cond.fieldLink RX8 9 "HalfLadders$Text" "bytes" "[B", Cond.methodLink RX8 52 yX8_isDigit, Cond.static yX8_isDigit, Cond.code yX8_isDigit cX8_isDigit 1 (some .boolean), Cond.methodLink RX8 57 yX8_spells, Cond.instanceMethod yX8_spells, Cond.selects RX8 yX8_spells yX8_spells, Cond.code yX8_spells cX8_spells 5 (some .boolean), Cond.methodLink RX8 67 yJ0_length_8abf5, Cond.instanceMethod yJ0_length_8abf5, Cond.selects RJ0 yJ0_length_8abf5 yJ0_length_8abf5, Cond.initialized RJ0, Cond.code yJ0_length_8abf5 cJ0_length_8abf5 1 (some .int), Cond.fieldLink RJ0 9 "java/lang/String" "value" "[B", Cond.methodLink RJ0 335 yJ0_coder_7d493, Cond.instanceMethod yJ0_coder_7d493, Cond.selects RJ0 yJ0_coder_7d493 yJ0_coder_7d493, Cond.code yJ0_coder_7d493 cJ0_coder_7d493 1 (some .byte)]
def wsX8_tokenOf_r2 : List Cond := [Cond.fieldLink RJ0 38 "java/lang/String" "COMPACT_STRINGS" "Z", Cond.fieldLink RJ0 15 "java/lang/String" "coder" "B", Cond.methodLink RX8 72 yJ0_charAt_5068e, Cond.instanceMethod yJ0_charAt_5068e, Cond.selects RJ0 yJ0_charAt_5068e yJ0_charAt_5068e, Cond.code yJ0_charAt_5068e cJ0_charAt_5068e 2 (some .char), Cond.methodLink RJ0 492 yJ0_isLatin1_aae02, Cond.instanceMethod yJ0_isLatin1_aae02, Cond.selects RJ0 yJ0_isLatin1_aae02 yJ0_isLatin1_aae02, Cond.code yJ0_isLatin1_aae02 cJ0_isLatin1_aae02 1 (some .boolean), Cond.methodLink RJ0 495 yJ1_charAt_3b067, Cond.static yJ1_charAt_3b067, Cond.initialized RJ1, Cond.code yJ1_charAt_3b067 cJ1_charAt_3b067 2 (some .char), Cond.methodLink RJ1 9 yJ0_checkIndex_df160, Cond.static yJ0_checkIndex_df160, Cond.code yJ0_checkIndex_df160 cJ0_checkIndex_df160 2 none, Cond.fieldLink RJ0 1053 "jdk/internal/util/Preconditions" "SIOOBE_FORMATTER" "Ljava/util/function/BiFunction;", Cond.methodLink RJ0 1059 yJ3_checkIndex_8e157, Cond.static yJ3_checkIndex_8e157, Cond.initialized RJ3, Cond.code yJ3_checkIndex_8e157 cJ3_checkIndex_8e157 3 (some .int), Cond.methodLink RJ0 498 yJ2_charAt_3b067, Cond.static yJ2_charAt_3b067]
def wsX8_tokenOf_r3 : List Cond := [Cond.initialized RJ2, Cond.code yJ2_charAt_3b067 cJ2_charAt_3b067 2 (some .char), Cond.methodLink RJ2 67 yJ2_checkIndex_2214a, Cond.static yJ2_checkIndex_2214a, Cond.code yJ2_checkIndex_2214a cJ2_checkIndex_2214a 2 none, Cond.methodLink RJ2 48 yJ2_length_9d52b, Cond.static yJ2_length_9d52b, Cond.code yJ2_length_9d52b cJ2_length_9d52b 1 (some .int), Cond.methodLink RJ2 414 yJ0_checkIndex_df160, Cond.methodLink RJ2 71 yJ2_getChar_3b067, Cond.static yJ2_getChar_3b067, Cond.code yJ2_getChar_3b067 cJ2_getChar_3b067 2 (some .char), Cond.fieldLink RJ2 44 "java/lang/StringUTF16" "$assertionsDisabled" "Z", Cond.fieldLink RJ2 59 "java/lang/StringUTF16" "HI_BYTE_SHIFT" "I", Cond.fieldLink RJ2 63 "java/lang/StringUTF16" "LO_BYTE_SHIFT" "I"]
def wsX8_tokenOf : List Cond := .code yX8_tokenOf cX8_tokenOf 5 (some .int) :: ((wsX8_tokenOf_r1 ++ (wsX8_tokenOf_r2 ++ wsX8_tokenOf_r3)) ++ wsX80)
def wsX8_numberAt : List Cond := .code yX8_numberAt cX8_numberAt 5 (some .int) :: ([.methodLink RX8 29 yX8_at, .instanceMethod yX8_at, .selects RX8 yX8_at yX8_at, .initialized RX8, .code yX8_at cX8_at 2 (some .int), .fieldLink RX8 15 "HalfLadders$Text" "length" "I", .fieldLink RX8 9 "HalfLadders$Text" "bytes" "[B"] ++ wsX80)
def wsX8_cutIntoTokens_r1 : List Cond := [Cond.fieldLink RX8 15 "HalfLadders$Text" "length" "I", Cond.fieldLink RX8 23 "HalfLadders$Text" "places" "[I", Cond.fieldLink RX8 19 "HalfLadders$Text" "tokens" "[I", Cond.fieldLink RX8 26 "HalfLadders$Text" "values" "[I", Cond.methodLink RX8 43 Lib.Math.max.name, Cond.static Lib.Math.max.name, Cond.initialized "java/lang/Math", Cond.code Lib.Math.max.name Lib.Math.max.code 2 (some .int), Cond.methodLink RX8 29 yX8_at, Cond.instanceMethod yX8_at, Cond.selects RX8 yX8_at yX8_at, Cond.initialized RX8, Cond.code yX8_at cX8_at 2 (some .int), Cond.fieldLink RX8 9 "HalfLadders$Text" "bytes" "[B", Cond.methodLink RX8 33 yX8_endOfToken, Cond.instanceMethod yX8_endOfToken, Cond.selects RX8 yX8_endOfToken yX8_endOfToken, Cond.code yX8_endOfToken cX8_endOfToken 3 (some .int), Cond.methodLink RX8 48 yX8_isLetter, Cond.static yX8_isLetter, Cond.code yX8_isLetter cX8_isLetter 1 (some .boolean), Cond.methodLink RX8 52 yX8_isDigit, Cond.static yX8_isDigit, Cond.code yX8_isDigit cX8_isDigit 1 (some .boolean)]
def wsX8_cutIntoTokens_r2 : List Cond := [Cond.methodLink RX8 36 yX8_tokenOf, Cond.instanceMethod yX8_tokenOf, Cond.selects RX8 yX8_tokenOf yX8_tokenOf, Cond.code yX8_tokenOf cX8_tokenOf 5 (some .int), Cond.methodLink RX8 57 yX8_spells, Cond.instanceMethod yX8_spells, Cond.selects RX8 yX8_spells yX8_spells, Cond.code yX8_spells cX8_spells 5 (some .boolean), Cond.methodLink RX8 67 yJ0_length_8abf5, Cond.instanceMethod yJ0_length_8abf5, Cond.selects RJ0 yJ0_length_8abf5 yJ0_length_8abf5, Cond.initialized RJ0, Cond.code yJ0_length_8abf5 cJ0_length_8abf5 1 (some .int), Cond.fieldLink RJ0 9 "java/lang/String" "value" "[B", Cond.methodLink RJ0 335 yJ0_coder_7d493, Cond.instanceMethod yJ0_coder_7d493, Cond.selects RJ0 yJ0_coder_7d493 yJ0_coder_7d493, Cond.code yJ0_coder_7d493 cJ0_coder_7d493 1 (some .byte), Cond.fieldLink RJ0 38 "java/lang/String" "COMPACT_STRINGS" "Z", Cond.fieldLink RJ0 15 "java/lang/String" "coder" "B", Cond.methodLink RX8 72 yJ0_charAt_5068e, Cond.instanceMethod yJ0_charAt_5068e, Cond.selects RJ0 yJ0_charAt_5068e yJ0_charAt_5068e, Cond.code yJ0_charAt_5068e cJ0_charAt_5068e 2 (some .char)]
def wsX8_cutIntoTokens_r3 : List Cond := [Cond.methodLink RJ0 492 yJ0_isLatin1_aae02, Cond.instanceMethod yJ0_isLatin1_aae02, Cond.selects RJ0 yJ0_isLatin1_aae02 yJ0_isLatin1_aae02, Cond.code yJ0_isLatin1_aae02 cJ0_isLatin1_aae02 1 (some .boolean), Cond.methodLink RJ0 495 yJ1_charAt_3b067, Cond.static yJ1_charAt_3b067, Cond.initialized RJ1, Cond.code yJ1_charAt_3b067 cJ1_charAt_3b067 2 (some .char), Cond.methodLink RJ1 9 yJ0_checkIndex_df160, Cond.static yJ0_checkIndex_df160, Cond.code yJ0_checkIndex_df160 cJ0_checkIndex_df160 2 none, Cond.fieldLink RJ0 1053 "jdk/internal/util/Preconditions" "SIOOBE_FORMATTER" "Ljava/util/function/BiFunction;", Cond.methodLink RJ0 1059 yJ3_checkIndex_8e157, Cond.static yJ3_checkIndex_8e157, Cond.initialized RJ3, Cond.code yJ3_checkIndex_8e157 cJ3_checkIndex_8e157 3 (some .int), Cond.methodLink RJ0 498 yJ2_charAt_3b067, Cond.static yJ2_charAt_3b067, Cond.initialized RJ2, Cond.code yJ2_charAt_3b067 cJ2_charAt_3b067 2 (some .char), Cond.methodLink RJ2 67 yJ2_checkIndex_2214a, Cond.static yJ2_checkIndex_2214a, Cond.code yJ2_checkIndex_2214a cJ2_checkIndex_2214a 2 none, Cond.methodLink RJ2 48 yJ2_length_9d52b]
def wsX8_cutIntoTokens_r4 : List Cond := [Cond.static yJ2_length_9d52b, Cond.code yJ2_length_9d52b cJ2_length_9d52b 1 (some .int), Cond.methodLink RJ2 414 yJ0_checkIndex_df160, Cond.methodLink RJ2 71 yJ2_getChar_3b067, Cond.static yJ2_getChar_3b067, Cond.code yJ2_getChar_3b067 cJ2_getChar_3b067 2 (some .char), Cond.fieldLink RJ2 44 "java/lang/StringUTF16" "$assertionsDisabled" "Z", Cond.fieldLink RJ2 59 "java/lang/StringUTF16" "HI_BYTE_SHIFT" "I", Cond.fieldLink RJ2 63 "java/lang/StringUTF16" "LO_BYTE_SHIFT" "I", Cond.methodLink RX8 40 yX8_numberAt, Cond.instanceMethod yX8_numberAt, Cond.selects RX8 yX8_numberAt yX8_numberAt, Cond.code yX8_numberAt cX8_numberAt 5 (some .int)]
def wsX8_cutIntoTokens : List Cond := .code yX8_cutIntoTokens cX8_cutIntoTokens 4 none :: ((wsX8_cutIntoTokens_r1 ++ (wsX8_cutIntoTokens_r2 ++ (wsX8_cutIntoTokens_r3 ++ wsX8_cutIntoTokens_r4))) ++ wsX80)
def wsX6_look : List Cond := .code yX6_look cX6_look 1 none :: ([.fieldLink RX6 9 "HalfLadders$Reader" "looked" "I", .methodLink RX6 46 Lib.Math.min.name, .static Lib.Math.min.name, .initialized "java/lang/Math", .code Lib.Math.min.name Lib.Math.min.code 2 (some .int), .fieldLink RX6 21 "HalfLadders$Reader" "text" "LHalfLadders$Text;", .fieldLink RX6 52 "HalfLadders$Text" "tokens" "[I", .fieldLink RX6 15 "HalfLadders$Reader" "token" "I", .fieldLink RX6 55 "HalfLadders$Text" "values" "[I", .fieldLink RX6 18 "HalfLadders$Reader" "value" "I"] ++ wsX60 ++ wsX80)
def wsX6_advance : List Cond := .code yX6_advance cX6_advance 1 none :: ([.fieldLink RX6 9 "HalfLadders$Reader" "looked" "I", .methodLink RX6 35 yX6_look, .instanceMethod yX6_look, .selects RX6 yX6_look yX6_look, .initialized RX6, .code yX6_look cX6_look 1 none, .methodLink RX6 46 Lib.Math.min.name, .static Lib.Math.min.name, .initialized "java/lang/Math", .code Lib.Math.min.name Lib.Math.min.code 2 (some .int), .fieldLink RX6 21 "HalfLadders$Reader" "text" "LHalfLadders$Text;", .fieldLink RX6 52 "HalfLadders$Text" "tokens" "[I", .fieldLink RX6 15 "HalfLadders$Reader" "token" "I", .fieldLink RX6 55 "HalfLadders$Text" "values" "[I", .fieldLink RX6 18 "HalfLadders$Reader" "value" "I"] ++ wsX60 ++ wsX80)
def wsX6_readNumber : List Cond := .code yX6_readNumber cX6_readNumber 3 (some .boolean) :: ([.fieldLink RX6 15 "HalfLadders$Reader" "token" "I", .fieldLink RX6 18 "HalfLadders$Reader" "value" "I", .methodLink RX6 94 yX6_advance, .instanceMethod yX6_advance, .selects RX6 yX6_advance yX6_advance, .initialized RX6, .code yX6_advance cX6_advance 1 none, .fieldLink RX6 9 "HalfLadders$Reader" "looked" "I", .methodLink RX6 35 yX6_look, .instanceMethod yX6_look, .selects RX6 yX6_look yX6_look, .code yX6_look cX6_look 1 none, .methodLink RX6 46 Lib.Math.min.name, .static Lib.Math.min.name, .initialized "java/lang/Math", .code Lib.Math.min.name Lib.Math.min.code 2 (some .int), .fieldLink RX6 21 "HalfLadders$Reader" "text" "LHalfLadders$Text;", .fieldLink RX6 52 "HalfLadders$Text" "tokens" "[I", .fieldLink RX6 55 "HalfLadders$Text" "values" "[I"] ++ wsX60 ++ wsX80)
def wsX6_readSemicolon : List Cond := .code yX6_readSemicolon cX6_readSemicolon 1 (some .boolean) :: ([.fieldLink RX6 15 "HalfLadders$Reader" "token" "I", .methodLink RX6 94 yX6_advance, .instanceMethod yX6_advance, .selects RX6 yX6_advance yX6_advance, .initialized RX6, .code yX6_advance cX6_advance 1 none, .fieldLink RX6 9 "HalfLadders$Reader" "looked" "I", .methodLink RX6 35 yX6_look, .instanceMethod yX6_look, .selects RX6 yX6_look yX6_look, .code yX6_look cX6_look 1 none, .methodLink RX6 46 Lib.Math.min.name, .static Lib.Math.min.name, .initialized "java/lang/Math", .code Lib.Math.min.name Lib.Math.min.code 2 (some .int), .fieldLink RX6 21 "HalfLadders$Reader" "text" "LHalfLadders$Text;", .fieldLink RX6 52 "HalfLadders$Text" "tokens" "[I", .fieldLink RX6 55 "HalfLadders$Text" "values" "[I", .fieldLink RX6 18 "HalfLadders$Reader" "value" "I"] ++ wsX60 ++ wsX80)
def wsX6_readHalf_r1 : List Cond := [Cond.fieldLink RX6 68 "HalfLadders$Orchard" "people" "I", Cond.fieldLink RX6 18 "HalfLadders$Reader" "value" "I", Cond.methodLink RX6 71 yX6_readNumber, Cond.instanceMethod yX6_readNumber, Cond.selects RX6 yX6_readNumber yX6_readNumber, Cond.initialized RX6, Cond.code yX6_readNumber cX6_readNumber 3 (some .boolean), Cond.fieldLink RX6 15 "HalfLadders$Reader" "token" "I", Cond.methodLink RX6 94 yX6_advance, Cond.instanceMethod yX6_advance, Cond.selects RX6 yX6_advance yX6_advance, Cond.code yX6_advance cX6_advance 1 none, Cond.fieldLink RX6 9 "HalfLadders$Reader" "looked" "I", Cond.methodLink RX6 35 yX6_look, Cond.instanceMethod yX6_look, Cond.selects RX6 yX6_look yX6_look, Cond.code yX6_look cX6_look 1 none, Cond.methodLink RX6 46 Lib.Math.min.name, Cond.static Lib.Math.min.name, Cond.initialized "java/lang/Math", Cond.code Lib.Math.min.name Lib.Math.min.code 2 (some .int), Cond.fieldLink RX6 21 "HalfLadders$Reader" "text" "LHalfLadders$Text;", Cond.fieldLink RX6 52 "HalfLadders$Text" "tokens" "[I", Cond.fieldLink RX6 55 "HalfLadders$Text" "values" "[I"]
def wsX6_readHalf_r2 : List Cond := [Cond.methodLink RX6 75 yX6_readSemicolon, Cond.instanceMethod yX6_readSemicolon, Cond.selects RX6 yX6_readSemicolon yX6_readSemicolon, Cond.code yX6_readSemicolon cX6_readSemicolon 1 (some .boolean), Cond.methodLink RX6 79 yX3_addHalf, Cond.instanceMethod yX3_addHalf, Cond.selects RX3 yX3_addHalf yX3_addHalf, Cond.initialized RX3, Cond.code yX3_addHalf cX3_addHalf 5 none, Cond.fieldLink RX3 9 "HalfLadders$Orchard" "people" "I", Cond.fieldLink RX3 18 "HalfLadders$Orchard" "sides" "[I", Cond.fieldLink RX3 22 "HalfLadders$Orchard" "gaps" "[I", Cond.fieldLink RX3 25 "HalfLadders$Orchard" "lengths" "[I", Cond.fieldLink RX3 28 "HalfLadders$Orchard" "paces" "[I", Cond.fieldLink RX3 31 "HalfLadders$Orchard" "quarrels" "[I"]
def wsX6_readHalf : List Cond := .code yX6_readHalf cX6_readHalf 6 (some .boolean) :: ((wsX6_readHalf_r1 ++ wsX6_readHalf_r2) ++ wsX30 ++ wsX60 ++ wsX80)
def wsX6_readQuarrel_r1 : List Cond := [Cond.fieldLink RX6 68 "HalfLadders$Orchard" "people" "I", Cond.fieldLink RX6 18 "HalfLadders$Reader" "value" "I", Cond.methodLink RX6 71 yX6_readNumber, Cond.instanceMethod yX6_readNumber, Cond.selects RX6 yX6_readNumber yX6_readNumber, Cond.initialized RX6, Cond.code yX6_readNumber cX6_readNumber 3 (some .boolean), Cond.fieldLink RX6 15 "HalfLadders$Reader" "token" "I", Cond.methodLink RX6 94 yX6_advance, Cond.instanceMethod yX6_advance, Cond.selects RX6 yX6_advance yX6_advance, Cond.code yX6_advance cX6_advance 1 none, Cond.fieldLink RX6 9 "HalfLadders$Reader" "looked" "I", Cond.methodLink RX6 35 yX6_look, Cond.instanceMethod yX6_look, Cond.selects RX6 yX6_look yX6_look, Cond.code yX6_look cX6_look 1 none, Cond.methodLink RX6 46 Lib.Math.min.name, Cond.static Lib.Math.min.name, Cond.initialized "java/lang/Math", Cond.code Lib.Math.min.name Lib.Math.min.code 2 (some .int), Cond.fieldLink RX6 21 "HalfLadders$Reader" "text" "LHalfLadders$Text;", Cond.fieldLink RX6 52 "HalfLadders$Text" "tokens" "[I", Cond.fieldLink RX6 55 "HalfLadders$Text" "values" "[I"]
def wsX6_readQuarrel_r2 : List Cond := [Cond.methodLink RX6 75 yX6_readSemicolon, Cond.instanceMethod yX6_readSemicolon, Cond.selects RX6 yX6_readSemicolon yX6_readSemicolon, Cond.code yX6_readSemicolon cX6_readSemicolon 1 (some .boolean), Cond.methodLink RX6 83 yX3_addQuarrel, Cond.instanceMethod yX3_addQuarrel, Cond.selects RX3 yX3_addQuarrel yX3_addQuarrel, Cond.initialized RX3, Cond.code yX3_addQuarrel cX3_addQuarrel 3 none, Cond.fieldLink RX3 31 "HalfLadders$Orchard" "quarrels" "[I", Cond.methodLink RX3 43 yX3_hasHalf, Cond.instanceMethod yX3_hasHalf, Cond.selects RX3 yX3_hasHalf yX3_hasHalf, Cond.code yX3_hasHalf cX3_hasHalf 2 (some .boolean), Cond.fieldLink RX3 9 "HalfLadders$Orchard" "people" "I"]
def wsX6_readQuarrel : List Cond := .code yX6_readQuarrel cX6_readQuarrel 4 (some .boolean) :: ((wsX6_readQuarrel_r1 ++ wsX6_readQuarrel_r2) ++ wsX30 ++ wsX60 ++ wsX80)
def wsX6_readTree_r1 : List Cond := [Cond.fieldLink RX6 87 "HalfLadders$Orchard" "trees" "I", Cond.fieldLink RX6 18 "HalfLadders$Reader" "value" "I", Cond.methodLink RX6 71 yX6_readNumber, Cond.instanceMethod yX6_readNumber, Cond.selects RX6 yX6_readNumber yX6_readNumber, Cond.initialized RX6, Cond.code yX6_readNumber cX6_readNumber 3 (some .boolean), Cond.fieldLink RX6 15 "HalfLadders$Reader" "token" "I", Cond.methodLink RX6 94 yX6_advance, Cond.instanceMethod yX6_advance, Cond.selects RX6 yX6_advance yX6_advance, Cond.code yX6_advance cX6_advance 1 none, Cond.fieldLink RX6 9 "HalfLadders$Reader" "looked" "I", Cond.methodLink RX6 35 yX6_look, Cond.instanceMethod yX6_look, Cond.selects RX6 yX6_look yX6_look, Cond.code yX6_look cX6_look 1 none, Cond.methodLink RX6 46 Lib.Math.min.name, Cond.static Lib.Math.min.name, Cond.initialized "java/lang/Math", Cond.code Lib.Math.min.name Lib.Math.min.code 2 (some .int), Cond.fieldLink RX6 21 "HalfLadders$Reader" "text" "LHalfLadders$Text;", Cond.fieldLink RX6 52 "HalfLadders$Text" "tokens" "[I", Cond.fieldLink RX6 55 "HalfLadders$Text" "values" "[I"]
def wsX6_readTree_r2 : List Cond := [Cond.methodLink RX6 75 yX6_readSemicolon, Cond.instanceMethod yX6_readSemicolon, Cond.selects RX6 yX6_readSemicolon yX6_readSemicolon, Cond.code yX6_readSemicolon cX6_readSemicolon 1 (some .boolean), Cond.methodLink RX6 90 yX3_addTree, Cond.instanceMethod yX3_addTree, Cond.selects RX3 yX3_addTree yX3_addTree, Cond.initialized RX3, Cond.code yX3_addTree cX3_addTree 4 none, Cond.fieldLink RX3 15 "HalfLadders$Orchard" "trees" "I", Cond.fieldLink RX3 34 "HalfLadders$Orchard" "highs" "[I", Cond.fieldLink RX3 37 "HalfLadders$Orchard" "ripes" "[I", Cond.fieldLink RX3 40 "HalfLadders$Orchard" "baskets" "[I"]
def wsX6_readTree : List Cond := .code yX6_readTree cX6_readTree 5 (some .boolean) :: ((wsX6_readTree_r1 ++ wsX6_readTree_r2) ++ wsX30 ++ wsX60 ++ wsX80)
def wsX6_readItem_r1 : List Cond := [Cond.fieldLink RX6 15 "HalfLadders$Reader" "token" "I", Cond.methodLink RX6 58 yX6_readHalf, Cond.instanceMethod yX6_readHalf, Cond.selects RX6 yX6_readHalf yX6_readHalf, Cond.initialized RX6, Cond.code yX6_readHalf cX6_readHalf 6 (some .boolean), Cond.fieldLink RX6 68 "HalfLadders$Orchard" "people" "I", Cond.fieldLink RX6 18 "HalfLadders$Reader" "value" "I", Cond.methodLink RX6 71 yX6_readNumber, Cond.instanceMethod yX6_readNumber, Cond.selects RX6 yX6_readNumber yX6_readNumber, Cond.code yX6_readNumber cX6_readNumber 3 (some .boolean), Cond.methodLink RX6 94 yX6_advance, Cond.instanceMethod yX6_advance, Cond.selects RX6 yX6_advance yX6_advance, Cond.code yX6_advance cX6_advance 1 none, Cond.fieldLink RX6 9 "HalfLadders$Reader" "looked" "I", Cond.methodLink RX6 35 yX6_look, Cond.instanceMethod yX6_look, Cond.selects RX6 yX6_look yX6_look, Cond.code yX6_look cX6_look 1 none, Cond.methodLink RX6 46 Lib.Math.min.name, Cond.static Lib.Math.min.name, Cond.initialized "java/lang/Math"]
def wsX6_readItem_r2 : List Cond := [Cond.code Lib.Math.min.name Lib.Math.min.code 2 (some .int), Cond.fieldLink RX6 21 "HalfLadders$Reader" "text" "LHalfLadders$Text;", Cond.fieldLink RX6 52 "HalfLadders$Text" "tokens" "[I", Cond.fieldLink RX6 55 "HalfLadders$Text" "values" "[I", Cond.methodLink RX6 75 yX6_readSemicolon, Cond.instanceMethod yX6_readSemicolon, Cond.selects RX6 yX6_readSemicolon yX6_readSemicolon, Cond.code yX6_readSemicolon cX6_readSemicolon 1 (some .boolean), Cond.methodLink RX6 79 yX3_addHalf, Cond.instanceMethod yX3_addHalf, Cond.selects RX3 yX3_addHalf yX3_addHalf, Cond.initialized RX3, Cond.code yX3_addHalf cX3_addHalf 5 none, Cond.fieldLink RX3 9 "HalfLadders$Orchard" "people" "I", Cond.fieldLink RX3 18 "HalfLadders$Orchard" "sides" "[I", Cond.fieldLink RX3 22 "HalfLadders$Orchard" "gaps" "[I", Cond.fieldLink RX3 25 "HalfLadders$Orchard" "lengths" "[I", Cond.fieldLink RX3 28 "HalfLadders$Orchard" "paces" "[I", Cond.fieldLink RX3 31 "HalfLadders$Orchard" "quarrels" "[I", Cond.methodLink RX6 62 yX6_readQuarrel, Cond.instanceMethod yX6_readQuarrel, Cond.selects RX6 yX6_readQuarrel yX6_readQuarrel, Cond.code yX6_readQuarrel cX6_readQuarrel 4 (some .boolean), Cond.methodLink RX6 83 yX3_addQuarrel]
def wsX6_readItem_r3 : List Cond := [Cond.instanceMethod yX3_addQuarrel, Cond.selects RX3 yX3_addQuarrel yX3_addQuarrel, Cond.code yX3_addQuarrel cX3_addQuarrel 3 none, Cond.methodLink RX3 43 yX3_hasHalf, Cond.instanceMethod yX3_hasHalf, Cond.selects RX3 yX3_hasHalf yX3_hasHalf, Cond.code yX3_hasHalf cX3_hasHalf 2 (some .boolean), Cond.methodLink RX6 65 yX6_readTree, Cond.instanceMethod yX6_readTree, Cond.selects RX6 yX6_readTree yX6_readTree, Cond.code yX6_readTree cX6_readTree 5 (some .boolean), Cond.fieldLink RX6 87 "HalfLadders$Orchard" "trees" "I", Cond.methodLink RX6 90 yX3_addTree, Cond.instanceMethod yX3_addTree, Cond.selects RX3 yX3_addTree yX3_addTree, Cond.code yX3_addTree cX3_addTree 4 none, Cond.fieldLink RX3 15 "HalfLadders$Orchard" "trees" "I", Cond.fieldLink RX3 34 "HalfLadders$Orchard" "highs" "[I", Cond.fieldLink RX3 37 "HalfLadders$Orchard" "ripes" "[I", Cond.fieldLink RX3 40 "HalfLadders$Orchard" "baskets" "[I"]
def wsX6_readItem : List Cond := .code yX6_readItem cX6_readItem 2 (some .boolean) :: ((wsX6_readItem_r1 ++ (wsX6_readItem_r2 ++ wsX6_readItem_r3)) ++ wsX60 ++ wsX30 ++ wsX80)
def wsX6_readAll_r1 : List Cond := [Cond.fieldLink RX6 21 "HalfLadders$Reader" "text" "LHalfLadders$Text;", Cond.fieldLink RX6 9 "HalfLadders$Reader" "looked" "I", Cond.fieldLink RX6 15 "HalfLadders$Reader" "token" "I", Cond.fieldLink RX6 42 "HalfLadders$Text" "places" "[I", Cond.methodLink RX6 25 yX8_cutIntoTokens, Cond.instanceMethod yX8_cutIntoTokens, Cond.selects RX8 yX8_cutIntoTokens yX8_cutIntoTokens, Cond.initialized RX8, Cond.code yX8_cutIntoTokens cX8_cutIntoTokens 4 none, Cond.fieldLink RX8 15 "HalfLadders$Text" "length" "I", Cond.fieldLink RX8 23 "HalfLadders$Text" "places" "[I", Cond.fieldLink RX8 19 "HalfLadders$Text" "tokens" "[I", Cond.fieldLink RX8 26 "HalfLadders$Text" "values" "[I", Cond.methodLink RX8 43 Lib.Math.max.name, Cond.static Lib.Math.max.name, Cond.initialized "java/lang/Math", Cond.code Lib.Math.max.name Lib.Math.max.code 2 (some .int), Cond.methodLink RX8 29 yX8_at, Cond.instanceMethod yX8_at, Cond.selects RX8 yX8_at yX8_at, Cond.code yX8_at cX8_at 2 (some .int), Cond.fieldLink RX8 9 "HalfLadders$Text" "bytes" "[B", Cond.methodLink RX8 33 yX8_endOfToken, Cond.instanceMethod yX8_endOfToken]
def wsX6_readAll_r2 : List Cond := [Cond.selects RX8 yX8_endOfToken yX8_endOfToken, Cond.code yX8_endOfToken cX8_endOfToken 3 (some .int), Cond.methodLink RX8 48 yX8_isLetter, Cond.static yX8_isLetter, Cond.code yX8_isLetter cX8_isLetter 1 (some .boolean), Cond.methodLink RX8 52 yX8_isDigit, Cond.static yX8_isDigit, Cond.code yX8_isDigit cX8_isDigit 1 (some .boolean), Cond.methodLink RX8 36 yX8_tokenOf, Cond.instanceMethod yX8_tokenOf, Cond.selects RX8 yX8_tokenOf yX8_tokenOf, Cond.code yX8_tokenOf cX8_tokenOf 5 (some .int), Cond.methodLink RX8 57 yX8_spells, Cond.instanceMethod yX8_spells, Cond.selects RX8 yX8_spells yX8_spells, Cond.code yX8_spells cX8_spells 5 (some .boolean), Cond.methodLink RX8 67 yJ0_length_8abf5, Cond.instanceMethod yJ0_length_8abf5, Cond.selects RJ0 yJ0_length_8abf5 yJ0_length_8abf5, Cond.initialized RJ0, Cond.code yJ0_length_8abf5 cJ0_length_8abf5 1 (some .int), Cond.fieldLink RJ0 9 "java/lang/String" "value" "[B", Cond.methodLink RJ0 335 yJ0_coder_7d493, Cond.instanceMethod yJ0_coder_7d493]
def wsX6_readAll_r3 : List Cond := [Cond.selects RJ0 yJ0_coder_7d493 yJ0_coder_7d493, Cond.code yJ0_coder_7d493 cJ0_coder_7d493 1 (some .byte), Cond.fieldLink RJ0 38 "java/lang/String" "COMPACT_STRINGS" "Z", Cond.fieldLink RJ0 15 "java/lang/String" "coder" "B", Cond.methodLink RX8 72 yJ0_charAt_5068e, Cond.instanceMethod yJ0_charAt_5068e, Cond.selects RJ0 yJ0_charAt_5068e yJ0_charAt_5068e, Cond.code yJ0_charAt_5068e cJ0_charAt_5068e 2 (some .char), Cond.methodLink RJ0 492 yJ0_isLatin1_aae02, Cond.instanceMethod yJ0_isLatin1_aae02, Cond.selects RJ0 yJ0_isLatin1_aae02 yJ0_isLatin1_aae02, Cond.code yJ0_isLatin1_aae02 cJ0_isLatin1_aae02 1 (some .boolean), Cond.methodLink RJ0 495 yJ1_charAt_3b067, Cond.static yJ1_charAt_3b067, Cond.initialized RJ1, Cond.code yJ1_charAt_3b067 cJ1_charAt_3b067 2 (some .char), Cond.methodLink RJ1 9 yJ0_checkIndex_df160, Cond.static yJ0_checkIndex_df160, Cond.code yJ0_checkIndex_df160 cJ0_checkIndex_df160 2 none, Cond.fieldLink RJ0 1053 "jdk/internal/util/Preconditions" "SIOOBE_FORMATTER" "Ljava/util/function/BiFunction;", Cond.methodLink RJ0 1059 yJ3_checkIndex_8e157, Cond.static yJ3_checkIndex_8e157, Cond.initialized RJ3, Cond.code yJ3_checkIndex_8e157 cJ3_checkIndex_8e157 3 (some .int)]
def wsX6_readAll_r4 : List Cond := [Cond.methodLink RJ0 498 yJ2_charAt_3b067, Cond.static yJ2_charAt_3b067, Cond.initialized RJ2, Cond.code yJ2_charAt_3b067 cJ2_charAt_3b067 2 (some .char), Cond.methodLink RJ2 67 yJ2_checkIndex_2214a, Cond.static yJ2_checkIndex_2214a, Cond.code yJ2_checkIndex_2214a cJ2_checkIndex_2214a 2 none, Cond.methodLink RJ2 48 yJ2_length_9d52b, Cond.static yJ2_length_9d52b, Cond.code yJ2_length_9d52b cJ2_length_9d52b 1 (some .int), Cond.methodLink RJ2 414 yJ0_checkIndex_df160, Cond.methodLink RJ2 71 yJ2_getChar_3b067, Cond.static yJ2_getChar_3b067, Cond.code yJ2_getChar_3b067 cJ2_getChar_3b067 2 (some .char), Cond.fieldLink RJ2 44 "java/lang/StringUTF16" "$assertionsDisabled" "Z", Cond.fieldLink RJ2 59 "java/lang/StringUTF16" "HI_BYTE_SHIFT" "I", Cond.fieldLink RJ2 63 "java/lang/StringUTF16" "LO_BYTE_SHIFT" "I", Cond.methodLink RX8 40 yX8_numberAt, Cond.instanceMethod yX8_numberAt, Cond.selects RX8 yX8_numberAt yX8_numberAt, Cond.code yX8_numberAt cX8_numberAt 5 (some .int), Cond.methodLink RX6 30 yX3_empty, Cond.instanceMethod yX3_empty, Cond.selects RX3 yX3_empty yX3_empty]
def wsX6_readAll_r5 : List Cond := [Cond.initialized RX3, Cond.code yX3_empty cX3_empty 1 none, Cond.fieldLink RX3 9 "HalfLadders$Orchard" "people" "I", Cond.fieldLink RX3 15 "HalfLadders$Orchard" "trees" "I", Cond.methodLink RX6 35 yX6_look, Cond.instanceMethod yX6_look, Cond.selects RX6 yX6_look yX6_look, Cond.initialized RX6, Cond.code yX6_look cX6_look 1 none, Cond.methodLink RX6 46 Lib.Math.min.name, Cond.static Lib.Math.min.name, Cond.code Lib.Math.min.name Lib.Math.min.code 2 (some .int), Cond.fieldLink RX6 52 "HalfLadders$Text" "tokens" "[I", Cond.fieldLink RX6 55 "HalfLadders$Text" "values" "[I", Cond.fieldLink RX6 18 "HalfLadders$Reader" "value" "I", Cond.methodLink RX6 38 yX6_readItem, Cond.instanceMethod yX6_readItem, Cond.selects RX6 yX6_readItem yX6_readItem, Cond.code yX6_readItem cX6_readItem 2 (some .boolean), Cond.methodLink RX6 58 yX6_readHalf, Cond.instanceMethod yX6_readHalf, Cond.selects RX6 yX6_readHalf yX6_readHalf, Cond.code yX6_readHalf cX6_readHalf 6 (some .boolean), Cond.fieldLink RX6 68 "HalfLadders$Orchard" "people" "I"]
def wsX6_readAll_r6 : List Cond := [Cond.methodLink RX6 71 yX6_readNumber, Cond.instanceMethod yX6_readNumber, Cond.selects RX6 yX6_readNumber yX6_readNumber, Cond.code yX6_readNumber cX6_readNumber 3 (some .boolean), Cond.methodLink RX6 94 yX6_advance, Cond.instanceMethod yX6_advance, Cond.selects RX6 yX6_advance yX6_advance, Cond.code yX6_advance cX6_advance 1 none, Cond.methodLink RX6 75 yX6_readSemicolon, Cond.instanceMethod yX6_readSemicolon, Cond.selects RX6 yX6_readSemicolon yX6_readSemicolon, Cond.code yX6_readSemicolon cX6_readSemicolon 1 (some .boolean), Cond.methodLink RX6 79 yX3_addHalf, Cond.instanceMethod yX3_addHalf, Cond.selects RX3 yX3_addHalf yX3_addHalf, Cond.code yX3_addHalf cX3_addHalf 5 none, Cond.fieldLink RX3 18 "HalfLadders$Orchard" "sides" "[I", Cond.fieldLink RX3 22 "HalfLadders$Orchard" "gaps" "[I", Cond.fieldLink RX3 25 "HalfLadders$Orchard" "lengths" "[I", Cond.fieldLink RX3 28 "HalfLadders$Orchard" "paces" "[I", Cond.fieldLink RX3 31 "HalfLadders$Orchard" "quarrels" "[I", Cond.methodLink RX6 62 yX6_readQuarrel, Cond.instanceMethod yX6_readQuarrel, Cond.selects RX6 yX6_readQuarrel yX6_readQuarrel]
def wsX6_readAll_r7 : List Cond := [Cond.code yX6_readQuarrel cX6_readQuarrel 4 (some .boolean), Cond.methodLink RX6 83 yX3_addQuarrel, Cond.instanceMethod yX3_addQuarrel, Cond.selects RX3 yX3_addQuarrel yX3_addQuarrel, Cond.code yX3_addQuarrel cX3_addQuarrel 3 none, Cond.methodLink RX3 43 yX3_hasHalf, Cond.instanceMethod yX3_hasHalf, Cond.selects RX3 yX3_hasHalf yX3_hasHalf, Cond.code yX3_hasHalf cX3_hasHalf 2 (some .boolean), Cond.methodLink RX6 65 yX6_readTree, Cond.instanceMethod yX6_readTree, Cond.selects RX6 yX6_readTree yX6_readTree, Cond.code yX6_readTree cX6_readTree 5 (some .boolean), Cond.fieldLink RX6 87 "HalfLadders$Orchard" "trees" "I", Cond.methodLink RX6 90 yX3_addTree, Cond.instanceMethod yX3_addTree, Cond.selects RX3 yX3_addTree yX3_addTree, Cond.code yX3_addTree cX3_addTree 4 none, Cond.fieldLink RX3 34 "HalfLadders$Orchard" "highs" "[I", Cond.fieldLink RX3 37 "HalfLadders$Orchard" "ripes" "[I", Cond.fieldLink RX3 40 "HalfLadders$Orchard" "baskets" "[I"]
def wsX6_readAll : List Cond := .code yX6_readAll cX6_readAll 3 (some .int) :: ((wsX6_readAll_r1 ++ (wsX6_readAll_r2 ++ (wsX6_readAll_r3 ++ (wsX6_readAll_r4 ++ (wsX6_readAll_r5 ++ (wsX6_readAll_r6 ++ wsX6_readAll_r7)))))) ++ wsX60 ++ wsX80 ++ wsX30)
def wsX7_init : List Cond := .code yX7_init cX7_init 1 none :: ([.methodLink RX7 3 objectInit, .instanceMethod objectInit, .code objectInit ⟨#[0xb1]⟩ 1 none, .arrayClass .int, .fieldLink RX7 9 "HalfLadders$Sums" "wholes" "[I"] ++ wsX70)
def wsX7_wholeOf : List Cond := .code yX7_wholeOf cX7_wholeOf 7 (some .int) :: ([.fieldLink RX7 9 "HalfLadders$Sums" "wholes" "[I", .fieldLink RX7 25 "HalfLadders$Pairs" "count" "I", .fieldLink RX7 31 "HalfLadders$Pairs" "bits" "[I", .fieldLink RX7 34 "HalfLadders$Pairs" "picks" "[I", .methodLink RX7 37 Lib.Math.max.name, .static Lib.Math.max.name, .initialized "java/lang/Math", .code Lib.Math.max.name Lib.Math.max.code 2 (some .int)] ++ wsX70 ++ wsX40)
def wsX7_reckon : List Cond := .code yX7_reckon cX7_reckon 4 none :: ([.fieldLink RX7 9 "HalfLadders$Sums" "wholes" "[I", .methodLink RX7 15 yX3_everybody, .instanceMethod yX3_everybody, .selects RX3 yX3_everybody yX3_everybody, .initialized RX3, .code yX3_everybody cX3_everybody 1 (some .int), .fieldLink RX3 9 "HalfLadders$Orchard" "people" "I", .methodLink RX7 21 yX7_wholeOf, .instanceMethod yX7_wholeOf, .selects RX7 yX7_wholeOf yX7_wholeOf, .initialized RX7, .code yX7_wholeOf cX7_wholeOf 7 (some .int), .fieldLink RX7 25 "HalfLadders$Pairs" "count" "I", .fieldLink RX7 31 "HalfLadders$Pairs" "bits" "[I", .fieldLink RX7 34 "HalfLadders$Pairs" "picks" "[I", .methodLink RX7 37 Lib.Math.max.name, .static Lib.Math.max.name, .initialized "java/lang/Math", .code Lib.Math.max.name Lib.Math.max.code 2 (some .int)] ++ wsX70 ++ wsX30 ++ wsX40)
def wsX7_grownOverOrders : List Cond := .code yX7_grownOverOrders cX7_grownOverOrders 8 (some .int) :: ([.fieldLink RX7 9 "HalfLadders$Sums" "wholes" "[I", .methodLink RX7 43 yJ6_bitCount_0f7a4, .static yJ6_bitCount_0f7a4, .initialized RJ6, .code yJ6_bitCount_0f7a4 cJ6_bitCount_0f7a4 1 (some .int), .constant RJ6 265 (1431655765), .constant RJ6 266 (858993459), .constant RJ6 267 (252645135)] ++ wsX70)
def wsX8_init : List Cond := .code yX8_init cX8_init 1 none :: ([.methodLink RX8 3 objectInit, .instanceMethod objectInit, .code objectInit ⟨#[0xb1]⟩ 1 none, .arrayClass .byte, .fieldLink RX8 9 "HalfLadders$Text" "bytes" "[B", .fieldLink RX8 15 "HalfLadders$Text" "length" "I", .arrayClass .int, .fieldLink RX8 19 "HalfLadders$Text" "tokens" "[I", .fieldLink RX8 23 "HalfLadders$Text" "places" "[I", .fieldLink RX8 26 "HalfLadders$Text" "values" "[I"] ++ wsX80)
def wsX8_room : List Cond := .code yX8_room cX8_room 1 (some .int) :: ([.fieldLink RX8 15 "HalfLadders$Text" "length" "I"] ++ wsX80)
end
section
def wsX8_add : List Cond := .code yX8_add cX8_add 2 none :: ([.fieldLink RX8 15 "HalfLadders$Text" "length" "I", .fieldLink RX8 9 "HalfLadders$Text" "bytes" "[B"] ++ wsX80)
def wsX9_startAnew_r1 : List Cond := [Cond.fieldLink RX9 38 "HalfLadders" "pairs" "LHalfLadders$Pairs;", Cond.fieldLink RX9 28 "HalfLadders" "told" "LHalfLadders$Orchard;", Cond.fieldLink RX9 45 "HalfLadders" "sums" "LHalfLadders$Sums;", Cond.fieldLink RX9 52 "HalfLadders" "cutting" "LHalfLadders$Cutting;", Cond.fieldLink RX9 59 "HalfLadders" "liking" "LHalfLadders$Liking;", Cond.fieldLink RX9 73 "HalfLadders" "present" "LHalfLadders$Now;", Cond.fieldLink RX9 84 "HalfLadders" "kept" "[Z", Cond.methodLink RX9 262 yX4_list, Cond.instanceMethod yX4_list, Cond.selects RX4 yX4_list yX4_list, Cond.initialized RX4, Cond.code yX4_list cX4_list 3 none, Cond.fieldLink RX4 9 "HalfLadders$Pairs" "count" "I", Cond.fieldLink RX4 15 "HalfLadders$Pairs" "allLefts" "I", Cond.fieldLink RX4 37 "HalfLadders$Orchard" "people" "I", Cond.fieldLink RX4 42 "HalfLadders$Orchard" "sides" "[I", Cond.methodLink RX4 45 yX4_listOf, Cond.instanceMethod yX4_listOf, Cond.selects RX4 yX4_listOf yX4_listOf, Cond.code yX4_listOf cX4_listOf 4 none, Cond.fieldLink RX4 18 "HalfLadders$Pairs" "lefts" "[I", Cond.fieldLink RX4 22 "HalfLadders$Pairs" "rights" "[I", Cond.fieldLink RX4 25 "HalfLadders$Pairs" "bits" "[I", Cond.fieldLink RX4 28 "HalfLadders$Pairs" "gaps" "[I"]
def wsX9_startAnew_r2 : List Cond := [Cond.fieldLink RX4 53 "HalfLadders$Orchard" "gaps" "[I", Cond.fieldLink RX4 31 "HalfLadders$Pairs" "ladders" "[I", Cond.fieldLink RX4 54 "HalfLadders$Orchard" "lengths" "[I", Cond.methodLink RX4 57 Lib.Math.min.name, Cond.static Lib.Math.min.name, Cond.initialized "java/lang/Math", Cond.code Lib.Math.min.name Lib.Math.min.code 2 (some .int), Cond.fieldLink RX4 34 "HalfLadders$Pairs" "picks" "[I", Cond.fieldLink RX4 63 "HalfLadders$Orchard" "paces" "[I", Cond.methodLink RX4 49 yX3_fits, Cond.instanceMethod yX3_fits, Cond.selects RX3 yX3_fits yX3_fits, Cond.initialized RX3, Cond.code yX3_fits cX3_fits 3 (some .boolean), Cond.fieldLink RX3 22 "HalfLadders$Orchard" "gaps" "[I", Cond.methodLink RX3 47 yX3_couldFit, Cond.instanceMethod yX3_couldFit, Cond.selects RX3 yX3_couldFit yX3_couldFit, Cond.code yX3_couldFit cX3_couldFit 3 (some .boolean), Cond.fieldLink RX3 18 "HalfLadders$Orchard" "sides" "[I", Cond.fieldLink RX3 31 "HalfLadders$Orchard" "quarrels" "[I", Cond.methodLink RX3 43 yX3_hasHalf, Cond.instanceMethod yX3_hasHalf, Cond.selects RX3 yX3_hasHalf yX3_hasHalf]
def wsX9_startAnew_r3 : List Cond := [Cond.code yX3_hasHalf cX3_hasHalf 2 (some .boolean), Cond.fieldLink RX3 9 "HalfLadders$Orchard" "people" "I", Cond.methodLink RX9 265 yX7_reckon, Cond.instanceMethod yX7_reckon, Cond.selects RX7 yX7_reckon yX7_reckon, Cond.initialized RX7, Cond.code yX7_reckon cX7_reckon 4 none, Cond.fieldLink RX7 9 "HalfLadders$Sums" "wholes" "[I", Cond.methodLink RX7 15 yX3_everybody, Cond.instanceMethod yX3_everybody, Cond.selects RX3 yX3_everybody yX3_everybody, Cond.code yX3_everybody cX3_everybody 1 (some .int), Cond.methodLink RX7 21 yX7_wholeOf, Cond.instanceMethod yX7_wholeOf, Cond.selects RX7 yX7_wholeOf yX7_wholeOf, Cond.code yX7_wholeOf cX7_wholeOf 7 (some .int), Cond.fieldLink RX7 25 "HalfLadders$Pairs" "count" "I", Cond.fieldLink RX7 31 "HalfLadders$Pairs" "bits" "[I", Cond.fieldLink RX7 34 "HalfLadders$Pairs" "picks" "[I", Cond.methodLink RX7 37 Lib.Math.max.name, Cond.static Lib.Math.max.name, Cond.code Lib.Math.max.name Lib.Math.max.code 2 (some .int), Cond.methodLink RX9 269 yX0_reckon, Cond.instanceMethod yX0_reckon]
def wsX9_startAnew_r4 : List Cond := [Cond.selects RX0 yX0_reckon yX0_reckon, Cond.initialized RX0, Cond.code yX0_reckon cX0_reckon 4 none, Cond.fieldLink RX0 9 "HalfLadders$Cutting" "fewest" "[I", Cond.fieldLink RX0 15 "HalfLadders$Cutting" "forSet" "[I", Cond.methodLink RX0 18 yJ7_fill_53178, Cond.static yJ7_fill_53178, Cond.initialized RJ7, Cond.code yJ7_fill_53178 cJ7_fill_53178 4 none, Cond.methodLink RX0 24 yX3_everybody, Cond.methodLink RX0 30 yX0_fewestOf, Cond.instanceMethod yX0_fewestOf, Cond.selects RX0 yX0_fewestOf yX0_fewestOf, Cond.code yX0_fewestOf cX0_fewestOf 7 (some .int), Cond.fieldLink RX0 47 "HalfLadders$Orchard" "people" "I", Cond.fieldLink RX0 55 "HalfLadders$Orchard" "gaps" "[I", Cond.methodLink RX0 58 Lib.Math.abs.name, Cond.static Lib.Math.abs.name, Cond.code Lib.Math.abs.name Lib.Math.abs.code 1 (some .int), Cond.methodLink RX0 44 yJ6_numberOfTrailingZeros_0f7a4, Cond.static yJ6_numberOfTrailingZeros_0f7a4, Cond.initialized RJ6, Cond.code yJ6_numberOfTrailingZeros_0f7a4 cJ6_numberOfTrailingZeros_0f7a4 2 (some .int), Cond.constant RJ6 264 (65536)]
def wsX9_startAnew_r5 : List Cond := [Cond.methodLink RX0 51 yX3_couldFit, Cond.methodLink RX0 40 yX0_fewer, Cond.static yX0_fewer, Cond.code yX0_fewer cX0_fewer 2 (some .int), Cond.methodLink RX0 63 Lib.Math.min.name, Cond.methodLink RX0 34 yJ6_bitCount_0f7a4, Cond.static yJ6_bitCount_0f7a4, Cond.code yJ6_bitCount_0f7a4 cJ6_bitCount_0f7a4 1 (some .int), Cond.constant RJ6 265 (1431655765), Cond.constant RJ6 266 (858993459), Cond.constant RJ6 267 (252645135), Cond.methodLink RX9 271 yX1_reckon, Cond.instanceMethod yX1_reckon, Cond.selects RX1 yX1_reckon yX1_reckon, Cond.initialized RX1, Cond.code yX1_reckon cX1_reckon 6 none, Cond.fieldLink RX1 11 "HalfLadders$Liking" "likes" "[[I", Cond.fieldLink RX1 36 "HalfLadders$Pairs" "count" "I", Cond.fieldLink RX1 41 "HalfLadders$Pairs" "lefts" "[I", Cond.fieldLink RX1 44 "HalfLadders$Pairs" "rights" "[I", Cond.fieldLink RX1 47 "HalfLadders$Pairs" "ladders" "[I", Cond.fieldLink RX1 50 "HalfLadders$Orchard" "paces" "[I", Cond.fieldLink RX1 20 "HalfLadders$Liking" "with" "[I", Cond.fieldLink RX1 16 "HalfLadders$Liking" "asked" "[I"]
def wsX9_startAnew_r6 : List Cond := [Cond.fieldLink RX1 26 "HalfLadders$Liking" "restCount" "I", Cond.methodLink RX1 30 yJ7_fill_53178, Cond.methodLink RX1 55 yX1_askAll, Cond.instanceMethod yX1_askAll, Cond.selects RX1 yX1_askAll yX1_askAll, Cond.code yX1_askAll cX1_askAll 4 none, Cond.fieldLink RX1 23 "HalfLadders$Liking" "tried" "[I", Cond.fieldLink RX1 63 "HalfLadders$Pairs" "allLefts" "I", Cond.methodLink RX1 66 yX1_askNext, Cond.instanceMethod yX1_askNext, Cond.selects RX1 yX1_askNext yX1_askNext, Cond.code yX1_askNext cX1_askNext 4 none, Cond.methodLink RX1 70 yX1_ratherHas, Cond.instanceMethod yX1_ratherHas, Cond.selects RX1 yX1_ratherHas yX1_ratherHas, Cond.code yX1_ratherHas cX1_ratherHas 4 (some .boolean), Cond.static yX9_restsFrom, Cond.initialized RX9, Cond.code yX9_restsFrom cX9_restsFrom 6 (some .int), Cond.fieldLink RX9 284 "HalfLadders$Pairs" "count" "I", Cond.fieldLink RX9 295 "HalfLadders$Pairs" "lefts" "[I", Cond.fieldLink RX9 298 "HalfLadders$Pairs" "rights" "[I", Cond.fieldLink RX9 301 "HalfLadders$Liking" "with" "[I", Cond.methodLink RX9 287 yX1_isRest]
def wsX9_startAnew_r7 : List Cond := [Cond.instanceMethod yX1_isRest, Cond.selects RX1 yX1_isRest yX1_isRest, Cond.code yX1_isRest cX1_isRest 5 (some .boolean), Cond.methodLink RX9 291 yX9_restsFrom, Cond.methodLink RX9 189 yX2_begin, Cond.instanceMethod yX2_begin, Cond.selects RX2 yX2_begin yX2_begin, Cond.initialized RX2, Cond.code yX2_begin cX2_begin 1 none, Cond.fieldLink RX2 9 "HalfLadders$Now" "day" "I", Cond.fieldLink RX2 15 "HalfLadders$Now" "climbers" "I", Cond.fieldLink RX2 18 "HalfLadders$Now" "climbed" "I", Cond.fieldLink RX2 21 "HalfLadders$Now" "picked" "I", Cond.fieldLink RX2 24 "HalfLadders$Now" "fallen" "I", Cond.methodLink RX9 272 yX2_bearAsTold, Cond.instanceMethod yX2_bearAsTold, Cond.selects RX2 yX2_bearAsTold yX2_bearAsTold, Cond.code yX2_bearAsTold cX2_bearAsTold 3 none, Cond.fieldLink RX2 34 "HalfLadders$Orchard" "trees" "I", Cond.fieldLink RX2 30 "HalfLadders$Now" "left" "[I", Cond.fieldLink RX2 39 "HalfLadders$Orchard" "baskets" "[I"]
def wsX9_startAnew : List Cond := .code yX9_startAnew cX9_startAnew 2 none :: ((wsX9_startAnew_r1 ++ (wsX9_startAnew_r2 ++ (wsX9_startAnew_r3 ++ (wsX9_startAnew_r4 ++ (wsX9_startAnew_r5 ++ (wsX9_startAnew_r6 ++ wsX9_startAnew_r7)))))) ++ wsX90 ++ wsX40 ++ wsX30 ++ wsX70 ++ wsX00 ++ wsX10 ++ wsX20)
def wsX9_init_r1 : List Cond := [Cond.methodLink RX9 3 objectInit, Cond.instanceMethod objectInit, Cond.code objectInit ⟨#[0xb1]⟩ 1 none, Cond.classLink RX9 9 RX8, Cond.instantiable RX8 5, Cond.initialized RX8, Cond.fieldLink RX9 12 "HalfLadders" "text" "LHalfLadders$Text;", Cond.classLink RX9 16 RX6, Cond.instantiable RX6 4, Cond.initialized RX6, Cond.fieldLink RX9 21 "HalfLadders" "reader" "LHalfLadders$Reader;", Cond.classLink RX9 25 RX3, Cond.instantiable RX3 10, Cond.initialized RX3, Cond.fieldLink RX9 28 "HalfLadders" "told" "LHalfLadders$Orchard;", Cond.fieldLink RX9 32 "HalfLadders" "draft" "LHalfLadders$Orchard;", Cond.classLink RX9 35 RX4, Cond.instantiable RX4 8, Cond.initialized RX4, Cond.fieldLink RX9 38 "HalfLadders" "pairs" "LHalfLadders$Pairs;", Cond.classLink RX9 42 RX7, Cond.instantiable RX7 1, Cond.initialized RX7, Cond.fieldLink RX9 45 "HalfLadders" "sums" "LHalfLadders$Sums;"]
def wsX9_init_r2 : List Cond := [Cond.classLink RX9 49 RX0, Cond.instantiable RX0 2, Cond.initialized RX0, Cond.fieldLink RX9 52 "HalfLadders" "cutting" "LHalfLadders$Cutting;", Cond.classLink RX9 56 RX1, Cond.instantiable RX1 5, Cond.initialized RX1, Cond.fieldLink RX9 59 "HalfLadders" "liking" "LHalfLadders$Liking;", Cond.classLink RX9 63 RX5, Cond.instantiable RX5 3, Cond.initialized RX5, Cond.fieldLink RX9 66 "HalfLadders" "plan" "LHalfLadders$Plan;", Cond.classLink RX9 70 RX2, Cond.instantiable RX2 7, Cond.initialized RX2, Cond.fieldLink RX9 73 "HalfLadders" "present" "LHalfLadders$Now;", Cond.fieldLink RX9 77 "HalfLadders" "ahead" "LHalfLadders$Now;", Cond.fieldLink RX9 80 "HalfLadders" "images" "[LHalfLadders$Now;", Cond.arrayClass .boolean, Cond.fieldLink RX9 84 "HalfLadders" "kept" "[Z", Cond.fieldLink RX9 88 "HalfLadders" "traced" "J", Cond.fieldLink RX9 92 "HalfLadders$Now" "theLot" "I", Cond.instanceMethod yX8_init, Cond.code yX8_init cX8_init 1 none]
def wsX9_init_r3 : List Cond := [Cond.methodLink RX8 3 objectInit, Cond.arrayClass .byte, Cond.fieldLink RX8 9 "HalfLadders$Text" "bytes" "[B", Cond.fieldLink RX8 15 "HalfLadders$Text" "length" "I", Cond.arrayClass .int, Cond.fieldLink RX8 19 "HalfLadders$Text" "tokens" "[I", Cond.fieldLink RX8 23 "HalfLadders$Text" "places" "[I", Cond.fieldLink RX8 26 "HalfLadders$Text" "values" "[I", Cond.methodLink RX9 18 yX6_init, Cond.instanceMethod yX6_init, Cond.code yX6_init cX6_init 2 none, Cond.methodLink RX6 3 objectInit, Cond.fieldLink RX6 9 "HalfLadders$Reader" "looked" "I", Cond.fieldLink RX6 15 "HalfLadders$Reader" "token" "I", Cond.fieldLink RX6 18 "HalfLadders$Reader" "value" "I", Cond.fieldLink RX6 21 "HalfLadders$Reader" "text" "LHalfLadders$Text;", Cond.instanceMethod yX3_init, Cond.code yX3_init cX3_init 1 none, Cond.methodLink RX3 3 objectInit, Cond.fieldLink RX3 9 "HalfLadders$Orchard" "people" "I", Cond.fieldLink RX3 15 "HalfLadders$Orchard" "trees" "I", Cond.fieldLink RX3 18 "HalfLadders$Orchard" "sides" "[I", Cond.fieldLink RX3 22 "HalfLadders$Orchard" "gaps" "[I", Cond.fieldLink RX3 25 "HalfLadders$Orchard" "lengths" "[I"]
def wsX9_init_r4 : List Cond := [Cond.fieldLink RX3 28 "HalfLadders$Orchard" "paces" "[I", Cond.fieldLink RX3 31 "HalfLadders$Orchard" "quarrels" "[I", Cond.fieldLink RX3 34 "HalfLadders$Orchard" "highs" "[I", Cond.fieldLink RX3 37 "HalfLadders$Orchard" "ripes" "[I", Cond.fieldLink RX3 40 "HalfLadders$Orchard" "baskets" "[I", Cond.instanceMethod yX4_init, Cond.code yX4_init cX4_init 1 none, Cond.methodLink RX4 3 objectInit, Cond.fieldLink RX4 9 "HalfLadders$Pairs" "count" "I", Cond.fieldLink RX4 15 "HalfLadders$Pairs" "allLefts" "I", Cond.fieldLink RX4 18 "HalfLadders$Pairs" "lefts" "[I", Cond.fieldLink RX4 22 "HalfLadders$Pairs" "rights" "[I", Cond.fieldLink RX4 25 "HalfLadders$Pairs" "bits" "[I", Cond.fieldLink RX4 28 "HalfLadders$Pairs" "gaps" "[I", Cond.fieldLink RX4 31 "HalfLadders$Pairs" "ladders" "[I", Cond.fieldLink RX4 34 "HalfLadders$Pairs" "picks" "[I", Cond.instanceMethod yX7_init, Cond.code yX7_init cX7_init 1 none, Cond.methodLink RX7 3 objectInit, Cond.fieldLink RX7 9 "HalfLadders$Sums" "wholes" "[I", Cond.instanceMethod yX0_init, Cond.code yX0_init cX0_init 1 none, Cond.methodLink RX0 3 objectInit, Cond.fieldLink RX0 9 "HalfLadders$Cutting" "fewest" "[I"]
def wsX9_init_r5 : List Cond := [Cond.fieldLink RX0 15 "HalfLadders$Cutting" "forSet" "[I", Cond.instanceMethod yX1_init, Cond.code yX1_init cX1_init 1 none, Cond.methodLink RX1 3 objectInit, Cond.classLink RX1 9 "[[I", Cond.fieldLink RX1 11 "HalfLadders$Liking" "likes" "[[I", Cond.fieldLink RX1 16 "HalfLadders$Liking" "asked" "[I", Cond.fieldLink RX1 20 "HalfLadders$Liking" "with" "[I", Cond.fieldLink RX1 23 "HalfLadders$Liking" "tried" "[I", Cond.fieldLink RX1 26 "HalfLadders$Liking" "restCount" "I", Cond.instanceMethod yX5_init, Cond.code yX5_init cX5_init 1 none, Cond.methodLink RX5 3 objectInit, Cond.fieldLink RX5 9 "HalfLadders$Plan" "chosen" "[I", Cond.classLink RX5 15 "[[I", Cond.fieldLink RX5 17 "HalfLadders$Plan" "gains" "[[I", Cond.fieldLink RX5 20 "HalfLadders$Plan" "most" "[[I", Cond.instanceMethod yX2_init, Cond.code yX2_init cX2_init 1 none, Cond.methodLink RX2 3 objectInit, Cond.fieldLink RX2 9 "HalfLadders$Now" "day" "I", Cond.fieldLink RX2 15 "HalfLadders$Now" "climbers" "I", Cond.fieldLink RX2 18 "HalfLadders$Now" "climbed" "I", Cond.fieldLink RX2 21 "HalfLadders$Now" "picked" "I"]
def wsX9_init_r6 : List Cond := [Cond.fieldLink RX2 24 "HalfLadders$Now" "fallen" "I", Cond.fieldLink RX2 27 "HalfLadders$Now" "theLot" "I", Cond.fieldLink RX2 30 "HalfLadders$Now" "left" "[I", Cond.methodLink RX9 96 yX9_startAnew, Cond.instanceMethod yX9_startAnew, Cond.selects RX9 yX9_startAnew yX9_startAnew, Cond.initialized RX9, Cond.code yX9_startAnew cX9_startAnew 2 none, Cond.methodLink RX9 262 yX4_list, Cond.instanceMethod yX4_list, Cond.selects RX4 yX4_list yX4_list, Cond.code yX4_list cX4_list 3 none, Cond.fieldLink RX4 37 "HalfLadders$Orchard" "people" "I", Cond.fieldLink RX4 42 "HalfLadders$Orchard" "sides" "[I", Cond.methodLink RX4 45 yX4_listOf, Cond.instanceMethod yX4_listOf, Cond.selects RX4 yX4_listOf yX4_listOf, Cond.code yX4_listOf cX4_listOf 4 none, Cond.fieldLink RX4 53 "HalfLadders$Orchard" "gaps" "[I", Cond.fieldLink RX4 54 "HalfLadders$Orchard" "lengths" "[I", Cond.methodLink RX4 57 Lib.Math.min.name, Cond.static Lib.Math.min.name, Cond.initialized "java/lang/Math", Cond.code Lib.Math.min.name Lib.Math.min.code 2 (some .int)]
def wsX9_init_r7 : List Cond := [Cond.fieldLink RX4 63 "HalfLadders$Orchard" "paces" "[I", Cond.methodLink RX4 49 yX3_fits, Cond.instanceMethod yX3_fits, Cond.selects RX3 yX3_fits yX3_fits, Cond.code yX3_fits cX3_fits 3 (some .boolean), Cond.methodLink RX3 47 yX3_couldFit, Cond.instanceMethod yX3_couldFit, Cond.selects RX3 yX3_couldFit yX3_couldFit, Cond.code yX3_couldFit cX3_couldFit 3 (some .boolean), Cond.methodLink RX3 43 yX3_hasHalf, Cond.instanceMethod yX3_hasHalf, Cond.selects RX3 yX3_hasHalf yX3_hasHalf, Cond.code yX3_hasHalf cX3_hasHalf 2 (some .boolean), Cond.methodLink RX9 265 yX7_reckon, Cond.instanceMethod yX7_reckon, Cond.selects RX7 yX7_reckon yX7_reckon, Cond.code yX7_reckon cX7_reckon 4 none, Cond.methodLink RX7 15 yX3_everybody, Cond.instanceMethod yX3_everybody, Cond.selects RX3 yX3_everybody yX3_everybody, Cond.code yX3_everybody cX3_everybody 1 (some .int), Cond.methodLink RX7 21 yX7_wholeOf, Cond.instanceMethod yX7_wholeOf, Cond.selects RX7 yX7_wholeOf yX7_wholeOf]
def wsX9_init_r8 : List Cond := [Cond.code yX7_wholeOf cX7_wholeOf 7 (some .int), Cond.fieldLink RX7 25 "HalfLadders$Pairs" "count" "I", Cond.fieldLink RX7 31 "HalfLadders$Pairs" "bits" "[I", Cond.fieldLink RX7 34 "HalfLadders$Pairs" "picks" "[I", Cond.methodLink RX7 37 Lib.Math.max.name, Cond.static Lib.Math.max.name, Cond.code Lib.Math.max.name Lib.Math.max.code 2 (some .int), Cond.methodLink RX9 269 yX0_reckon, Cond.instanceMethod yX0_reckon, Cond.selects RX0 yX0_reckon yX0_reckon, Cond.code yX0_reckon cX0_reckon 4 none, Cond.methodLink RX0 18 yJ7_fill_53178, Cond.static yJ7_fill_53178, Cond.initialized RJ7, Cond.code yJ7_fill_53178 cJ7_fill_53178 4 none, Cond.methodLink RX0 24 yX3_everybody, Cond.methodLink RX0 30 yX0_fewestOf, Cond.instanceMethod yX0_fewestOf, Cond.selects RX0 yX0_fewestOf yX0_fewestOf, Cond.code yX0_fewestOf cX0_fewestOf 7 (some .int), Cond.fieldLink RX0 47 "HalfLadders$Orchard" "people" "I", Cond.fieldLink RX0 55 "HalfLadders$Orchard" "gaps" "[I", Cond.methodLink RX0 58 Lib.Math.abs.name, Cond.static Lib.Math.abs.name]
def wsX9_init_r9 : List Cond := [Cond.code Lib.Math.abs.name Lib.Math.abs.code 1 (some .int), Cond.methodLink RX0 44 yJ6_numberOfTrailingZeros_0f7a4, Cond.static yJ6_numberOfTrailingZeros_0f7a4, Cond.initialized RJ6, Cond.code yJ6_numberOfTrailingZeros_0f7a4 cJ6_numberOfTrailingZeros_0f7a4 2 (some .int), Cond.constant RJ6 264 (65536), Cond.methodLink RX0 51 yX3_couldFit, Cond.methodLink RX0 40 yX0_fewer, Cond.static yX0_fewer, Cond.code yX0_fewer cX0_fewer 2 (some .int), Cond.methodLink RX0 63 Lib.Math.min.name, Cond.methodLink RX0 34 yJ6_bitCount_0f7a4, Cond.static yJ6_bitCount_0f7a4, Cond.code yJ6_bitCount_0f7a4 cJ6_bitCount_0f7a4 1 (some .int), Cond.constant RJ6 265 (1431655765), Cond.constant RJ6 266 (858993459), Cond.constant RJ6 267 (252645135), Cond.methodLink RX9 271 yX1_reckon, Cond.instanceMethod yX1_reckon, Cond.selects RX1 yX1_reckon yX1_reckon, Cond.code yX1_reckon cX1_reckon 6 none, Cond.fieldLink RX1 36 "HalfLadders$Pairs" "count" "I", Cond.fieldLink RX1 41 "HalfLadders$Pairs" "lefts" "[I", Cond.fieldLink RX1 44 "HalfLadders$Pairs" "rights" "[I"]
def wsX9_init_r10 : List Cond := [Cond.fieldLink RX1 47 "HalfLadders$Pairs" "ladders" "[I", Cond.fieldLink RX1 50 "HalfLadders$Orchard" "paces" "[I", Cond.methodLink RX1 30 yJ7_fill_53178, Cond.methodLink RX1 55 yX1_askAll, Cond.instanceMethod yX1_askAll, Cond.selects RX1 yX1_askAll yX1_askAll, Cond.code yX1_askAll cX1_askAll 4 none, Cond.fieldLink RX1 63 "HalfLadders$Pairs" "allLefts" "I", Cond.methodLink RX1 66 yX1_askNext, Cond.instanceMethod yX1_askNext, Cond.selects RX1 yX1_askNext yX1_askNext, Cond.code yX1_askNext cX1_askNext 4 none, Cond.methodLink RX1 70 yX1_ratherHas, Cond.instanceMethod yX1_ratherHas, Cond.selects RX1 yX1_ratherHas yX1_ratherHas, Cond.code yX1_ratherHas cX1_ratherHas 4 (some .boolean), Cond.static yX9_restsFrom, Cond.code yX9_restsFrom cX9_restsFrom 6 (some .int), Cond.fieldLink RX9 284 "HalfLadders$Pairs" "count" "I", Cond.fieldLink RX9 295 "HalfLadders$Pairs" "lefts" "[I", Cond.fieldLink RX9 298 "HalfLadders$Pairs" "rights" "[I", Cond.fieldLink RX9 301 "HalfLadders$Liking" "with" "[I", Cond.methodLink RX9 287 yX1_isRest, Cond.instanceMethod yX1_isRest]
def wsX9_init_r11 : List Cond := [Cond.selects RX1 yX1_isRest yX1_isRest, Cond.code yX1_isRest cX1_isRest 5 (some .boolean), Cond.methodLink RX9 291 yX9_restsFrom, Cond.methodLink RX9 189 yX2_begin, Cond.instanceMethod yX2_begin, Cond.selects RX2 yX2_begin yX2_begin, Cond.code yX2_begin cX2_begin 1 none, Cond.methodLink RX9 272 yX2_bearAsTold, Cond.instanceMethod yX2_bearAsTold, Cond.selects RX2 yX2_bearAsTold yX2_bearAsTold, Cond.code yX2_bearAsTold cX2_bearAsTold 3 none, Cond.fieldLink RX2 34 "HalfLadders$Orchard" "trees" "I", Cond.fieldLink RX2 39 "HalfLadders$Orchard" "baskets" "[I"]
def wsX9_init : List Cond := .code yX9_init cX9_init 2 none :: ((wsX9_init_r1 ++ (wsX9_init_r2 ++ (wsX9_init_r3 ++ (wsX9_init_r4 ++ (wsX9_init_r5 ++ (wsX9_init_r6 ++ (wsX9_init_r7 ++ (wsX9_init_r8 ++ (wsX9_init_r9 ++ (wsX9_init_r10 ++ wsX9_init_r11)))))))))) ++ wsX80 ++ wsX90 ++ wsX60 ++ wsX30 ++ wsX40 ++ wsX70 ++ wsX00 ++ wsX10 ++ wsX50 ++ wsX20)
def wsX9_type : List Cond := .code yX9_type cX9_type 5 (some .int) :: ([.fieldLink RX9 12 "HalfLadders" "text" "LHalfLadders$Text;", .fieldLink RX9 107 "HalfLadders$Text" "length" "I", .methodLink RX9 99 yX8_room, .instanceMethod yX8_room, .selects RX8 yX8_room yX8_room, .initialized RX8, .code yX8_room cX8_room 1 (some .int), .fieldLink RX8 15 "HalfLadders$Text" "length" "I", .methodLink RX9 103 yX8_add, .instanceMethod yX8_add, .selects RX8 yX8_add yX8_add, .code yX8_add cX8_add 2 none, .fieldLink RX8 9 "HalfLadders$Text" "bytes" "[B"] ++ wsX90 ++ wsX80)
def wsX9_clear : List Cond := .code yX9_clear cX9_clear 2 (some .int) :: ([.fieldLink RX9 12 "HalfLadders" "text" "LHalfLadders$Text;", .fieldLink RX9 107 "HalfLadders$Text" "length" "I"] ++ wsX90 ++ wsX80)
def wsX9_orchard_r1 : List Cond := [Cond.fieldLink RX9 21 "HalfLadders" "reader" "LHalfLadders$Reader;", Cond.fieldLink RX9 32 "HalfLadders" "draft" "LHalfLadders$Orchard;", Cond.fieldLink RX9 28 "HalfLadders" "told" "LHalfLadders$Orchard;", Cond.fieldLink RX9 12 "HalfLadders" "text" "LHalfLadders$Text;", Cond.fieldLink RX9 107 "HalfLadders$Text" "length" "I", Cond.methodLink RX9 110 yX6_readAll, Cond.instanceMethod yX6_readAll, Cond.selects RX6 yX6_readAll yX6_readAll, Cond.initialized RX6, Cond.code yX6_readAll cX6_readAll 3 (some .int), Cond.fieldLink RX6 21 "HalfLadders$Reader" "text" "LHalfLadders$Text;", Cond.fieldLink RX6 9 "HalfLadders$Reader" "looked" "I", Cond.fieldLink RX6 15 "HalfLadders$Reader" "token" "I", Cond.fieldLink RX6 42 "HalfLadders$Text" "places" "[I", Cond.methodLink RX6 25 yX8_cutIntoTokens, Cond.instanceMethod yX8_cutIntoTokens, Cond.selects RX8 yX8_cutIntoTokens yX8_cutIntoTokens, Cond.initialized RX8, Cond.code yX8_cutIntoTokens cX8_cutIntoTokens 4 none, Cond.fieldLink RX8 15 "HalfLadders$Text" "length" "I", Cond.fieldLink RX8 23 "HalfLadders$Text" "places" "[I", Cond.fieldLink RX8 19 "HalfLadders$Text" "tokens" "[I", Cond.fieldLink RX8 26 "HalfLadders$Text" "values" "[I", Cond.methodLink RX8 43 Lib.Math.max.name]
def wsX9_orchard_r2 : List Cond := [Cond.static Lib.Math.max.name, Cond.initialized "java/lang/Math", Cond.code Lib.Math.max.name Lib.Math.max.code 2 (some .int), Cond.methodLink RX8 29 yX8_at, Cond.instanceMethod yX8_at, Cond.selects RX8 yX8_at yX8_at, Cond.code yX8_at cX8_at 2 (some .int), Cond.fieldLink RX8 9 "HalfLadders$Text" "bytes" "[B", Cond.methodLink RX8 33 yX8_endOfToken, Cond.instanceMethod yX8_endOfToken, Cond.selects RX8 yX8_endOfToken yX8_endOfToken, Cond.code yX8_endOfToken cX8_endOfToken 3 (some .int), Cond.methodLink RX8 48 yX8_isLetter, Cond.static yX8_isLetter, Cond.code yX8_isLetter cX8_isLetter 1 (some .boolean), Cond.methodLink RX8 52 yX8_isDigit, Cond.static yX8_isDigit, Cond.code yX8_isDigit cX8_isDigit 1 (some .boolean), Cond.methodLink RX8 36 yX8_tokenOf, Cond.instanceMethod yX8_tokenOf, Cond.selects RX8 yX8_tokenOf yX8_tokenOf, Cond.code yX8_tokenOf cX8_tokenOf 5 (some .int), Cond.methodLink RX8 57 yX8_spells, Cond.instanceMethod yX8_spells]
def wsX9_orchard_r3 : List Cond := [Cond.selects RX8 yX8_spells yX8_spells, Cond.code yX8_spells cX8_spells 5 (some .boolean), Cond.methodLink RX8 67 yJ0_length_8abf5, Cond.instanceMethod yJ0_length_8abf5, Cond.selects RJ0 yJ0_length_8abf5 yJ0_length_8abf5, Cond.initialized RJ0, Cond.code yJ0_length_8abf5 cJ0_length_8abf5 1 (some .int), Cond.fieldLink RJ0 9 "java/lang/String" "value" "[B", Cond.methodLink RJ0 335 yJ0_coder_7d493, Cond.instanceMethod yJ0_coder_7d493, Cond.selects RJ0 yJ0_coder_7d493 yJ0_coder_7d493, Cond.code yJ0_coder_7d493 cJ0_coder_7d493 1 (some .byte), Cond.fieldLink RJ0 38 "java/lang/String" "COMPACT_STRINGS" "Z", Cond.fieldLink RJ0 15 "java/lang/String" "coder" "B", Cond.methodLink RX8 72 yJ0_charAt_5068e, Cond.instanceMethod yJ0_charAt_5068e, Cond.selects RJ0 yJ0_charAt_5068e yJ0_charAt_5068e, Cond.code yJ0_charAt_5068e cJ0_charAt_5068e 2 (some .char), Cond.methodLink RJ0 492 yJ0_isLatin1_aae02, Cond.instanceMethod yJ0_isLatin1_aae02, Cond.selects RJ0 yJ0_isLatin1_aae02 yJ0_isLatin1_aae02, Cond.code yJ0_isLatin1_aae02 cJ0_isLatin1_aae02 1 (some .boolean), Cond.methodLink RJ0 495 yJ1_charAt_3b067, Cond.static yJ1_charAt_3b067]
def wsX9_orchard_r4 : List Cond := [Cond.initialized RJ1, Cond.code yJ1_charAt_3b067 cJ1_charAt_3b067 2 (some .char), Cond.methodLink RJ1 9 yJ0_checkIndex_df160, Cond.static yJ0_checkIndex_df160, Cond.code yJ0_checkIndex_df160 cJ0_checkIndex_df160 2 none, Cond.fieldLink RJ0 1053 "jdk/internal/util/Preconditions" "SIOOBE_FORMATTER" "Ljava/util/function/BiFunction;", Cond.methodLink RJ0 1059 yJ3_checkIndex_8e157, Cond.static yJ3_checkIndex_8e157, Cond.initialized RJ3, Cond.code yJ3_checkIndex_8e157 cJ3_checkIndex_8e157 3 (some .int), Cond.methodLink RJ0 498 yJ2_charAt_3b067, Cond.static yJ2_charAt_3b067, Cond.initialized RJ2, Cond.code yJ2_charAt_3b067 cJ2_charAt_3b067 2 (some .char), Cond.methodLink RJ2 67 yJ2_checkIndex_2214a, Cond.static yJ2_checkIndex_2214a, Cond.code yJ2_checkIndex_2214a cJ2_checkIndex_2214a 2 none, Cond.methodLink RJ2 48 yJ2_length_9d52b, Cond.static yJ2_length_9d52b, Cond.code yJ2_length_9d52b cJ2_length_9d52b 1 (some .int), Cond.methodLink RJ2 414 yJ0_checkIndex_df160, Cond.methodLink RJ2 71 yJ2_getChar_3b067, Cond.static yJ2_getChar_3b067, Cond.code yJ2_getChar_3b067 cJ2_getChar_3b067 2 (some .char)]
def wsX9_orchard_r5 : List Cond := [Cond.fieldLink RJ2 44 "java/lang/StringUTF16" "$assertionsDisabled" "Z", Cond.fieldLink RJ2 59 "java/lang/StringUTF16" "HI_BYTE_SHIFT" "I", Cond.fieldLink RJ2 63 "java/lang/StringUTF16" "LO_BYTE_SHIFT" "I", Cond.methodLink RX8 40 yX8_numberAt, Cond.instanceMethod yX8_numberAt, Cond.selects RX8 yX8_numberAt yX8_numberAt, Cond.code yX8_numberAt cX8_numberAt 5 (some .int), Cond.methodLink RX6 30 yX3_empty, Cond.instanceMethod yX3_empty, Cond.selects RX3 yX3_empty yX3_empty, Cond.initialized RX3, Cond.code yX3_empty cX3_empty 1 none, Cond.fieldLink RX3 9 "HalfLadders$Orchard" "people" "I", Cond.fieldLink RX3 15 "HalfLadders$Orchard" "trees" "I", Cond.methodLink RX6 35 yX6_look, Cond.instanceMethod yX6_look, Cond.selects RX6 yX6_look yX6_look, Cond.code yX6_look cX6_look 1 none, Cond.methodLink RX6 46 Lib.Math.min.name, Cond.static Lib.Math.min.name, Cond.code Lib.Math.min.name Lib.Math.min.code 2 (some .int), Cond.fieldLink RX6 52 "HalfLadders$Text" "tokens" "[I", Cond.fieldLink RX6 55 "HalfLadders$Text" "values" "[I", Cond.fieldLink RX6 18 "HalfLadders$Reader" "value" "I"]
def wsX9_orchard_r6 : List Cond := [Cond.methodLink RX6 38 yX6_readItem, Cond.instanceMethod yX6_readItem, Cond.selects RX6 yX6_readItem yX6_readItem, Cond.code yX6_readItem cX6_readItem 2 (some .boolean), Cond.methodLink RX6 58 yX6_readHalf, Cond.instanceMethod yX6_readHalf, Cond.selects RX6 yX6_readHalf yX6_readHalf, Cond.code yX6_readHalf cX6_readHalf 6 (some .boolean), Cond.fieldLink RX6 68 "HalfLadders$Orchard" "people" "I", Cond.methodLink RX6 71 yX6_readNumber, Cond.instanceMethod yX6_readNumber, Cond.selects RX6 yX6_readNumber yX6_readNumber, Cond.code yX6_readNumber cX6_readNumber 3 (some .boolean), Cond.methodLink RX6 94 yX6_advance, Cond.instanceMethod yX6_advance, Cond.selects RX6 yX6_advance yX6_advance, Cond.code yX6_advance cX6_advance 1 none, Cond.methodLink RX6 75 yX6_readSemicolon, Cond.instanceMethod yX6_readSemicolon, Cond.selects RX6 yX6_readSemicolon yX6_readSemicolon, Cond.code yX6_readSemicolon cX6_readSemicolon 1 (some .boolean), Cond.methodLink RX6 79 yX3_addHalf, Cond.instanceMethod yX3_addHalf, Cond.selects RX3 yX3_addHalf yX3_addHalf]
def wsX9_orchard_r7 : List Cond := [Cond.code yX3_addHalf cX3_addHalf 5 none, Cond.fieldLink RX3 18 "HalfLadders$Orchard" "sides" "[I", Cond.fieldLink RX3 22 "HalfLadders$Orchard" "gaps" "[I", Cond.fieldLink RX3 25 "HalfLadders$Orchard" "lengths" "[I", Cond.fieldLink RX3 28 "HalfLadders$Orchard" "paces" "[I", Cond.fieldLink RX3 31 "HalfLadders$Orchard" "quarrels" "[I", Cond.methodLink RX6 62 yX6_readQuarrel, Cond.instanceMethod yX6_readQuarrel, Cond.selects RX6 yX6_readQuarrel yX6_readQuarrel, Cond.code yX6_readQuarrel cX6_readQuarrel 4 (some .boolean), Cond.methodLink RX6 83 yX3_addQuarrel, Cond.instanceMethod yX3_addQuarrel, Cond.selects RX3 yX3_addQuarrel yX3_addQuarrel, Cond.code yX3_addQuarrel cX3_addQuarrel 3 none, Cond.methodLink RX3 43 yX3_hasHalf, Cond.instanceMethod yX3_hasHalf, Cond.selects RX3 yX3_hasHalf yX3_hasHalf, Cond.code yX3_hasHalf cX3_hasHalf 2 (some .boolean), Cond.methodLink RX6 65 yX6_readTree, Cond.instanceMethod yX6_readTree, Cond.selects RX6 yX6_readTree yX6_readTree, Cond.code yX6_readTree cX6_readTree 5 (some .boolean), Cond.fieldLink RX6 87 "HalfLadders$Orchard" "trees" "I", Cond.methodLink RX6 90 yX3_addTree]
def wsX9_orchard_r8 : List Cond := [Cond.instanceMethod yX3_addTree, Cond.selects RX3 yX3_addTree yX3_addTree, Cond.code yX3_addTree cX3_addTree 4 none, Cond.fieldLink RX3 34 "HalfLadders$Orchard" "highs" "[I", Cond.fieldLink RX3 37 "HalfLadders$Orchard" "ripes" "[I", Cond.fieldLink RX3 40 "HalfLadders$Orchard" "baskets" "[I", Cond.methodLink RX9 96 yX9_startAnew, Cond.instanceMethod yX9_startAnew, Cond.selects RX9 yX9_startAnew yX9_startAnew, Cond.initialized RX9, Cond.code yX9_startAnew cX9_startAnew 2 none, Cond.fieldLink RX9 38 "HalfLadders" "pairs" "LHalfLadders$Pairs;", Cond.fieldLink RX9 45 "HalfLadders" "sums" "LHalfLadders$Sums;", Cond.fieldLink RX9 52 "HalfLadders" "cutting" "LHalfLadders$Cutting;", Cond.fieldLink RX9 59 "HalfLadders" "liking" "LHalfLadders$Liking;", Cond.fieldLink RX9 73 "HalfLadders" "present" "LHalfLadders$Now;", Cond.fieldLink RX9 84 "HalfLadders" "kept" "[Z", Cond.methodLink RX9 262 yX4_list, Cond.instanceMethod yX4_list, Cond.selects RX4 yX4_list yX4_list, Cond.initialized RX4, Cond.code yX4_list cX4_list 3 none, Cond.fieldLink RX4 9 "HalfLadders$Pairs" "count" "I", Cond.fieldLink RX4 15 "HalfLadders$Pairs" "allLefts" "I"]
def wsX9_orchard_r9 : List Cond := [Cond.fieldLink RX4 37 "HalfLadders$Orchard" "people" "I", Cond.fieldLink RX4 42 "HalfLadders$Orchard" "sides" "[I", Cond.methodLink RX4 45 yX4_listOf, Cond.instanceMethod yX4_listOf, Cond.selects RX4 yX4_listOf yX4_listOf, Cond.code yX4_listOf cX4_listOf 4 none, Cond.fieldLink RX4 18 "HalfLadders$Pairs" "lefts" "[I", Cond.fieldLink RX4 22 "HalfLadders$Pairs" "rights" "[I", Cond.fieldLink RX4 25 "HalfLadders$Pairs" "bits" "[I", Cond.fieldLink RX4 28 "HalfLadders$Pairs" "gaps" "[I", Cond.fieldLink RX4 53 "HalfLadders$Orchard" "gaps" "[I", Cond.fieldLink RX4 31 "HalfLadders$Pairs" "ladders" "[I", Cond.fieldLink RX4 54 "HalfLadders$Orchard" "lengths" "[I", Cond.methodLink RX4 57 Lib.Math.min.name, Cond.fieldLink RX4 34 "HalfLadders$Pairs" "picks" "[I", Cond.fieldLink RX4 63 "HalfLadders$Orchard" "paces" "[I", Cond.methodLink RX4 49 yX3_fits, Cond.instanceMethod yX3_fits, Cond.selects RX3 yX3_fits yX3_fits, Cond.code yX3_fits cX3_fits 3 (some .boolean), Cond.methodLink RX3 47 yX3_couldFit, Cond.instanceMethod yX3_couldFit, Cond.selects RX3 yX3_couldFit yX3_couldFit, Cond.code yX3_couldFit cX3_couldFit 3 (some .boolean)]
def wsX9_orchard_r10 : List Cond := [Cond.methodLink RX9 265 yX7_reckon, Cond.instanceMethod yX7_reckon, Cond.selects RX7 yX7_reckon yX7_reckon, Cond.initialized RX7, Cond.code yX7_reckon cX7_reckon 4 none, Cond.fieldLink RX7 9 "HalfLadders$Sums" "wholes" "[I", Cond.methodLink RX7 15 yX3_everybody, Cond.instanceMethod yX3_everybody, Cond.selects RX3 yX3_everybody yX3_everybody, Cond.code yX3_everybody cX3_everybody 1 (some .int), Cond.methodLink RX7 21 yX7_wholeOf, Cond.instanceMethod yX7_wholeOf, Cond.selects RX7 yX7_wholeOf yX7_wholeOf, Cond.code yX7_wholeOf cX7_wholeOf 7 (some .int), Cond.fieldLink RX7 25 "HalfLadders$Pairs" "count" "I", Cond.fieldLink RX7 31 "HalfLadders$Pairs" "bits" "[I", Cond.fieldLink RX7 34 "HalfLadders$Pairs" "picks" "[I", Cond.methodLink RX7 37 Lib.Math.max.name, Cond.methodLink RX9 269 yX0_reckon, Cond.instanceMethod yX0_reckon, Cond.selects RX0 yX0_reckon yX0_reckon, Cond.initialized RX0, Cond.code yX0_reckon cX0_reckon 4 none, Cond.fieldLink RX0 9 "HalfLadders$Cutting" "fewest" "[I"]
def wsX9_orchard_r11 : List Cond := [Cond.fieldLink RX0 15 "HalfLadders$Cutting" "forSet" "[I", Cond.methodLink RX0 18 yJ7_fill_53178, Cond.static yJ7_fill_53178, Cond.initialized RJ7, Cond.code yJ7_fill_53178 cJ7_fill_53178 4 none, Cond.methodLink RX0 24 yX3_everybody, Cond.methodLink RX0 30 yX0_fewestOf, Cond.instanceMethod yX0_fewestOf, Cond.selects RX0 yX0_fewestOf yX0_fewestOf, Cond.code yX0_fewestOf cX0_fewestOf 7 (some .int), Cond.fieldLink RX0 47 "HalfLadders$Orchard" "people" "I", Cond.fieldLink RX0 55 "HalfLadders$Orchard" "gaps" "[I", Cond.methodLink RX0 58 Lib.Math.abs.name, Cond.static Lib.Math.abs.name, Cond.code Lib.Math.abs.name Lib.Math.abs.code 1 (some .int), Cond.methodLink RX0 44 yJ6_numberOfTrailingZeros_0f7a4, Cond.static yJ6_numberOfTrailingZeros_0f7a4, Cond.initialized RJ6, Cond.code yJ6_numberOfTrailingZeros_0f7a4 cJ6_numberOfTrailingZeros_0f7a4 2 (some .int), Cond.constant RJ6 264 (65536), Cond.methodLink RX0 51 yX3_couldFit, Cond.methodLink RX0 40 yX0_fewer, Cond.static yX0_fewer, Cond.code yX0_fewer cX0_fewer 2 (some .int)]
def wsX9_orchard_r12 : List Cond := [Cond.methodLink RX0 63 Lib.Math.min.name, Cond.methodLink RX0 34 yJ6_bitCount_0f7a4, Cond.static yJ6_bitCount_0f7a4, Cond.code yJ6_bitCount_0f7a4 cJ6_bitCount_0f7a4 1 (some .int), Cond.constant RJ6 265 (1431655765), Cond.constant RJ6 266 (858993459), Cond.constant RJ6 267 (252645135), Cond.methodLink RX9 271 yX1_reckon, Cond.instanceMethod yX1_reckon, Cond.selects RX1 yX1_reckon yX1_reckon, Cond.initialized RX1, Cond.code yX1_reckon cX1_reckon 6 none, Cond.fieldLink RX1 11 "HalfLadders$Liking" "likes" "[[I", Cond.fieldLink RX1 36 "HalfLadders$Pairs" "count" "I", Cond.fieldLink RX1 41 "HalfLadders$Pairs" "lefts" "[I", Cond.fieldLink RX1 44 "HalfLadders$Pairs" "rights" "[I", Cond.fieldLink RX1 47 "HalfLadders$Pairs" "ladders" "[I", Cond.fieldLink RX1 50 "HalfLadders$Orchard" "paces" "[I", Cond.fieldLink RX1 20 "HalfLadders$Liking" "with" "[I", Cond.fieldLink RX1 16 "HalfLadders$Liking" "asked" "[I", Cond.fieldLink RX1 26 "HalfLadders$Liking" "restCount" "I", Cond.methodLink RX1 30 yJ7_fill_53178, Cond.methodLink RX1 55 yX1_askAll, Cond.instanceMethod yX1_askAll]
def wsX9_orchard_r13 : List Cond := [Cond.selects RX1 yX1_askAll yX1_askAll, Cond.code yX1_askAll cX1_askAll 4 none, Cond.fieldLink RX1 23 "HalfLadders$Liking" "tried" "[I", Cond.fieldLink RX1 63 "HalfLadders$Pairs" "allLefts" "I", Cond.methodLink RX1 66 yX1_askNext, Cond.instanceMethod yX1_askNext, Cond.selects RX1 yX1_askNext yX1_askNext, Cond.code yX1_askNext cX1_askNext 4 none, Cond.methodLink RX1 70 yX1_ratherHas, Cond.instanceMethod yX1_ratherHas, Cond.selects RX1 yX1_ratherHas yX1_ratherHas, Cond.code yX1_ratherHas cX1_ratherHas 4 (some .boolean), Cond.static yX9_restsFrom, Cond.code yX9_restsFrom cX9_restsFrom 6 (some .int), Cond.fieldLink RX9 284 "HalfLadders$Pairs" "count" "I", Cond.fieldLink RX9 295 "HalfLadders$Pairs" "lefts" "[I", Cond.fieldLink RX9 298 "HalfLadders$Pairs" "rights" "[I", Cond.fieldLink RX9 301 "HalfLadders$Liking" "with" "[I", Cond.methodLink RX9 287 yX1_isRest, Cond.instanceMethod yX1_isRest, Cond.selects RX1 yX1_isRest yX1_isRest, Cond.code yX1_isRest cX1_isRest 5 (some .boolean), Cond.methodLink RX9 291 yX9_restsFrom, Cond.methodLink RX9 189 yX2_begin]
def wsX9_orchard_r14 : List Cond := [Cond.instanceMethod yX2_begin, Cond.selects RX2 yX2_begin yX2_begin, Cond.initialized RX2, Cond.code yX2_begin cX2_begin 1 none, Cond.fieldLink RX2 9 "HalfLadders$Now" "day" "I", Cond.fieldLink RX2 15 "HalfLadders$Now" "climbers" "I", Cond.fieldLink RX2 18 "HalfLadders$Now" "climbed" "I", Cond.fieldLink RX2 21 "HalfLadders$Now" "picked" "I", Cond.fieldLink RX2 24 "HalfLadders$Now" "fallen" "I", Cond.methodLink RX9 272 yX2_bearAsTold, Cond.instanceMethod yX2_bearAsTold, Cond.selects RX2 yX2_bearAsTold yX2_bearAsTold, Cond.code yX2_bearAsTold cX2_bearAsTold 3 none, Cond.fieldLink RX2 34 "HalfLadders$Orchard" "trees" "I", Cond.fieldLink RX2 30 "HalfLadders$Now" "left" "[I", Cond.fieldLink RX2 39 "HalfLadders$Orchard" "baskets" "[I"]
def wsX9_orchard : List Cond := .code yX9_orchard cX9_orchard 3 (some .int) :: ((wsX9_orchard_r1 ++ (wsX9_orchard_r2 ++ (wsX9_orchard_r3 ++ (wsX9_orchard_r4 ++ (wsX9_orchard_r5 ++ (wsX9_orchard_r6 ++ (wsX9_orchard_r7 ++ (wsX9_orchard_r8 ++ (wsX9_orchard_r9 ++ (wsX9_orchard_r10 ++ (wsX9_orchard_r11 ++ (wsX9_orchard_r12 ++ (wsX9_orchard_r13 ++ wsX9_orchard_r14))))))))))))) ++ wsX90 ++ wsX80 ++ wsX60 ++ wsX30 ++ wsX40 ++ wsX70 ++ wsX00 ++ wsX10 ++ wsX20)
def wsX9_half : List Cond := .code yX9_half cX9_half 3 (some .int) :: ([.fieldLink RX9 28 "HalfLadders" "told" "LHalfLadders$Orchard;", .fieldLink RX9 118 "HalfLadders$Orchard" "sides" "[I", .fieldLink RX9 122 "HalfLadders$Orchard" "gaps" "[I", .fieldLink RX9 125 "HalfLadders$Orchard" "lengths" "[I", .fieldLink RX9 128 "HalfLadders$Orchard" "paces" "[I", .fieldLink RX9 73 "HalfLadders" "present" "LHalfLadders$Now;", .fieldLink RX9 131 "HalfLadders$Now" "climbers" "I", .methodLink RX9 114 yX3_hasHalf, .instanceMethod yX3_hasHalf, .selects RX3 yX3_hasHalf yX3_hasHalf, .initialized RX3, .code yX3_hasHalf cX3_hasHalf 2 (some .boolean), .fieldLink RX3 9 "HalfLadders$Orchard" "people" "I"] ++ wsX90 ++ wsX30 ++ wsX20)
def wsX9_tree : List Cond := .code yX9_tree cX9_tree 3 (some .int) :: ([.fieldLink RX9 28 "HalfLadders" "told" "LHalfLadders$Orchard;", .fieldLink RX9 137 "HalfLadders$Orchard" "highs" "[I", .fieldLink RX9 140 "HalfLadders$Orchard" "ripes" "[I", .fieldLink RX9 143 "HalfLadders$Orchard" "baskets" "[I", .fieldLink RX9 73 "HalfLadders" "present" "LHalfLadders$Now;", .fieldLink RX9 146 "HalfLadders$Now" "left" "[I", .fieldLink RX9 149 "HalfLadders$Now" "climbed" "I", .methodLink RX9 134 yX3_hasTree, .instanceMethod yX3_hasTree, .selects RX3 yX3_hasTree yX3_hasTree, .initialized RX3, .code yX3_hasTree cX3_hasTree 2 (some .boolean), .fieldLink RX3 15 "HalfLadders$Orchard" "trees" "I"] ++ wsX90 ++ wsX30 ++ wsX20)
def wsX9_areTwo : List Cond := .code yX9_areTwo cX9_areTwo 3 (some .boolean) :: ([.fieldLink RX9 28 "HalfLadders" "told" "LHalfLadders$Orchard;", .methodLink RX9 114 yX3_hasHalf, .instanceMethod yX3_hasHalf, .selects RX3 yX3_hasHalf yX3_hasHalf, .initialized RX3, .code yX3_hasHalf cX3_hasHalf 2 (some .boolean), .fieldLink RX3 9 "HalfLadders$Orchard" "people" "I"] ++ wsX90 ++ wsX30)
def wsX9_fit : List Cond := .code yX9_fit cX9_fit 3 (some .int) :: ([.fieldLink RX9 28 "HalfLadders" "told" "LHalfLadders$Orchard;", .methodLink RX9 152 yX9_areTwo, .instanceMethod yX9_areTwo, .selects RX9 yX9_areTwo yX9_areTwo, .initialized RX9, .code yX9_areTwo cX9_areTwo 3 (some .boolean), .methodLink RX9 114 yX3_hasHalf, .instanceMethod yX3_hasHalf, .selects RX3 yX3_hasHalf yX3_hasHalf, .initialized RX3, .code yX3_hasHalf cX3_hasHalf 2 (some .boolean), .fieldLink RX3 9 "HalfLadders$Orchard" "people" "I", .methodLink RX9 156 yX3_fits, .instanceMethod yX3_fits, .selects RX3 yX3_fits yX3_fits, .code yX3_fits cX3_fits 3 (some .boolean), .fieldLink RX3 22 "HalfLadders$Orchard" "gaps" "[I", .methodLink RX3 47 yX3_couldFit, .instanceMethod yX3_couldFit, .selects RX3 yX3_couldFit yX3_couldFit, .code yX3_couldFit cX3_couldFit 3 (some .boolean), .fieldLink RX3 18 "HalfLadders$Orchard" "sides" "[I", .fieldLink RX3 31 "HalfLadders$Orchard" "quarrels" "[I", .methodLink RX3 43 yX3_hasHalf] ++ wsX90 ++ wsX30)
def wsX9_climb_r1 : List Cond := [Cond.fieldLink RX9 28 "HalfLadders" "told" "LHalfLadders$Orchard;", Cond.fieldLink RX9 38 "HalfLadders" "pairs" "LHalfLadders$Pairs;", Cond.fieldLink RX9 73 "HalfLadders" "present" "LHalfLadders$Now;", Cond.fieldLink RX9 167 "HalfLadders$Pairs" "bits" "[I", Cond.methodLink RX9 152 yX9_areTwo, Cond.instanceMethod yX9_areTwo, Cond.selects RX9 yX9_areTwo yX9_areTwo, Cond.initialized RX9, Cond.code yX9_areTwo cX9_areTwo 3 (some .boolean), Cond.methodLink RX9 114 yX3_hasHalf, Cond.instanceMethod yX3_hasHalf, Cond.selects RX3 yX3_hasHalf yX3_hasHalf, Cond.initialized RX3, Cond.code yX3_hasHalf cX3_hasHalf 2 (some .boolean), Cond.fieldLink RX3 9 "HalfLadders$Orchard" "people" "I", Cond.methodLink RX9 134 yX3_hasTree, Cond.instanceMethod yX3_hasTree, Cond.selects RX3 yX3_hasTree yX3_hasTree, Cond.code yX3_hasTree cX3_hasTree 2 (some .boolean), Cond.fieldLink RX3 15 "HalfLadders$Orchard" "trees" "I", Cond.methodLink RX9 159 yX4_indexOf, Cond.instanceMethod yX4_indexOf, Cond.selects RX4 yX4_indexOf yX4_indexOf, Cond.initialized RX4]
def wsX9_climb_r2 : List Cond := [Cond.code yX4_indexOf cX4_indexOf 3 (some .int), Cond.fieldLink RX4 9 "HalfLadders$Pairs" "count" "I", Cond.fieldLink RX4 25 "HalfLadders$Pairs" "bits" "[I", Cond.methodLink RX9 163 yX2_pickable, Cond.instanceMethod yX2_pickable, Cond.selects RX2 yX2_pickable yX2_pickable, Cond.initialized RX2, Cond.code yX2_pickable cX2_pickable 5 (some .int), Cond.fieldLink RX2 9 "HalfLadders$Now" "day" "I", Cond.fieldLink RX2 18 "HalfLadders$Now" "climbed" "I", Cond.fieldLink RX2 15 "HalfLadders$Now" "climbers" "I", Cond.fieldLink RX2 47 "HalfLadders$Pairs" "bits" "[I", Cond.fieldLink RX2 52 "HalfLadders$Pairs" "ladders" "[I", Cond.fieldLink RX2 55 "HalfLadders$Orchard" "highs" "[I", Cond.fieldLink RX2 58 "HalfLadders$Pairs" "picks" "[I", Cond.fieldLink RX2 30 "HalfLadders$Now" "left" "[I", Cond.methodLink RX2 61 Lib.Math.min.name, Cond.static Lib.Math.min.name, Cond.initialized "java/lang/Math", Cond.code Lib.Math.min.name Lib.Math.min.code 2 (some .int), Cond.methodLink RX2 43 yX3_isRipe, Cond.instanceMethod yX3_isRipe, Cond.selects RX3 yX3_isRipe yX3_isRipe, Cond.code yX3_isRipe cX3_isRipe 3 (some .boolean)]
def wsX9_climb_r3 : List Cond := [Cond.fieldLink RX3 37 "HalfLadders$Orchard" "ripes" "[I", Cond.methodLink RX3 57 yX3_hasTree, Cond.methodLink RX9 170 yX2_pick, Cond.instanceMethod yX2_pick, Cond.selects RX2 yX2_pick yX2_pick, Cond.code yX2_pick cX2_pick 4 none, Cond.fieldLink RX2 21 "HalfLadders$Now" "picked" "I"]
def wsX9_climb : List Cond := .code yX9_climb cX9_climb 6 (some .int) :: ((wsX9_climb_r1 ++ (wsX9_climb_r2 ++ wsX9_climb_r3)) ++ wsX90 ++ wsX40 ++ wsX30 ++ wsX20)
def wsX9_ends : List Cond := .code yX9_ends cX9_ends 1 (some .int) :: ([.fieldLink RX9 73 "HalfLadders" "present" "LHalfLadders$Now;", .fieldLink RX9 174 "HalfLadders$Now" "day" "I", .fieldLink RX9 28 "HalfLadders" "told" "LHalfLadders$Orchard;", .methodLink RX9 177 yX2_endDay, .instanceMethod yX2_endDay, .selects RX2 yX2_endDay yX2_endDay, .initialized RX2, .code yX2_endDay cX2_endDay 4 (some .int), .fieldLink RX2 9 "HalfLadders$Now" "day" "I", .fieldLink RX2 15 "HalfLadders$Now" "climbers" "I", .fieldLink RX2 18 "HalfLadders$Now" "climbed" "I", .fieldLink RX2 34 "HalfLadders$Orchard" "trees" "I", .fieldLink RX2 67 "HalfLadders$Orchard" "ripes" "[I", .fieldLink RX2 30 "HalfLadders$Now" "left" "[I", .fieldLink RX2 24 "HalfLadders$Now" "fallen" "I"] ++ wsX90 ++ wsX20 ++ wsX30)
def wsX9_now : List Cond := .code yX9_now cX9_now 2 (some .int) :: ([.fieldLink RX9 73 "HalfLadders" "present" "LHalfLadders$Now;", .fieldLink RX9 174 "HalfLadders$Now" "day" "I", .fieldLink RX9 180 "HalfLadders$Now" "picked" "I", .fieldLink RX9 183 "HalfLadders$Now" "fallen" "I", .fieldLink RX9 28 "HalfLadders" "told" "LHalfLadders$Orchard;", .fieldLink RX9 131 "HalfLadders$Now" "climbers" "I", .methodLink RX9 186 yX2_leftOnAll, .instanceMethod yX2_leftOnAll, .selects RX2 yX2_leftOnAll yX2_leftOnAll, .initialized RX2, .code yX2_leftOnAll cX2_leftOnAll 4 (some .int), .fieldLink RX2 34 "HalfLadders$Orchard" "trees" "I", .fieldLink RX2 30 "HalfLadders$Now" "left" "[I"] ++ wsX90 ++ wsX20 ++ wsX30)
def wsX9_year_r1 : List Cond := [Cond.fieldLink RX9 73 "HalfLadders" "present" "LHalfLadders$Now;", Cond.fieldLink RX9 28 "HalfLadders" "told" "LHalfLadders$Orchard;", Cond.methodLink RX9 189 yX2_begin, Cond.instanceMethod yX2_begin, Cond.selects RX2 yX2_begin yX2_begin, Cond.initialized RX2, Cond.code yX2_begin cX2_begin 1 none, Cond.fieldLink RX2 9 "HalfLadders$Now" "day" "I", Cond.fieldLink RX2 15 "HalfLadders$Now" "climbers" "I", Cond.fieldLink RX2 18 "HalfLadders$Now" "climbed" "I", Cond.fieldLink RX2 21 "HalfLadders$Now" "picked" "I", Cond.fieldLink RX2 24 "HalfLadders$Now" "fallen" "I", Cond.methodLink RX9 192 yX2_blossom, Cond.instanceMethod yX2_blossom, Cond.selects RX2 yX2_blossom yX2_blossom, Cond.code yX2_blossom cX2_blossom 4 none, Cond.fieldLink RX2 34 "HalfLadders$Orchard" "trees" "I", Cond.fieldLink RX2 27 "HalfLadders$Now" "theLot" "I", Cond.constant RX2 42 (1103515245), Cond.fieldLink RX2 30 "HalfLadders$Now" "left" "[I", Cond.fieldLink RX2 39 "HalfLadders$Orchard" "baskets" "[I", Cond.methodLink RX9 186 yX2_leftOnAll, Cond.instanceMethod yX2_leftOnAll, Cond.selects RX2 yX2_leftOnAll yX2_leftOnAll]
def wsX9_year_r2 : List Cond := [Cond.code yX2_leftOnAll cX2_leftOnAll 4 (some .int)]
def wsX9_year : List Cond := .code yX9_year cX9_year 1 (some .int) :: ((wsX9_year_r1 ++ wsX9_year_r2) ++ wsX90 ++ wsX20 ++ wsX30)
def wsX9_lot : List Cond := .code yX9_lot cX9_lot 3 (some .int) :: ([.fieldLink RX9 73 "HalfLadders" "present" "LHalfLadders$Now;", .fieldLink RX9 92 "HalfLadders$Now" "theLot" "I"] ++ wsX90 ++ wsX20)
def wsX9_best_r1 : List Cond := [Cond.fieldLink RX9 28 "HalfLadders" "told" "LHalfLadders$Orchard;", Cond.fieldLink RX9 66 "HalfLadders" "plan" "LHalfLadders$Plan;", Cond.fieldLink RX9 38 "HalfLadders" "pairs" "LHalfLadders$Pairs;", Cond.fieldLink RX9 73 "HalfLadders" "present" "LHalfLadders$Now;", Cond.fieldLink RX9 200 "HalfLadders$Plan" "chosen" "[I", Cond.methodLink RX9 134 yX3_hasTree, Cond.instanceMethod yX3_hasTree, Cond.selects RX3 yX3_hasTree yX3_hasTree, Cond.initialized RX3, Cond.code yX3_hasTree cX3_hasTree 2 (some .boolean), Cond.fieldLink RX3 15 "HalfLadders$Orchard" "trees" "I", Cond.methodLink RX9 196 yX5_make, Cond.instanceMethod yX5_make, Cond.selects RX5 yX5_make yX5_make, Cond.initialized RX5, Cond.code yX5_make cX5_make 6 (some .int), Cond.fieldLink RX5 20 "HalfLadders$Plan" "most" "[[I", Cond.fieldLink RX5 23 "HalfLadders$Orchard" "trees" "I", Cond.fieldLink RX5 35 "HalfLadders$Pairs" "count" "I", Cond.fieldLink RX5 17 "HalfLadders$Plan" "gains" "[[I", Cond.methodLink RX5 29 yJ7_fill_53178, Cond.static yJ7_fill_53178, Cond.initialized RJ7, Cond.code yJ7_fill_53178 cJ7_fill_53178 4 none]
def wsX9_best_r2 : List Cond := [Cond.methodLink RX5 40 yX2_pickable, Cond.instanceMethod yX2_pickable, Cond.selects RX2 yX2_pickable yX2_pickable, Cond.initialized RX2, Cond.code yX2_pickable cX2_pickable 5 (some .int), Cond.fieldLink RX2 9 "HalfLadders$Now" "day" "I", Cond.fieldLink RX2 18 "HalfLadders$Now" "climbed" "I", Cond.fieldLink RX2 15 "HalfLadders$Now" "climbers" "I", Cond.fieldLink RX2 47 "HalfLadders$Pairs" "bits" "[I", Cond.fieldLink RX2 52 "HalfLadders$Pairs" "ladders" "[I", Cond.fieldLink RX2 55 "HalfLadders$Orchard" "highs" "[I", Cond.fieldLink RX2 58 "HalfLadders$Pairs" "picks" "[I", Cond.fieldLink RX2 30 "HalfLadders$Now" "left" "[I", Cond.methodLink RX2 61 Lib.Math.min.name, Cond.static Lib.Math.min.name, Cond.initialized "java/lang/Math", Cond.code Lib.Math.min.name Lib.Math.min.code 2 (some .int), Cond.methodLink RX2 43 yX3_isRipe, Cond.instanceMethod yX3_isRipe, Cond.selects RX3 yX3_isRipe yX3_isRipe, Cond.code yX3_isRipe cX3_isRipe 3 (some .boolean), Cond.fieldLink RX3 37 "HalfLadders$Orchard" "ripes" "[I", Cond.methodLink RX3 57 yX3_hasTree, Cond.methodLink RX5 46 yX3_everybody]
def wsX9_best_r3 : List Cond := [Cond.instanceMethod yX3_everybody, Cond.selects RX3 yX3_everybody yX3_everybody, Cond.code yX3_everybody cX3_everybody 1 (some .int), Cond.fieldLink RX3 9 "HalfLadders$Orchard" "people" "I", Cond.methodLink RX5 50 yX5_canBeTaken, Cond.static yX5_canBeTaken, Cond.code yX5_canBeTaken cX5_canBeTaken 4 (some .boolean), Cond.fieldLink RX5 68 "HalfLadders$Pairs" "allLefts" "I", Cond.methodLink RX5 62 yJ6_bitCount_0f7a4, Cond.static yJ6_bitCount_0f7a4, Cond.initialized RJ6, Cond.code yJ6_bitCount_0f7a4 cJ6_bitCount_0f7a4 1 (some .int), Cond.constant RJ6 265 (1431655765), Cond.constant RJ6 266 (858993459), Cond.constant RJ6 267 (252645135), Cond.methodLink RX5 54 yX5_mostFrom, Cond.instanceMethod yX5_mostFrom, Cond.selects RX5 yX5_mostFrom yX5_mostFrom, Cond.code yX5_mostFrom cX5_mostFrom 6 (some .int), Cond.methodLink RX5 79 Lib.Math.max.name, Cond.static Lib.Math.max.name, Cond.code Lib.Math.max.name Lib.Math.max.code 2 (some .int), Cond.methodLink RX5 71 yX5_canClimb, Cond.instanceMethod yX5_canClimb]
def wsX9_best_r4 : List Cond := [Cond.selects RX5 yX5_canClimb yX5_canClimb, Cond.code yX5_canClimb cX5_canClimb 5 (some .boolean), Cond.fieldLink RX5 85 "HalfLadders$Pairs" "bits" "[I", Cond.methodLink RX5 75 yX5_with, Cond.instanceMethod yX5_with, Cond.selects RX5 yX5_with yX5_with, Cond.code yX5_with cX5_with 5 (some .int), Cond.methodLink RX5 58 yX5_choose, Cond.instanceMethod yX5_choose, Cond.selects RX5 yX5_choose yX5_choose, Cond.code yX5_choose cX5_choose 5 none, Cond.fieldLink RX5 9 "HalfLadders$Plan" "chosen" "[I", Cond.methodLink RX5 88 yX5_firstOfBest, Cond.instanceMethod yX5_firstOfBest, Cond.selects RX5 yX5_firstOfBest yX5_firstOfBest, Cond.code yX5_firstOfBest cX5_firstOfBest 5 (some .int), Cond.methodLink RX9 203 yX4_numberOf, Cond.instanceMethod yX4_numberOf, Cond.selects RX4 yX4_numberOf yX4_numberOf, Cond.initialized RX4, Cond.code yX4_numberOf cX4_numberOf 2 (some .int), Cond.fieldLink RX4 9 "HalfLadders$Pairs" "count" "I", Cond.fieldLink RX4 18 "HalfLadders$Pairs" "lefts" "[I", Cond.fieldLink RX4 22 "HalfLadders$Pairs" "rights" "[I"]
def wsX9_best : List Cond := .code yX9_best cX9_best 4 (some .int) :: ((wsX9_best_r1 ++ (wsX9_best_r2 ++ (wsX9_best_r3 ++ wsX9_best_r4))) ++ wsX90 ++ wsX50 ++ wsX30 ++ wsX40 ++ wsX20)
def wsX9_season_r1 : List Cond := [Cond.fieldLink RX9 77 "HalfLadders" "ahead" "LHalfLadders$Now;", Cond.fieldLink RX9 73 "HalfLadders" "present" "LHalfLadders$Now;", Cond.fieldLink RX9 174 "HalfLadders$Now" "day" "I", Cond.fieldLink RX9 66 "HalfLadders" "plan" "LHalfLadders$Plan;", Cond.fieldLink RX9 28 "HalfLadders" "told" "LHalfLadders$Orchard;", Cond.fieldLink RX9 38 "HalfLadders" "pairs" "LHalfLadders$Pairs;", Cond.methodLink RX9 206 yX2_become, Cond.instanceMethod yX2_become, Cond.selects RX2 yX2_become yX2_become, Cond.initialized RX2, Cond.code yX2_become cX2_become 3 none, Cond.fieldLink RX2 9 "HalfLadders$Now" "day" "I", Cond.fieldLink RX2 15 "HalfLadders$Now" "climbers" "I", Cond.fieldLink RX2 18 "HalfLadders$Now" "climbed" "I", Cond.fieldLink RX2 21 "HalfLadders$Now" "picked" "I", Cond.fieldLink RX2 24 "HalfLadders$Now" "fallen" "I", Cond.fieldLink RX2 27 "HalfLadders$Now" "theLot" "I", Cond.fieldLink RX2 30 "HalfLadders$Now" "left" "[I", Cond.methodLink RX9 196 yX5_make, Cond.instanceMethod yX5_make, Cond.selects RX5 yX5_make yX5_make, Cond.initialized RX5, Cond.code yX5_make cX5_make 6 (some .int), Cond.fieldLink RX5 20 "HalfLadders$Plan" "most" "[[I"]
def wsX9_season_r2 : List Cond := [Cond.fieldLink RX5 23 "HalfLadders$Orchard" "trees" "I", Cond.fieldLink RX5 35 "HalfLadders$Pairs" "count" "I", Cond.fieldLink RX5 17 "HalfLadders$Plan" "gains" "[[I", Cond.methodLink RX5 29 yJ7_fill_53178, Cond.static yJ7_fill_53178, Cond.initialized RJ7, Cond.code yJ7_fill_53178 cJ7_fill_53178 4 none, Cond.methodLink RX5 40 yX2_pickable, Cond.instanceMethod yX2_pickable, Cond.selects RX2 yX2_pickable yX2_pickable, Cond.code yX2_pickable cX2_pickable 5 (some .int), Cond.fieldLink RX2 47 "HalfLadders$Pairs" "bits" "[I", Cond.fieldLink RX2 52 "HalfLadders$Pairs" "ladders" "[I", Cond.fieldLink RX2 55 "HalfLadders$Orchard" "highs" "[I", Cond.fieldLink RX2 58 "HalfLadders$Pairs" "picks" "[I", Cond.methodLink RX2 61 Lib.Math.min.name, Cond.static Lib.Math.min.name, Cond.initialized "java/lang/Math", Cond.code Lib.Math.min.name Lib.Math.min.code 2 (some .int), Cond.methodLink RX2 43 yX3_isRipe, Cond.instanceMethod yX3_isRipe, Cond.selects RX3 yX3_isRipe yX3_isRipe, Cond.initialized RX3, Cond.code yX3_isRipe cX3_isRipe 3 (some .boolean)]
def wsX9_season_r3 : List Cond := [Cond.fieldLink RX3 37 "HalfLadders$Orchard" "ripes" "[I", Cond.methodLink RX3 57 yX3_hasTree, Cond.instanceMethod yX3_hasTree, Cond.selects RX3 yX3_hasTree yX3_hasTree, Cond.code yX3_hasTree cX3_hasTree 2 (some .boolean), Cond.fieldLink RX3 15 "HalfLadders$Orchard" "trees" "I", Cond.methodLink RX5 46 yX3_everybody, Cond.instanceMethod yX3_everybody, Cond.selects RX3 yX3_everybody yX3_everybody, Cond.code yX3_everybody cX3_everybody 1 (some .int), Cond.fieldLink RX3 9 "HalfLadders$Orchard" "people" "I", Cond.methodLink RX5 50 yX5_canBeTaken, Cond.static yX5_canBeTaken, Cond.code yX5_canBeTaken cX5_canBeTaken 4 (some .boolean), Cond.fieldLink RX5 68 "HalfLadders$Pairs" "allLefts" "I", Cond.methodLink RX5 62 yJ6_bitCount_0f7a4, Cond.static yJ6_bitCount_0f7a4, Cond.initialized RJ6, Cond.code yJ6_bitCount_0f7a4 cJ6_bitCount_0f7a4 1 (some .int), Cond.constant RJ6 265 (1431655765), Cond.constant RJ6 266 (858993459), Cond.constant RJ6 267 (252645135), Cond.methodLink RX5 54 yX5_mostFrom, Cond.instanceMethod yX5_mostFrom]
def wsX9_season_r4 : List Cond := [Cond.selects RX5 yX5_mostFrom yX5_mostFrom, Cond.code yX5_mostFrom cX5_mostFrom 6 (some .int), Cond.methodLink RX5 79 Lib.Math.max.name, Cond.static Lib.Math.max.name, Cond.code Lib.Math.max.name Lib.Math.max.code 2 (some .int), Cond.methodLink RX5 71 yX5_canClimb, Cond.instanceMethod yX5_canClimb, Cond.selects RX5 yX5_canClimb yX5_canClimb, Cond.code yX5_canClimb cX5_canClimb 5 (some .boolean), Cond.fieldLink RX5 85 "HalfLadders$Pairs" "bits" "[I", Cond.methodLink RX5 75 yX5_with, Cond.instanceMethod yX5_with, Cond.selects RX5 yX5_with yX5_with, Cond.code yX5_with cX5_with 5 (some .int), Cond.methodLink RX5 58 yX5_choose, Cond.instanceMethod yX5_choose, Cond.selects RX5 yX5_choose yX5_choose, Cond.code yX5_choose cX5_choose 5 none, Cond.fieldLink RX5 9 "HalfLadders$Plan" "chosen" "[I", Cond.methodLink RX5 88 yX5_firstOfBest, Cond.instanceMethod yX5_firstOfBest, Cond.selects RX5 yX5_firstOfBest yX5_firstOfBest, Cond.code yX5_firstOfBest cX5_firstOfBest 5 (some .int), Cond.methodLink RX9 210 yX5_carryOut]
def wsX9_season_r5 : List Cond := [Cond.instanceMethod yX5_carryOut, Cond.selects RX5 yX5_carryOut yX5_carryOut, Cond.code yX5_carryOut cX5_carryOut 6 none, Cond.methodLink RX5 91 yX2_pick, Cond.instanceMethod yX2_pick, Cond.selects RX2 yX2_pick yX2_pick, Cond.code yX2_pick cX2_pick 4 none, Cond.methodLink RX9 177 yX2_endDay, Cond.instanceMethod yX2_endDay, Cond.selects RX2 yX2_endDay yX2_endDay, Cond.code yX2_endDay cX2_endDay 4 (some .int), Cond.fieldLink RX2 34 "HalfLadders$Orchard" "trees" "I", Cond.fieldLink RX2 67 "HalfLadders$Orchard" "ripes" "[I"]
def wsX9_season : List Cond := .code yX9_season cX9_season 4 (some .int) :: ((wsX9_season_r1 ++ (wsX9_season_r2 ++ (wsX9_season_r3 ++ (wsX9_season_r4 ++ wsX9_season_r5)))) ++ wsX90 ++ wsX20 ++ wsX50 ++ wsX30 ++ wsX40)
def wsX9_whole : List Cond := .code yX9_whole cX9_whole 2 (some .int) :: ([.fieldLink RX9 45 "HalfLadders" "sums" "LHalfLadders$Sums;", .fieldLink RX9 214 "HalfLadders$Sums" "wholes" "[I", .fieldLink RX9 28 "HalfLadders" "told" "LHalfLadders$Orchard;", .methodLink RX9 217 yX3_everybody, .instanceMethod yX3_everybody, .selects RX3 yX3_everybody yX3_everybody, .initialized RX3, .code yX3_everybody cX3_everybody 1 (some .int), .fieldLink RX3 9 "HalfLadders$Orchard" "people" "I"] ++ wsX90 ++ wsX70 ++ wsX30)
def wsX9_greatestDivisor : List Cond := .code yX9_greatestDivisor cX9_greatestDivisor 6 (some .int) :: ([])
def wsX9_worth_r1 : List Cond := [Cond.fieldLink RX9 28 "HalfLadders" "told" "LHalfLadders$Orchard;", Cond.fieldLink RX9 220 "HalfLadders" "FACTORIALS" "[I", Cond.fieldLink RX9 223 "HalfLadders$Orchard" "people" "I", Cond.fieldLink RX9 45 "HalfLadders" "sums" "LHalfLadders$Sums;", Cond.methodLink RX9 114 yX3_hasHalf, Cond.instanceMethod yX3_hasHalf, Cond.selects RX3 yX3_hasHalf yX3_hasHalf, Cond.initialized RX3, Cond.code yX3_hasHalf cX3_hasHalf 2 (some .boolean), Cond.fieldLink RX3 9 "HalfLadders$Orchard" "people" "I", Cond.methodLink RX9 226 yX7_grownOverOrders, Cond.instanceMethod yX7_grownOverOrders, Cond.selects RX7 yX7_grownOverOrders yX7_grownOverOrders, Cond.initialized RX7, Cond.code yX7_grownOverOrders cX7_grownOverOrders 8 (some .int), Cond.fieldLink RX7 9 "HalfLadders$Sums" "wholes" "[I", Cond.methodLink RX7 43 yJ6_bitCount_0f7a4, Cond.static yJ6_bitCount_0f7a4, Cond.initialized RJ6, Cond.code yJ6_bitCount_0f7a4 cJ6_bitCount_0f7a4 1 (some .int), Cond.constant RJ6 265 (1431655765), Cond.constant RJ6 266 (858993459), Cond.constant RJ6 267 (252645135), Cond.methodLink RX9 230 yX9_greatestDivisor]
def wsX9_worth_r2 : List Cond := [Cond.static yX9_greatestDivisor, Cond.initialized RX9, Cond.code yX9_greatestDivisor cX9_greatestDivisor 6 (some .int)]
def wsX9_worth : List Cond := .code yX9_worth cX9_worth 6 (some .int) :: ((wsX9_worth_r1 ++ wsX9_worth_r2) ++ wsX90 ++ wsX30 ++ wsX70)
def wsX9_asked : List Cond := .code yX9_asked cX9_asked 2 (some .int) :: ([.fieldLink RX9 28 "HalfLadders" "told" "LHalfLadders$Orchard;", .fieldLink RX9 59 "HalfLadders" "liking" "LHalfLadders$Liking;", .fieldLink RX9 233 "HalfLadders$Liking" "asked" "[I", .methodLink RX9 114 yX3_hasHalf, .instanceMethod yX3_hasHalf, .selects RX3 yX3_hasHalf yX3_hasHalf, .initialized RX3, .code yX3_hasHalf cX3_hasHalf 2 (some .boolean), .fieldLink RX3 9 "HalfLadders$Orchard" "people" "I"] ++ wsX90 ++ wsX10 ++ wsX30)
def wsX9_rests : List Cond := .code yX9_rests cX9_rests 1 (some .int) :: ([.fieldLink RX9 59 "HalfLadders" "liking" "LHalfLadders$Liking;", .fieldLink RX9 236 "HalfLadders$Liking" "restCount" "I"] ++ wsX90 ++ wsX10)
def wsX9_cuts : List Cond := .code yX9_cuts cX9_cuts 2 (some .int) :: ([.fieldLink RX9 52 "HalfLadders" "cutting" "LHalfLadders$Cutting;", .fieldLink RX9 239 "HalfLadders$Cutting" "fewest" "[I"] ++ wsX90 ++ wsX00)
def wsX9_whose : List Cond := .code yX9_whose cX9_whose 4 (some .int) :: ([.fieldLink RX9 38 "HalfLadders" "pairs" "LHalfLadders$Pairs;", .methodLink RX9 242 yX4_howMany, .instanceMethod yX4_howMany, .selects RX4 yX4_howMany yX4_howMany, .initialized RX4, .code yX4_howMany cX4_howMany 5 (some .int), .fieldLink RX4 9 "HalfLadders$Pairs" "count" "I", .methodLink RX4 66 yX4_leavesMarks, .instanceMethod yX4_leavesMarks, .selects RX4 yX4_leavesMarks yX4_leavesMarks, .code yX4_leavesMarks cX4_leavesMarks 4 (some .boolean), .fieldLink RX4 28 "HalfLadders$Pairs" "gaps" "[I", .fieldLink RX4 31 "HalfLadders$Pairs" "ladders" "[I", .methodLink RX9 245 yX4_firstOf, .instanceMethod yX4_firstOf, .selects RX4 yX4_firstOf yX4_firstOf, .code yX4_firstOf cX4_firstOf 4 (some .int), .methodLink RX4 70 yX4_numberOf, .instanceMethod yX4_numberOf, .selects RX4 yX4_numberOf yX4_numberOf, .code yX4_numberOf cX4_numberOf 2 (some .int), .fieldLink RX4 18 "HalfLadders$Pairs" "lefts" "[I", .fieldLink RX4 22 "HalfLadders$Pairs" "rights" "[I"] ++ wsX90 ++ wsX40)
def wsX9_markAs_r1 : List Cond := [Cond.fieldLink RX9 28 "HalfLadders" "told" "LHalfLadders$Orchard;", Cond.fieldLink RX9 88 "HalfLadders" "traced" "J", Cond.fieldLink RX9 275 "HalfLadders" "KIND_TRACE" "[I", Cond.fieldLink RX9 125 "HalfLadders$Orchard" "lengths" "[I", Cond.fieldLink RX9 278 "HalfLadders" "KIND_ABOVE" "[I", Cond.fieldLink RX9 122 "HalfLadders$Orchard" "gaps" "[I", Cond.fieldLink RX9 128 "HalfLadders$Orchard" "paces" "[I", Cond.fieldLink RX9 38 "HalfLadders" "pairs" "LHalfLadders$Pairs;", Cond.fieldLink RX9 73 "HalfLadders" "present" "LHalfLadders$Now;", Cond.fieldLink RX9 174 "HalfLadders$Now" "day" "I", Cond.methodLink RX9 114 yX3_hasHalf, Cond.instanceMethod yX3_hasHalf, Cond.selects RX3 yX3_hasHalf yX3_hasHalf, Cond.initialized RX3, Cond.code yX3_hasHalf cX3_hasHalf 2 (some .boolean), Cond.fieldLink RX3 9 "HalfLadders$Orchard" "people" "I", Cond.methodLink RX9 249 yX9_markAs, Cond.static yX9_markAs, Cond.initialized RX9, Cond.methodLink RX9 281 yX4_howManyWith, Cond.instanceMethod yX4_howManyWith, Cond.selects RX4 yX4_howManyWith yX4_howManyWith, Cond.initialized RX4, Cond.code yX4_howManyWith cX4_howManyWith 4 (some .int)]
def wsX9_markAs_r2 : List Cond := [Cond.fieldLink RX4 9 "HalfLadders$Pairs" "count" "I", Cond.fieldLink RX4 25 "HalfLadders$Pairs" "bits" "[I"]
def wsX9_markAs : List Cond := .code yX9_markAs cX9_markAs 5 (some .int) :: ((wsX9_markAs_r1 ++ wsX9_markAs_r2) ++ wsX90 ++ wsX30 ++ wsX20 ++ wsX40)
end
section
def wsX9_mark_r1 : List Cond := [Cond.fieldLink RX9 28 "HalfLadders" "told" "LHalfLadders$Orchard;", Cond.constant RX9 248 (-1000000), Cond.methodLink RX9 114 yX3_hasHalf, Cond.instanceMethod yX3_hasHalf, Cond.selects RX3 yX3_hasHalf yX3_hasHalf, Cond.initialized RX3, Cond.code yX3_hasHalf cX3_hasHalf 2 (some .boolean), Cond.fieldLink RX3 9 "HalfLadders$Orchard" "people" "I", Cond.methodLink RX9 249 yX9_markAs, Cond.static yX9_markAs, Cond.initialized RX9, Cond.code yX9_markAs cX9_markAs 5 (some .int), Cond.fieldLink RX9 88 "HalfLadders" "traced" "J", Cond.fieldLink RX9 275 "HalfLadders" "KIND_TRACE" "[I", Cond.fieldLink RX9 125 "HalfLadders$Orchard" "lengths" "[I", Cond.fieldLink RX9 278 "HalfLadders" "KIND_ABOVE" "[I", Cond.fieldLink RX9 122 "HalfLadders$Orchard" "gaps" "[I", Cond.fieldLink RX9 128 "HalfLadders$Orchard" "paces" "[I", Cond.fieldLink RX9 38 "HalfLadders" "pairs" "LHalfLadders$Pairs;", Cond.fieldLink RX9 73 "HalfLadders" "present" "LHalfLadders$Now;", Cond.fieldLink RX9 174 "HalfLadders$Now" "day" "I", Cond.methodLink RX9 281 yX4_howManyWith, Cond.instanceMethod yX4_howManyWith, Cond.selects RX4 yX4_howManyWith yX4_howManyWith]
def wsX9_mark_r2 : List Cond := [Cond.initialized RX4, Cond.code yX4_howManyWith cX4_howManyWith 4 (some .int), Cond.fieldLink RX4 9 "HalfLadders$Pairs" "count" "I", Cond.fieldLink RX4 25 "HalfLadders$Pairs" "bits" "[I"]
def wsX9_mark : List Cond := .code yX9_mark cX9_mark 3 (some .int) :: ((wsX9_mark_r1 ++ wsX9_mark_r2) ++ wsX90 ++ wsX30 ++ wsX20 ++ wsX40)
def wsX9_isImage : List Cond := .code yX9_isImage cX9_isImage 1 (some .boolean) :: ([])
def wsX9_keep : List Cond := .code yX9_keep cX9_keep 2 (some .int) :: ([.fieldLink RX9 80 "HalfLadders" "images" "[LHalfLadders$Now;", .fieldLink RX9 73 "HalfLadders" "present" "LHalfLadders$Now;", .fieldLink RX9 84 "HalfLadders" "kept" "[Z", .fieldLink RX9 174 "HalfLadders$Now" "day" "I", .methodLink RX9 253 yX9_isImage, .static yX9_isImage, .initialized RX9, .code yX9_isImage cX9_isImage 1 (some .boolean), .methodLink RX9 206 yX2_become, .instanceMethod yX2_become, .selects RX2 yX2_become yX2_become, .initialized RX2, .code yX2_become cX2_become 3 none, .fieldLink RX2 9 "HalfLadders$Now" "day" "I", .fieldLink RX2 15 "HalfLadders$Now" "climbers" "I", .fieldLink RX2 18 "HalfLadders$Now" "climbed" "I", .fieldLink RX2 21 "HalfLadders$Now" "picked" "I", .fieldLink RX2 24 "HalfLadders$Now" "fallen" "I", .fieldLink RX2 27 "HalfLadders$Now" "theLot" "I", .fieldLink RX2 30 "HalfLadders$Now" "left" "[I"] ++ wsX90 ++ wsX20)
def wsX9_back : List Cond := .code yX9_back cX9_back 2 (some .int) :: ([.fieldLink RX9 84 "HalfLadders" "kept" "[Z", .fieldLink RX9 73 "HalfLadders" "present" "LHalfLadders$Now;", .fieldLink RX9 80 "HalfLadders" "images" "[LHalfLadders$Now;", .fieldLink RX9 174 "HalfLadders$Now" "day" "I", .methodLink RX9 253 yX9_isImage, .static yX9_isImage, .initialized RX9, .code yX9_isImage cX9_isImage 1 (some .boolean), .methodLink RX9 206 yX2_become, .instanceMethod yX2_become, .selects RX2 yX2_become yX2_become, .initialized RX2, .code yX2_become cX2_become 3 none, .fieldLink RX2 9 "HalfLadders$Now" "day" "I", .fieldLink RX2 15 "HalfLadders$Now" "climbers" "I", .fieldLink RX2 18 "HalfLadders$Now" "climbed" "I", .fieldLink RX2 21 "HalfLadders$Now" "picked" "I", .fieldLink RX2 24 "HalfLadders$Now" "fallen" "I", .fieldLink RX2 27 "HalfLadders$Now" "theLot" "I", .fieldLink RX2 30 "HalfLadders$Now" "left" "[I"] ++ wsX90 ++ wsX20)
def wsX9_count : List Cond := .code yX9_count cX9_count 2 (some .int) :: ([.fieldLink RX9 28 "HalfLadders" "told" "LHalfLadders$Orchard;", .fieldLink RX9 223 "HalfLadders$Orchard" "people" "I", .fieldLink RX9 256 "HalfLadders$Orchard" "trees" "I", .fieldLink RX9 12 "HalfLadders" "text" "LHalfLadders$Text;", .fieldLink RX9 107 "HalfLadders$Text" "length" "I", .methodLink RX9 259 yX3_quarrelPairs, .instanceMethod yX3_quarrelPairs, .selects RX3 yX3_quarrelPairs yX3_quarrelPairs, .initialized RX3, .code yX3_quarrelPairs cX3_quarrelPairs 3 (some .int), .fieldLink RX3 9 "HalfLadders$Orchard" "people" "I", .fieldLink RX3 31 "HalfLadders$Orchard" "quarrels" "[I", .methodLink RX3 51 yJ6_bitCount_0f7a4, .static yJ6_bitCount_0f7a4, .initialized RJ6, .code yJ6_bitCount_0f7a4 cJ6_bitCount_0f7a4 1 (some .int), .constant RJ6 265 (1431655765), .constant RJ6 266 (858993459), .constant RJ6 267 (252645135)] ++ wsX90 ++ wsX30 ++ wsX80)
def wsX9_trace : List Cond := .code yX9_trace cX9_trace 1 (some .long) :: ([.fieldLink RX9 88 "HalfLadders" "traced" "J"] ++ wsX90)
def wsX10_init_r1 : List Cond := [Cond.methodLink RX10 1 objectInit, Cond.instanceMethod objectInit, Cond.code objectInit ⟨#[0xb1]⟩ 1 none, Cond.arrayClass .byte, Cond.fieldLink RX10 7 "HalfLaddersModel" "text" "[B", Cond.arrayClass .int, Cond.fieldLink RX10 13 "HalfLaddersModel" "people" "[I", Cond.fieldLink RX10 17 "HalfLaddersModel" "side" "[I", Cond.fieldLink RX10 20 "HalfLaddersModel" "gap" "[I", Cond.fieldLink RX10 23 "HalfLaddersModel" "tall" "[I", Cond.fieldLink RX10 26 "HalfLaddersModel" "pace" "[I", Cond.arrayClass .boolean, Cond.fieldLink RX10 29 "HalfLaddersModel" "quarrel" "[Z", Cond.fieldLink RX10 33 "HalfLaddersModel" "trees" "[I", Cond.fieldLink RX10 36 "HalfLaddersModel" "high" "[I", Cond.fieldLink RX10 39 "HalfLaddersModel" "ripe" "[I", Cond.fieldLink RX10 42 "HalfLaddersModel" "hangs" "[I", Cond.fieldLink RX10 45 "HalfLaddersModel" "now" "[I", Cond.fieldLink RX10 48 "HalfLaddersModel" "isKept" "[Z", Cond.fieldLink RX10 51 "HalfLaddersModel" "most" "[I", Cond.fieldLink RX10 54 "HalfLaddersModel" "pairAt" "[I", Cond.fieldLink RX10 57 "HalfLaddersModel" "wholes" "[I", Cond.fieldLink RX10 60 "HalfLaddersModel" "with" "[I", Cond.fieldLink RX10 63 "HalfLaddersModel" "turnedDown" "[I"]
def wsX10_init_r2 : List Cond := [Cond.fieldLink RX10 66 "HalfLaddersModel" "fewest" "[I", Cond.fieldLink RX10 69 "HalfLaddersModel" "then" "[I"]
def wsX10_init : List Cond := .code yX10_init cX10_init 1 none :: ((wsX10_init_r1 ++ wsX10_init_r2) ++ wsX100)
def wsX10_in : List Cond := .code yX10_in cX10_in 3 (some .boolean) :: ([])
def wsX10_type : List Cond := .code yX10_type cX10_type 5 (some .int) :: ([.fieldLink RX10 76 "HalfLaddersModel" "typed" "I", .fieldLink RX10 7 "HalfLaddersModel" "text" "[B", .constantLong RX10 80 (255), .methodLink RX10 72 yX10_in, .static yX10_in, .initialized RX10, .code yX10_in cX10_in 3 (some .boolean)] ++ wsX100)
def wsX10_clear : List Cond := .code yX10_clear cX10_clear 2 (some .int) :: ([.fieldLink RX10 76 "HalfLaddersModel" "typed" "I"] ++ wsX100)
def wsX10_here : List Cond := .code yX10_here cX10_here 1 (some .int) :: ([.fieldLink RX10 82 "HalfLaddersModel" "at" "I", .fieldLink RX10 76 "HalfLaddersModel" "typed" "I", .fieldLink RX10 7 "HalfLaddersModel" "text" "[B"] ++ wsX100)
def wsX10_meaning : List Cond := .code yX10_meaning cX10_meaning 2 (some .int) :: ([.constant RX10 85 (255124976)])
def wsX10_next : List Cond := .code yX10_next cX10_next 5 none :: ([.fieldLink RX10 82 "HalfLaddersModel" "at" "I", .fieldLink RX10 90 "HalfLaddersModel" "start" "I", .fieldLink RX10 93 "HalfLaddersModel" "value" "I", .fieldLink RX10 96 "HalfLaddersModel" "sort" "I", .methodLink RX10 86 yX10_here, .instanceMethod yX10_here, .selects RX10 yX10_here yX10_here, .initialized RX10, .code yX10_here cX10_here 1 (some .int), .fieldLink RX10 76 "HalfLaddersModel" "typed" "I", .fieldLink RX10 7 "HalfLaddersModel" "text" "[B", .methodLink RX10 72 yX10_in, .static yX10_in, .code yX10_in cX10_in 3 (some .boolean), .methodLink RX10 99 yX10_meaning, .static yX10_meaning, .code yX10_meaning cX10_meaning 2 (some .int), .constant RX10 85 (255124976)] ++ wsX100)
def wsX10_due : List Cond := .code yX10_due cX10_due 3 (some .int) :: ([.fieldLink RX10 93 "HalfLaddersModel" "value" "I", .fieldLink RX10 103 "HalfLaddersModel" "fault" "I", .fieldLink RX10 90 "HalfLaddersModel" "start" "I", .methodLink RX10 106 yX10_next, .instanceMethod yX10_next, .selects RX10 yX10_next yX10_next, .initialized RX10, .code yX10_next cX10_next 5 none, .fieldLink RX10 82 "HalfLaddersModel" "at" "I", .fieldLink RX10 96 "HalfLaddersModel" "sort" "I", .methodLink RX10 86 yX10_here, .instanceMethod yX10_here, .selects RX10 yX10_here yX10_here, .code yX10_here cX10_here 1 (some .int), .fieldLink RX10 76 "HalfLaddersModel" "typed" "I", .fieldLink RX10 7 "HalfLaddersModel" "text" "[B", .methodLink RX10 72 yX10_in, .static yX10_in, .code yX10_in cX10_in 3 (some .boolean), .methodLink RX10 99 yX10_meaning, .static yX10_meaning, .code yX10_meaning cX10_meaning 2 (some .int), .constant RX10 85 (255124976)] ++ wsX100)
def wsX10_number_r1 : List Cond := [Cond.fieldLink RX10 96 "HalfLaddersModel" "sort" "I", Cond.fieldLink RX10 93 "HalfLaddersModel" "value" "I", Cond.methodLink RX10 72 yX10_in, Cond.static yX10_in, Cond.initialized RX10, Cond.code yX10_in cX10_in 3 (some .boolean), Cond.methodLink RX10 109 yX10_due, Cond.instanceMethod yX10_due, Cond.selects RX10 yX10_due yX10_due, Cond.code yX10_due cX10_due 3 (some .int), Cond.fieldLink RX10 103 "HalfLaddersModel" "fault" "I", Cond.fieldLink RX10 90 "HalfLaddersModel" "start" "I", Cond.methodLink RX10 106 yX10_next, Cond.instanceMethod yX10_next, Cond.selects RX10 yX10_next yX10_next, Cond.code yX10_next cX10_next 5 none, Cond.fieldLink RX10 82 "HalfLaddersModel" "at" "I", Cond.methodLink RX10 86 yX10_here, Cond.instanceMethod yX10_here, Cond.selects RX10 yX10_here yX10_here, Cond.code yX10_here cX10_here 1 (some .int), Cond.fieldLink RX10 76 "HalfLaddersModel" "typed" "I", Cond.fieldLink RX10 7 "HalfLaddersModel" "text" "[B", Cond.methodLink RX10 99 yX10_meaning]
def wsX10_number_r2 : List Cond := [Cond.static yX10_meaning, Cond.code yX10_meaning cX10_meaning 2 (some .int), Cond.constant RX10 85 (255124976)]
def wsX10_number : List Cond := .code yX10_number cX10_number 3 (some .int) :: ((wsX10_number_r1 ++ wsX10_number_r2) ++ wsX100)
def wsX10_readItem_r1 : List Cond := [Cond.fieldLink RX10 96 "HalfLaddersModel" "sort" "I", Cond.fieldLink RX10 13 "HalfLaddersModel" "people" "[I", Cond.fieldLink RX10 33 "HalfLaddersModel" "trees" "[I", Cond.fieldLink RX10 103 "HalfLaddersModel" "fault" "I", Cond.fieldLink RX10 17 "HalfLaddersModel" "side" "[I", Cond.fieldLink RX10 20 "HalfLaddersModel" "gap" "[I", Cond.fieldLink RX10 23 "HalfLaddersModel" "tall" "[I", Cond.fieldLink RX10 26 "HalfLaddersModel" "pace" "[I", Cond.fieldLink RX10 93 "HalfLaddersModel" "value" "I", Cond.fieldLink RX10 29 "HalfLaddersModel" "quarrel" "[Z", Cond.fieldLink RX10 36 "HalfLaddersModel" "high" "[I", Cond.fieldLink RX10 39 "HalfLaddersModel" "ripe" "[I", Cond.fieldLink RX10 42 "HalfLaddersModel" "hangs" "[I", Cond.methodLink RX10 109 yX10_due, Cond.instanceMethod yX10_due, Cond.selects RX10 yX10_due yX10_due, Cond.initialized RX10, Cond.code yX10_due cX10_due 3 (some .int), Cond.fieldLink RX10 90 "HalfLaddersModel" "start" "I", Cond.methodLink RX10 106 yX10_next, Cond.instanceMethod yX10_next, Cond.selects RX10 yX10_next yX10_next, Cond.code yX10_next cX10_next 5 none, Cond.fieldLink RX10 82 "HalfLaddersModel" "at" "I"]
def wsX10_readItem_r2 : List Cond := [Cond.methodLink RX10 86 yX10_here, Cond.instanceMethod yX10_here, Cond.selects RX10 yX10_here yX10_here, Cond.code yX10_here cX10_here 1 (some .int), Cond.fieldLink RX10 76 "HalfLaddersModel" "typed" "I", Cond.fieldLink RX10 7 "HalfLaddersModel" "text" "[B", Cond.methodLink RX10 72 yX10_in, Cond.static yX10_in, Cond.code yX10_in cX10_in 3 (some .boolean), Cond.methodLink RX10 99 yX10_meaning, Cond.static yX10_meaning, Cond.code yX10_meaning cX10_meaning 2 (some .int), Cond.constant RX10 85 (255124976), Cond.methodLink RX10 113 yX10_number, Cond.instanceMethod yX10_number, Cond.selects RX10 yX10_number yX10_number, Cond.code yX10_number cX10_number 3 (some .int)]
def wsX10_readItem : List Cond := .code yX10_readItem cX10_readItem 6 none :: ((wsX10_readItem_r1 ++ wsX10_readItem_r2) ++ wsX100)
def wsX10_begin : List Cond := .code yX10_begin cX10_begin 1 none :: ([.fieldLink RX10 45 "HalfLaddersModel" "now" "[I"] ++ wsX100)
def wsX10_orchard_r1 : List Cond := [Cond.fieldLink RX10 82 "HalfLaddersModel" "at" "I", Cond.fieldLink RX10 103 "HalfLaddersModel" "fault" "I", Cond.fieldLink RX10 13 "HalfLaddersModel" "people" "[I", Cond.fieldLink RX10 33 "HalfLaddersModel" "trees" "[I", Cond.fieldLink RX10 29 "HalfLaddersModel" "quarrel" "[Z", Cond.fieldLink RX10 96 "HalfLaddersModel" "sort" "I", Cond.fieldLink RX10 17 "HalfLaddersModel" "side" "[I", Cond.fieldLink RX10 20 "HalfLaddersModel" "gap" "[I", Cond.fieldLink RX10 23 "HalfLaddersModel" "tall" "[I", Cond.fieldLink RX10 26 "HalfLaddersModel" "pace" "[I", Cond.fieldLink RX10 36 "HalfLaddersModel" "high" "[I", Cond.fieldLink RX10 39 "HalfLaddersModel" "ripe" "[I", Cond.fieldLink RX10 42 "HalfLaddersModel" "hangs" "[I", Cond.fieldLink RX10 45 "HalfLaddersModel" "now" "[I", Cond.fieldLink RX10 48 "HalfLaddersModel" "isKept" "[Z", Cond.fieldLink RX10 76 "HalfLaddersModel" "typed" "I", Cond.methodLink RX10 106 yX10_next, Cond.instanceMethod yX10_next, Cond.selects RX10 yX10_next yX10_next, Cond.initialized RX10, Cond.code yX10_next cX10_next 5 none, Cond.fieldLink RX10 90 "HalfLaddersModel" "start" "I", Cond.fieldLink RX10 93 "HalfLaddersModel" "value" "I", Cond.methodLink RX10 86 yX10_here]
def wsX10_orchard_r2 : List Cond := [Cond.instanceMethod yX10_here, Cond.selects RX10 yX10_here yX10_here, Cond.code yX10_here cX10_here 1 (some .int), Cond.fieldLink RX10 7 "HalfLaddersModel" "text" "[B", Cond.methodLink RX10 72 yX10_in, Cond.static yX10_in, Cond.code yX10_in cX10_in 3 (some .boolean), Cond.methodLink RX10 99 yX10_meaning, Cond.static yX10_meaning, Cond.code yX10_meaning cX10_meaning 2 (some .int), Cond.constant RX10 85 (255124976), Cond.methodLink RX10 116 yX10_readItem, Cond.instanceMethod yX10_readItem, Cond.selects RX10 yX10_readItem yX10_readItem, Cond.code yX10_readItem cX10_readItem 6 none, Cond.methodLink RX10 109 yX10_due, Cond.instanceMethod yX10_due, Cond.selects RX10 yX10_due yX10_due, Cond.code yX10_due cX10_due 3 (some .int), Cond.methodLink RX10 113 yX10_number, Cond.instanceMethod yX10_number, Cond.selects RX10 yX10_number yX10_number, Cond.code yX10_number cX10_number 3 (some .int), Cond.methodLink RX10 119 yX10_begin]
def wsX10_orchard_r3 : List Cond := [Cond.instanceMethod yX10_begin, Cond.selects RX10 yX10_begin yX10_begin, Cond.code yX10_begin cX10_begin 1 none]
def wsX10_orchard : List Cond := .code yX10_orchard cX10_orchard 3 (some .int) :: ((wsX10_orchard_r1 ++ (wsX10_orchard_r2 ++ wsX10_orchard_r3)) ++ wsX100)
def wsX10_isOne : List Cond := .code yX10_isOne cX10_isOne 2 (some .boolean) :: ([.fieldLink RX10 13 "HalfLaddersModel" "people" "[I", .methodLink RX10 72 yX10_in, .static yX10_in, .initialized RX10, .code yX10_in cX10_in 3 (some .boolean)] ++ wsX100)
def wsX10_isTree : List Cond := .code yX10_isTree cX10_isTree 2 (some .boolean) :: ([.fieldLink RX10 33 "HalfLaddersModel" "trees" "[I", .methodLink RX10 72 yX10_in, .static yX10_in, .initialized RX10, .code yX10_in cX10_in 3 (some .boolean)] ++ wsX100)
def wsX10_fits : List Cond := .code yX10_fits cX10_fits 3 (some .boolean) :: ([.fieldLink RX10 17 "HalfLaddersModel" "side" "[I", .fieldLink RX10 20 "HalfLaddersModel" "gap" "[I", .fieldLink RX10 29 "HalfLaddersModel" "quarrel" "[Z"] ++ wsX100)
def wsX10_ladder : List Cond := .code yX10_ladder cX10_ladder 3 (some .int) :: ([.fieldLink RX10 23 "HalfLaddersModel" "tall" "[I"] ++ wsX100)
def wsX10_half : List Cond := .code yX10_half cX10_half 3 (some .int) :: ([.fieldLink RX10 17 "HalfLaddersModel" "side" "[I", .fieldLink RX10 20 "HalfLaddersModel" "gap" "[I", .fieldLink RX10 23 "HalfLaddersModel" "tall" "[I", .fieldLink RX10 26 "HalfLaddersModel" "pace" "[I", .fieldLink RX10 45 "HalfLaddersModel" "now" "[I", .methodLink RX10 122 yX10_isOne, .instanceMethod yX10_isOne, .selects RX10 yX10_isOne yX10_isOne, .initialized RX10, .code yX10_isOne cX10_isOne 2 (some .boolean), .fieldLink RX10 13 "HalfLaddersModel" "people" "[I", .methodLink RX10 72 yX10_in, .static yX10_in, .code yX10_in cX10_in 3 (some .boolean)] ++ wsX100)
def wsX10_tree : List Cond := .code yX10_tree cX10_tree 3 (some .int) :: ([.fieldLink RX10 36 "HalfLaddersModel" "high" "[I", .fieldLink RX10 39 "HalfLaddersModel" "ripe" "[I", .fieldLink RX10 42 "HalfLaddersModel" "hangs" "[I", .fieldLink RX10 45 "HalfLaddersModel" "now" "[I", .methodLink RX10 126 yX10_isTree, .instanceMethod yX10_isTree, .selects RX10 yX10_isTree yX10_isTree, .initialized RX10, .code yX10_isTree cX10_isTree 2 (some .boolean), .fieldLink RX10 33 "HalfLaddersModel" "trees" "[I", .methodLink RX10 72 yX10_in, .static yX10_in, .code yX10_in cX10_in 3 (some .boolean)] ++ wsX100)
def wsX10_fit : List Cond := .code yX10_fit cX10_fit 3 (some .int) :: ([.methodLink RX10 122 yX10_isOne, .instanceMethod yX10_isOne, .selects RX10 yX10_isOne yX10_isOne, .initialized RX10, .code yX10_isOne cX10_isOne 2 (some .boolean), .fieldLink RX10 13 "HalfLaddersModel" "people" "[I", .methodLink RX10 72 yX10_in, .static yX10_in, .code yX10_in cX10_in 3 (some .boolean), .methodLink RX10 129 yX10_fits, .instanceMethod yX10_fits, .selects RX10 yX10_fits yX10_fits, .code yX10_fits cX10_fits 3 (some .boolean), .fieldLink RX10 17 "HalfLaddersModel" "side" "[I", .fieldLink RX10 20 "HalfLaddersModel" "gap" "[I", .fieldLink RX10 29 "HalfLaddersModel" "quarrel" "[Z"] ++ wsX100)
def wsX10_mayClimb : List Cond := .code yX10_mayClimb cX10_mayClimb 6 (some .boolean) :: ([.fieldLink RX10 45 "HalfLaddersModel" "now" "[I", .fieldLink RX10 39 "HalfLaddersModel" "ripe" "[I", .fieldLink RX10 36 "HalfLaddersModel" "high" "[I", .methodLink RX10 129 yX10_fits, .instanceMethod yX10_fits, .selects RX10 yX10_fits yX10_fits, .initialized RX10, .code yX10_fits cX10_fits 3 (some .boolean), .fieldLink RX10 17 "HalfLaddersModel" "side" "[I", .fieldLink RX10 20 "HalfLaddersModel" "gap" "[I", .fieldLink RX10 29 "HalfLaddersModel" "quarrel" "[Z", .methodLink RX10 72 yX10_in, .static yX10_in, .code yX10_in cX10_in 3 (some .boolean), .methodLink RX10 133 yX10_ladder, .instanceMethod yX10_ladder, .selects RX10 yX10_ladder yX10_ladder, .code yX10_ladder cX10_ladder 3 (some .int), .fieldLink RX10 23 "HalfLaddersModel" "tall" "[I"] ++ wsX100)
def wsX10_picks : List Cond := .code yX10_picks cX10_picks 6 (some .int) :: ([.fieldLink RX10 26 "HalfLaddersModel" "pace" "[I", .fieldLink RX10 45 "HalfLaddersModel" "now" "[I"] ++ wsX100)
def wsX10_climbs : List Cond := .code yX10_climbs cX10_climbs 6 (some .int) :: ([.fieldLink RX10 45 "HalfLaddersModel" "now" "[I", .methodLink RX10 136 yX10_picks, .instanceMethod yX10_picks, .selects RX10 yX10_picks yX10_picks, .initialized RX10, .code yX10_picks cX10_picks 6 (some .int), .fieldLink RX10 26 "HalfLaddersModel" "pace" "[I"] ++ wsX100)
def wsX10_endDay : List Cond := .code yX10_endDay cX10_endDay 4 (some .int) :: ([.fieldLink RX10 45 "HalfLaddersModel" "now" "[I", .fieldLink RX10 33 "HalfLaddersModel" "trees" "[I", .fieldLink RX10 39 "HalfLaddersModel" "ripe" "[I"] ++ wsX100)
def wsX10_climb_r1 : List Cond := [Cond.methodLink RX10 122 yX10_isOne, Cond.instanceMethod yX10_isOne, Cond.selects RX10 yX10_isOne yX10_isOne, Cond.initialized RX10, Cond.code yX10_isOne cX10_isOne 2 (some .boolean), Cond.fieldLink RX10 13 "HalfLaddersModel" "people" "[I", Cond.methodLink RX10 72 yX10_in, Cond.static yX10_in, Cond.code yX10_in cX10_in 3 (some .boolean), Cond.methodLink RX10 126 yX10_isTree, Cond.instanceMethod yX10_isTree, Cond.selects RX10 yX10_isTree yX10_isTree, Cond.code yX10_isTree cX10_isTree 2 (some .boolean), Cond.fieldLink RX10 33 "HalfLaddersModel" "trees" "[I", Cond.methodLink RX10 140 yX10_mayClimb, Cond.instanceMethod yX10_mayClimb, Cond.selects RX10 yX10_mayClimb yX10_mayClimb, Cond.code yX10_mayClimb cX10_mayClimb 6 (some .boolean), Cond.fieldLink RX10 45 "HalfLaddersModel" "now" "[I", Cond.fieldLink RX10 39 "HalfLaddersModel" "ripe" "[I", Cond.fieldLink RX10 36 "HalfLaddersModel" "high" "[I", Cond.methodLink RX10 129 yX10_fits, Cond.instanceMethod yX10_fits, Cond.selects RX10 yX10_fits yX10_fits]
def wsX10_climb_r2 : List Cond := [Cond.code yX10_fits cX10_fits 3 (some .boolean), Cond.fieldLink RX10 17 "HalfLaddersModel" "side" "[I", Cond.fieldLink RX10 20 "HalfLaddersModel" "gap" "[I", Cond.fieldLink RX10 29 "HalfLaddersModel" "quarrel" "[Z", Cond.methodLink RX10 133 yX10_ladder, Cond.instanceMethod yX10_ladder, Cond.selects RX10 yX10_ladder yX10_ladder, Cond.code yX10_ladder cX10_ladder 3 (some .int), Cond.fieldLink RX10 23 "HalfLaddersModel" "tall" "[I", Cond.methodLink RX10 144 yX10_climbs, Cond.instanceMethod yX10_climbs, Cond.selects RX10 yX10_climbs yX10_climbs, Cond.code yX10_climbs cX10_climbs 6 (some .int), Cond.methodLink RX10 136 yX10_picks, Cond.instanceMethod yX10_picks, Cond.selects RX10 yX10_picks yX10_picks, Cond.code yX10_picks cX10_picks 6 (some .int), Cond.fieldLink RX10 26 "HalfLaddersModel" "pace" "[I"]
def wsX10_climb : List Cond := .code yX10_climb cX10_climb 4 (some .int) :: ((wsX10_climb_r1 ++ wsX10_climb_r2) ++ wsX100)
def wsX10_ends : List Cond := .code yX10_ends cX10_ends 1 (some .int) :: ([.fieldLink RX10 45 "HalfLaddersModel" "now" "[I", .methodLink RX10 147 yX10_endDay, .instanceMethod yX10_endDay, .selects RX10 yX10_endDay yX10_endDay, .initialized RX10, .code yX10_endDay cX10_endDay 4 (some .int), .fieldLink RX10 33 "HalfLaddersModel" "trees" "[I", .fieldLink RX10 39 "HalfLaddersModel" "ripe" "[I"] ++ wsX100)
def wsX10_now : List Cond := .code yX10_now cX10_now 4 (some .int) :: ([.fieldLink RX10 33 "HalfLaddersModel" "trees" "[I", .fieldLink RX10 45 "HalfLaddersModel" "now" "[I"] ++ wsX100)
def wsX10_year : List Cond := .code yX10_year cX10_year 3 (some .int) :: ([.fieldLink RX10 33 "HalfLaddersModel" "trees" "[I", .fieldLink RX10 45 "HalfLaddersModel" "now" "[I", .constant RX10 151 (1103515245), .fieldLink RX10 42 "HalfLaddersModel" "hangs" "[I", .methodLink RX10 119 yX10_begin, .instanceMethod yX10_begin, .selects RX10 yX10_begin yX10_begin, .initialized RX10, .code yX10_begin cX10_begin 1 none] ++ wsX100)
def wsX10_lot : List Cond := .code yX10_lot cX10_lot 3 (some .int) :: ([.fieldLink RX10 45 "HalfLaddersModel" "now" "[I"] ++ wsX100)
def wsX10_leftOf : List Cond := .code yX10_leftOf cX10_leftOf 1 (some .int) :: ([])
def wsX10_mayPair_r1 : List Cond := [Cond.fieldLink RX10 17 "HalfLaddersModel" "side" "[I", Cond.methodLink RX10 122 yX10_isOne, Cond.instanceMethod yX10_isOne, Cond.selects RX10 yX10_isOne yX10_isOne, Cond.initialized RX10, Cond.code yX10_isOne cX10_isOne 2 (some .boolean), Cond.fieldLink RX10 13 "HalfLaddersModel" "people" "[I", Cond.methodLink RX10 72 yX10_in, Cond.static yX10_in, Cond.code yX10_in cX10_in 3 (some .boolean), Cond.methodLink RX10 140 yX10_mayClimb, Cond.instanceMethod yX10_mayClimb, Cond.selects RX10 yX10_mayClimb yX10_mayClimb, Cond.code yX10_mayClimb cX10_mayClimb 6 (some .boolean), Cond.fieldLink RX10 45 "HalfLaddersModel" "now" "[I", Cond.fieldLink RX10 39 "HalfLaddersModel" "ripe" "[I", Cond.fieldLink RX10 36 "HalfLaddersModel" "high" "[I", Cond.methodLink RX10 129 yX10_fits, Cond.instanceMethod yX10_fits, Cond.selects RX10 yX10_fits yX10_fits, Cond.code yX10_fits cX10_fits 3 (some .boolean), Cond.fieldLink RX10 20 "HalfLaddersModel" "gap" "[I", Cond.fieldLink RX10 29 "HalfLaddersModel" "quarrel" "[Z", Cond.methodLink RX10 133 yX10_ladder]
def wsX10_mayPair_r2 : List Cond := [Cond.instanceMethod yX10_ladder, Cond.selects RX10 yX10_ladder yX10_ladder, Cond.code yX10_ladder cX10_ladder 3 (some .int), Cond.fieldLink RX10 23 "HalfLaddersModel" "tall" "[I"]
def wsX10_mayPair : List Cond := .code yX10_mayPair cX10_mayPair 7 (some .boolean) :: ((wsX10_mayPair_r1 ++ wsX10_mayPair_r2) ++ wsX100)
def wsX10_findBest_r1 : List Cond := [Cond.fieldLink RX10 33 "HalfLaddersModel" "trees" "[I", Cond.fieldLink RX10 51 "HalfLaddersModel" "most" "[I", Cond.fieldLink RX10 54 "HalfLaddersModel" "pairAt" "[I", Cond.methodLink RX10 152 yX10_mayPair, Cond.instanceMethod yX10_mayPair, Cond.selects RX10 yX10_mayPair yX10_mayPair, Cond.initialized RX10, Cond.code yX10_mayPair cX10_mayPair 7 (some .boolean), Cond.fieldLink RX10 17 "HalfLaddersModel" "side" "[I", Cond.methodLink RX10 122 yX10_isOne, Cond.instanceMethod yX10_isOne, Cond.selects RX10 yX10_isOne yX10_isOne, Cond.code yX10_isOne cX10_isOne 2 (some .boolean), Cond.fieldLink RX10 13 "HalfLaddersModel" "people" "[I", Cond.methodLink RX10 72 yX10_in, Cond.static yX10_in, Cond.code yX10_in cX10_in 3 (some .boolean), Cond.methodLink RX10 140 yX10_mayClimb, Cond.instanceMethod yX10_mayClimb, Cond.selects RX10 yX10_mayClimb yX10_mayClimb, Cond.code yX10_mayClimb cX10_mayClimb 6 (some .boolean), Cond.fieldLink RX10 45 "HalfLaddersModel" "now" "[I", Cond.fieldLink RX10 39 "HalfLaddersModel" "ripe" "[I", Cond.fieldLink RX10 36 "HalfLaddersModel" "high" "[I"]
def wsX10_findBest_r2 : List Cond := [Cond.methodLink RX10 129 yX10_fits, Cond.instanceMethod yX10_fits, Cond.selects RX10 yX10_fits yX10_fits, Cond.code yX10_fits cX10_fits 3 (some .boolean), Cond.fieldLink RX10 20 "HalfLaddersModel" "gap" "[I", Cond.fieldLink RX10 29 "HalfLaddersModel" "quarrel" "[Z", Cond.methodLink RX10 133 yX10_ladder, Cond.instanceMethod yX10_ladder, Cond.selects RX10 yX10_ladder yX10_ladder, Cond.code yX10_ladder cX10_ladder 3 (some .int), Cond.fieldLink RX10 23 "HalfLaddersModel" "tall" "[I", Cond.methodLink RX10 155 yX10_leftOf, Cond.static yX10_leftOf, Cond.code yX10_leftOf cX10_leftOf 1 (some .int), Cond.methodLink RX10 136 yX10_picks, Cond.instanceMethod yX10_picks, Cond.selects RX10 yX10_picks yX10_picks, Cond.code yX10_picks cX10_picks 6 (some .int), Cond.fieldLink RX10 26 "HalfLaddersModel" "pace" "[I"]
def wsX10_findBest : List Cond := .code yX10_findBest cX10_findBest 7 none :: ((wsX10_findBest_r1 ++ wsX10_findBest_r2) ++ wsX100)
def wsX10_best_r1 : List Cond := [Cond.fieldLink RX10 33 "HalfLaddersModel" "trees" "[I", Cond.fieldLink RX10 51 "HalfLaddersModel" "most" "[I", Cond.fieldLink RX10 54 "HalfLaddersModel" "pairAt" "[I", Cond.methodLink RX10 72 yX10_in, Cond.static yX10_in, Cond.initialized RX10, Cond.code yX10_in cX10_in 3 (some .boolean), Cond.methodLink RX10 158 yX10_findBest, Cond.instanceMethod yX10_findBest, Cond.selects RX10 yX10_findBest yX10_findBest, Cond.code yX10_findBest cX10_findBest 7 none, Cond.methodLink RX10 152 yX10_mayPair, Cond.instanceMethod yX10_mayPair, Cond.selects RX10 yX10_mayPair yX10_mayPair, Cond.code yX10_mayPair cX10_mayPair 7 (some .boolean), Cond.fieldLink RX10 17 "HalfLaddersModel" "side" "[I", Cond.methodLink RX10 122 yX10_isOne, Cond.instanceMethod yX10_isOne, Cond.selects RX10 yX10_isOne yX10_isOne, Cond.code yX10_isOne cX10_isOne 2 (some .boolean), Cond.fieldLink RX10 13 "HalfLaddersModel" "people" "[I", Cond.methodLink RX10 140 yX10_mayClimb, Cond.instanceMethod yX10_mayClimb, Cond.selects RX10 yX10_mayClimb yX10_mayClimb]
def wsX10_best_r2 : List Cond := [Cond.code yX10_mayClimb cX10_mayClimb 6 (some .boolean), Cond.fieldLink RX10 45 "HalfLaddersModel" "now" "[I", Cond.fieldLink RX10 39 "HalfLaddersModel" "ripe" "[I", Cond.fieldLink RX10 36 "HalfLaddersModel" "high" "[I", Cond.methodLink RX10 129 yX10_fits, Cond.instanceMethod yX10_fits, Cond.selects RX10 yX10_fits yX10_fits, Cond.code yX10_fits cX10_fits 3 (some .boolean), Cond.fieldLink RX10 20 "HalfLaddersModel" "gap" "[I", Cond.fieldLink RX10 29 "HalfLaddersModel" "quarrel" "[Z", Cond.methodLink RX10 133 yX10_ladder, Cond.instanceMethod yX10_ladder, Cond.selects RX10 yX10_ladder yX10_ladder, Cond.code yX10_ladder cX10_ladder 3 (some .int), Cond.fieldLink RX10 23 "HalfLaddersModel" "tall" "[I", Cond.methodLink RX10 155 yX10_leftOf, Cond.static yX10_leftOf, Cond.code yX10_leftOf cX10_leftOf 1 (some .int), Cond.methodLink RX10 136 yX10_picks, Cond.instanceMethod yX10_picks, Cond.selects RX10 yX10_picks yX10_picks, Cond.code yX10_picks cX10_picks 6 (some .int), Cond.fieldLink RX10 26 "HalfLaddersModel" "pace" "[I"]
def wsX10_best : List Cond := .code yX10_best cX10_best 2 (some .int) :: ((wsX10_best_r1 ++ wsX10_best_r2) ++ wsX100)
def wsX10_copy : List Cond := .code yX10_copy cX10_copy 4 none :: ([.fieldLink RX10 45 "HalfLaddersModel" "now" "[I"] ++ wsX100)
def wsX10_season_r1 : List Cond := [Cond.fieldLink RX10 51 "HalfLaddersModel" "most" "[I", Cond.fieldLink RX10 33 "HalfLaddersModel" "trees" "[I", Cond.fieldLink RX10 54 "HalfLaddersModel" "pairAt" "[I", Cond.fieldLink RX10 45 "HalfLaddersModel" "now" "[I", Cond.methodLink RX10 72 yX10_in, Cond.static yX10_in, Cond.initialized RX10, Cond.code yX10_in cX10_in 3 (some .boolean), Cond.methodLink RX10 162 yX10_copy, Cond.instanceMethod yX10_copy, Cond.selects RX10 yX10_copy yX10_copy, Cond.code yX10_copy cX10_copy 4 none, Cond.methodLink RX10 158 yX10_findBest, Cond.instanceMethod yX10_findBest, Cond.selects RX10 yX10_findBest yX10_findBest, Cond.code yX10_findBest cX10_findBest 7 none, Cond.methodLink RX10 152 yX10_mayPair, Cond.instanceMethod yX10_mayPair, Cond.selects RX10 yX10_mayPair yX10_mayPair, Cond.code yX10_mayPair cX10_mayPair 7 (some .boolean), Cond.fieldLink RX10 17 "HalfLaddersModel" "side" "[I", Cond.methodLink RX10 122 yX10_isOne, Cond.instanceMethod yX10_isOne, Cond.selects RX10 yX10_isOne yX10_isOne]
def wsX10_season_r2 : List Cond := [Cond.code yX10_isOne cX10_isOne 2 (some .boolean), Cond.fieldLink RX10 13 "HalfLaddersModel" "people" "[I", Cond.methodLink RX10 140 yX10_mayClimb, Cond.instanceMethod yX10_mayClimb, Cond.selects RX10 yX10_mayClimb yX10_mayClimb, Cond.code yX10_mayClimb cX10_mayClimb 6 (some .boolean), Cond.fieldLink RX10 39 "HalfLaddersModel" "ripe" "[I", Cond.fieldLink RX10 36 "HalfLaddersModel" "high" "[I", Cond.methodLink RX10 129 yX10_fits, Cond.instanceMethod yX10_fits, Cond.selects RX10 yX10_fits yX10_fits, Cond.code yX10_fits cX10_fits 3 (some .boolean), Cond.fieldLink RX10 20 "HalfLaddersModel" "gap" "[I", Cond.fieldLink RX10 29 "HalfLaddersModel" "quarrel" "[Z", Cond.methodLink RX10 133 yX10_ladder, Cond.instanceMethod yX10_ladder, Cond.selects RX10 yX10_ladder yX10_ladder, Cond.code yX10_ladder cX10_ladder 3 (some .int), Cond.fieldLink RX10 23 "HalfLaddersModel" "tall" "[I", Cond.methodLink RX10 155 yX10_leftOf, Cond.static yX10_leftOf, Cond.code yX10_leftOf cX10_leftOf 1 (some .int), Cond.methodLink RX10 136 yX10_picks, Cond.instanceMethod yX10_picks]
def wsX10_season_r3 : List Cond := [Cond.selects RX10 yX10_picks yX10_picks, Cond.code yX10_picks cX10_picks 6 (some .int), Cond.fieldLink RX10 26 "HalfLaddersModel" "pace" "[I", Cond.methodLink RX10 144 yX10_climbs, Cond.instanceMethod yX10_climbs, Cond.selects RX10 yX10_climbs yX10_climbs, Cond.code yX10_climbs cX10_climbs 6 (some .int), Cond.methodLink RX10 147 yX10_endDay, Cond.instanceMethod yX10_endDay, Cond.selects RX10 yX10_endDay yX10_endDay, Cond.code yX10_endDay cX10_endDay 4 (some .int)]
def wsX10_season : List Cond := .code yX10_season cX10_season 5 (some .int) :: ((wsX10_season_r1 ++ (wsX10_season_r2 ++ wsX10_season_r3)) ++ wsX100)
def wsX10_findWholes : List Cond := .code yX10_findWholes cX10_findWholes 7 none :: ([.fieldLink RX10 57 "HalfLaddersModel" "wholes" "[I", .fieldLink RX10 13 "HalfLaddersModel" "people" "[I", .fieldLink RX10 26 "HalfLaddersModel" "pace" "[I", .methodLink RX10 129 yX10_fits, .instanceMethod yX10_fits, .selects RX10 yX10_fits yX10_fits, .initialized RX10, .code yX10_fits cX10_fits 3 (some .boolean), .fieldLink RX10 17 "HalfLaddersModel" "side" "[I", .fieldLink RX10 20 "HalfLaddersModel" "gap" "[I", .fieldLink RX10 29 "HalfLaddersModel" "quarrel" "[Z"] ++ wsX100)
def wsX10_whole : List Cond := .code yX10_whole cX10_whole 2 (some .int) :: ([.fieldLink RX10 57 "HalfLaddersModel" "wholes" "[I", .fieldLink RX10 13 "HalfLaddersModel" "people" "[I", .methodLink RX10 166 yX10_findWholes, .instanceMethod yX10_findWholes, .selects RX10 yX10_findWholes yX10_findWholes, .initialized RX10, .code yX10_findWholes cX10_findWholes 7 none, .fieldLink RX10 26 "HalfLaddersModel" "pace" "[I", .methodLink RX10 129 yX10_fits, .instanceMethod yX10_fits, .selects RX10 yX10_fits yX10_fits, .code yX10_fits cX10_fits 3 (some .boolean), .fieldLink RX10 17 "HalfLaddersModel" "side" "[I", .fieldLink RX10 20 "HalfLaddersModel" "gap" "[I", .fieldLink RX10 29 "HalfLaddersModel" "quarrel" "[Z"] ++ wsX100)
def wsX10_orders : List Cond := .code yX10_orders cX10_orders 3 (some .int) :: ([])
def wsX10_bitsIn : List Cond := .code yX10_bitsIn cX10_bitsIn 3 (some .int) :: ([])
def wsX10_common : List Cond := .code yX10_common cX10_common 5 (some .int) :: ([])
def wsX10_worth_r1 : List Cond := [Cond.fieldLink RX10 13 "HalfLaddersModel" "people" "[I", Cond.fieldLink RX10 57 "HalfLaddersModel" "wholes" "[I", Cond.methodLink RX10 122 yX10_isOne, Cond.instanceMethod yX10_isOne, Cond.selects RX10 yX10_isOne yX10_isOne, Cond.initialized RX10, Cond.code yX10_isOne cX10_isOne 2 (some .boolean), Cond.methodLink RX10 72 yX10_in, Cond.static yX10_in, Cond.code yX10_in cX10_in 3 (some .boolean), Cond.methodLink RX10 166 yX10_findWholes, Cond.instanceMethod yX10_findWholes, Cond.selects RX10 yX10_findWholes yX10_findWholes, Cond.code yX10_findWholes cX10_findWholes 7 none, Cond.fieldLink RX10 26 "HalfLaddersModel" "pace" "[I", Cond.methodLink RX10 129 yX10_fits, Cond.instanceMethod yX10_fits, Cond.selects RX10 yX10_fits yX10_fits, Cond.code yX10_fits cX10_fits 3 (some .boolean), Cond.fieldLink RX10 17 "HalfLaddersModel" "side" "[I", Cond.fieldLink RX10 20 "HalfLaddersModel" "gap" "[I", Cond.fieldLink RX10 29 "HalfLaddersModel" "quarrel" "[Z", Cond.methodLink RX10 169 yX10_bitsIn, Cond.static yX10_bitsIn]
def wsX10_worth_r2 : List Cond := [Cond.code yX10_bitsIn cX10_bitsIn 3 (some .int), Cond.methodLink RX10 172 yX10_orders, Cond.static yX10_orders, Cond.code yX10_orders cX10_orders 3 (some .int), Cond.methodLink RX10 175 yX10_common, Cond.static yX10_common, Cond.code yX10_common cX10_common 5 (some .int)]
def wsX10_worth : List Cond := .code yX10_worth cX10_worth 7 (some .int) :: ((wsX10_worth_r1 ++ wsX10_worth_r2) ++ wsX100)
def wsX10_likes : List Cond := .code yX10_likes cX10_likes 6 (some .boolean) :: ([.fieldLink RX10 26 "HalfLaddersModel" "pace" "[I", .methodLink RX10 133 yX10_ladder, .instanceMethod yX10_ladder, .selects RX10 yX10_ladder yX10_ladder, .initialized RX10, .code yX10_ladder cX10_ladder 3 (some .int), .fieldLink RX10 23 "HalfLaddersModel" "tall" "[I"] ++ wsX100)
def wsX10_asksNext : List Cond := .code yX10_asksNext cX10_asksNext 5 (some .int) :: ([.fieldLink RX10 13 "HalfLaddersModel" "people" "[I", .fieldLink RX10 63 "HalfLaddersModel" "turnedDown" "[I", .methodLink RX10 129 yX10_fits, .instanceMethod yX10_fits, .selects RX10 yX10_fits yX10_fits, .initialized RX10, .code yX10_fits cX10_fits 3 (some .boolean), .fieldLink RX10 17 "HalfLaddersModel" "side" "[I", .fieldLink RX10 20 "HalfLaddersModel" "gap" "[I", .fieldLink RX10 29 "HalfLaddersModel" "quarrel" "[Z", .methodLink RX10 178 yX10_likes, .instanceMethod yX10_likes, .selects RX10 yX10_likes yX10_likes, .code yX10_likes cX10_likes 6 (some .boolean), .fieldLink RX10 26 "HalfLaddersModel" "pace" "[I", .methodLink RX10 133 yX10_ladder, .instanceMethod yX10_ladder, .selects RX10 yX10_ladder yX10_ladder, .code yX10_ladder cX10_ladder 3 (some .int), .fieldLink RX10 23 "HalfLaddersModel" "tall" "[I"] ++ wsX100)
def wsX10_ask_r1 : List Cond := [Cond.fieldLink RX10 60 "HalfLaddersModel" "with" "[I", Cond.fieldLink RX10 63 "HalfLaddersModel" "turnedDown" "[I", Cond.fieldLink RX10 13 "HalfLaddersModel" "people" "[I", Cond.fieldLink RX10 17 "HalfLaddersModel" "side" "[I", Cond.methodLink RX10 181 yX10_asksNext, Cond.instanceMethod yX10_asksNext, Cond.selects RX10 yX10_asksNext yX10_asksNext, Cond.initialized RX10, Cond.code yX10_asksNext cX10_asksNext 5 (some .int), Cond.methodLink RX10 129 yX10_fits, Cond.instanceMethod yX10_fits, Cond.selects RX10 yX10_fits yX10_fits, Cond.code yX10_fits cX10_fits 3 (some .boolean), Cond.fieldLink RX10 20 "HalfLaddersModel" "gap" "[I", Cond.fieldLink RX10 29 "HalfLaddersModel" "quarrel" "[Z", Cond.methodLink RX10 178 yX10_likes, Cond.instanceMethod yX10_likes, Cond.selects RX10 yX10_likes yX10_likes, Cond.code yX10_likes cX10_likes 6 (some .boolean), Cond.fieldLink RX10 26 "HalfLaddersModel" "pace" "[I", Cond.methodLink RX10 133 yX10_ladder, Cond.instanceMethod yX10_ladder, Cond.selects RX10 yX10_ladder yX10_ladder, Cond.code yX10_ladder cX10_ladder 3 (some .int)]
def wsX10_ask_r2 : List Cond := [Cond.fieldLink RX10 23 "HalfLaddersModel" "tall" "[I"]
def wsX10_ask : List Cond := .code yX10_ask cX10_ask 6 none :: ((wsX10_ask_r1 ++ wsX10_ask_r2) ++ wsX100)
def wsX10_asked_r1 : List Cond := [Cond.fieldLink RX10 60 "HalfLaddersModel" "with" "[I", Cond.methodLink RX10 122 yX10_isOne, Cond.instanceMethod yX10_isOne, Cond.selects RX10 yX10_isOne yX10_isOne, Cond.initialized RX10, Cond.code yX10_isOne cX10_isOne 2 (some .boolean), Cond.fieldLink RX10 13 "HalfLaddersModel" "people" "[I", Cond.methodLink RX10 72 yX10_in, Cond.static yX10_in, Cond.code yX10_in cX10_in 3 (some .boolean), Cond.methodLink RX10 184 yX10_ask, Cond.instanceMethod yX10_ask, Cond.selects RX10 yX10_ask yX10_ask, Cond.code yX10_ask cX10_ask 6 none, Cond.fieldLink RX10 63 "HalfLaddersModel" "turnedDown" "[I", Cond.fieldLink RX10 17 "HalfLaddersModel" "side" "[I", Cond.methodLink RX10 181 yX10_asksNext, Cond.instanceMethod yX10_asksNext, Cond.selects RX10 yX10_asksNext yX10_asksNext, Cond.code yX10_asksNext cX10_asksNext 5 (some .int), Cond.methodLink RX10 129 yX10_fits, Cond.instanceMethod yX10_fits, Cond.selects RX10 yX10_fits yX10_fits, Cond.code yX10_fits cX10_fits 3 (some .boolean)]
def wsX10_asked_r2 : List Cond := [Cond.fieldLink RX10 20 "HalfLaddersModel" "gap" "[I", Cond.fieldLink RX10 29 "HalfLaddersModel" "quarrel" "[Z", Cond.methodLink RX10 178 yX10_likes, Cond.instanceMethod yX10_likes, Cond.selects RX10 yX10_likes yX10_likes, Cond.code yX10_likes cX10_likes 6 (some .boolean), Cond.fieldLink RX10 26 "HalfLaddersModel" "pace" "[I", Cond.methodLink RX10 133 yX10_ladder, Cond.instanceMethod yX10_ladder, Cond.selects RX10 yX10_ladder yX10_ladder, Cond.code yX10_ladder cX10_ladder 3 (some .int), Cond.fieldLink RX10 23 "HalfLaddersModel" "tall" "[I"]
def wsX10_asked : List Cond := .code yX10_asked cX10_asked 2 (some .int) :: ((wsX10_asked_r1 ++ wsX10_asked_r2) ++ wsX100)
def wsX10_right : List Cond := .code yX10_right cX10_right 4 (some .int) :: ([.fieldLink RX10 13 "HalfLaddersModel" "people" "[I", .fieldLink RX10 17 "HalfLaddersModel" "side" "[I"] ++ wsX100)
def wsX10_pair : List Cond := .code yX10_pair cX10_pair 7 (some .boolean) :: ([.fieldLink RX10 13 "HalfLaddersModel" "people" "[I", .fieldLink RX10 60 "HalfLaddersModel" "with" "[I", .fieldLink RX10 17 "HalfLaddersModel" "side" "[I", .methodLink RX10 187 yX10_right, .instanceMethod yX10_right, .selects RX10 yX10_right yX10_right, .initialized RX10, .code yX10_right cX10_right 4 (some .int), .methodLink RX10 129 yX10_fits, .instanceMethod yX10_fits, .selects RX10 yX10_fits yX10_fits, .code yX10_fits cX10_fits 3 (some .boolean), .fieldLink RX10 20 "HalfLaddersModel" "gap" "[I", .fieldLink RX10 29 "HalfLaddersModel" "quarrel" "[Z"] ++ wsX100)
def wsX10_isRest : List Cond := .code yX10_isRest cX10_isRest 3 (some .boolean) :: ([.fieldLink RX10 13 "HalfLaddersModel" "people" "[I", .fieldLink RX10 60 "HalfLaddersModel" "with" "[I", .methodLink RX10 129 yX10_fits, .instanceMethod yX10_fits, .selects RX10 yX10_fits yX10_fits, .initialized RX10, .code yX10_fits cX10_fits 3 (some .boolean), .fieldLink RX10 17 "HalfLaddersModel" "side" "[I", .fieldLink RX10 20 "HalfLaddersModel" "gap" "[I", .fieldLink RX10 29 "HalfLaddersModel" "quarrel" "[Z", .methodLink RX10 178 yX10_likes, .instanceMethod yX10_likes, .selects RX10 yX10_likes yX10_likes, .code yX10_likes cX10_likes 6 (some .boolean), .fieldLink RX10 26 "HalfLaddersModel" "pace" "[I", .methodLink RX10 133 yX10_ladder, .instanceMethod yX10_ladder, .selects RX10 yX10_ladder yX10_ladder, .code yX10_ladder cX10_ladder 3 (some .int), .fieldLink RX10 23 "HalfLaddersModel" "tall" "[I"] ++ wsX100)
def wsX10_rests_r1 : List Cond := [Cond.fieldLink RX10 13 "HalfLaddersModel" "people" "[I", Cond.fieldLink RX10 17 "HalfLaddersModel" "side" "[I", Cond.methodLink RX10 190 yX10_pair, Cond.instanceMethod yX10_pair, Cond.selects RX10 yX10_pair yX10_pair, Cond.initialized RX10, Cond.code yX10_pair cX10_pair 7 (some .boolean), Cond.fieldLink RX10 60 "HalfLaddersModel" "with" "[I", Cond.methodLink RX10 187 yX10_right, Cond.instanceMethod yX10_right, Cond.selects RX10 yX10_right yX10_right, Cond.code yX10_right cX10_right 4 (some .int), Cond.methodLink RX10 129 yX10_fits, Cond.instanceMethod yX10_fits, Cond.selects RX10 yX10_fits yX10_fits, Cond.code yX10_fits cX10_fits 3 (some .boolean), Cond.fieldLink RX10 20 "HalfLaddersModel" "gap" "[I", Cond.fieldLink RX10 29 "HalfLaddersModel" "quarrel" "[Z", Cond.methodLink RX10 193 yX10_isRest, Cond.instanceMethod yX10_isRest, Cond.selects RX10 yX10_isRest yX10_isRest, Cond.code yX10_isRest cX10_isRest 3 (some .boolean), Cond.methodLink RX10 178 yX10_likes, Cond.instanceMethod yX10_likes]
def wsX10_rests_r2 : List Cond := [Cond.selects RX10 yX10_likes yX10_likes, Cond.code yX10_likes cX10_likes 6 (some .boolean), Cond.fieldLink RX10 26 "HalfLaddersModel" "pace" "[I", Cond.methodLink RX10 133 yX10_ladder, Cond.instanceMethod yX10_ladder, Cond.selects RX10 yX10_ladder yX10_ladder, Cond.code yX10_ladder cX10_ladder 3 (some .int), Cond.fieldLink RX10 23 "HalfLaddersModel" "tall" "[I"]
def wsX10_rests : List Cond := .code yX10_rests cX10_rests 5 (some .int) :: ((wsX10_rests_r1 ++ wsX10_rests_r2) ++ wsX100)
def wsX10_cutOne : List Cond := .code yX10_cutOne cX10_cutOne 7 none :: ([.fieldLink RX10 13 "HalfLaddersModel" "people" "[I", .fieldLink RX10 17 "HalfLaddersModel" "side" "[I", .fieldLink RX10 29 "HalfLaddersModel" "quarrel" "[Z", .fieldLink RX10 20 "HalfLaddersModel" "gap" "[I", .fieldLink RX10 66 "HalfLaddersModel" "fewest" "[I", .fieldLink RX10 69 "HalfLaddersModel" "then" "[I"] ++ wsX100)
def wsX10_cuts : List Cond := .code yX10_cuts cX10_cuts 4 (some .int) :: ([.fieldLink RX10 66 "HalfLaddersModel" "fewest" "[I", .fieldLink RX10 13 "HalfLaddersModel" "people" "[I", .fieldLink RX10 17 "HalfLaddersModel" "side" "[I", .fieldLink RX10 69 "HalfLaddersModel" "then" "[I", .methodLink RX10 72 yX10_in, .static yX10_in, .initialized RX10, .code yX10_in cX10_in 3 (some .boolean), .methodLink RX10 197 yX10_cutOne, .instanceMethod yX10_cutOne, .selects RX10 yX10_cutOne yX10_cutOne, .code yX10_cutOne cX10_cutOne 7 none, .fieldLink RX10 29 "HalfLaddersModel" "quarrel" "[Z", .fieldLink RX10 20 "HalfLaddersModel" "gap" "[I"] ++ wsX100)
def wsX10_whose : List Cond := .code yX10_whose cX10_whose 8 (some .int) :: ([.fieldLink RX10 13 "HalfLaddersModel" "people" "[I", .fieldLink RX10 17 "HalfLaddersModel" "side" "[I", .fieldLink RX10 20 "HalfLaddersModel" "gap" "[I", .methodLink RX10 72 yX10_in, .static yX10_in, .initialized RX10, .code yX10_in cX10_in 3 (some .boolean), .methodLink RX10 129 yX10_fits, .instanceMethod yX10_fits, .selects RX10 yX10_fits yX10_fits, .code yX10_fits cX10_fits 3 (some .boolean), .fieldLink RX10 29 "HalfLaddersModel" "quarrel" "[Z", .methodLink RX10 133 yX10_ladder, .instanceMethod yX10_ladder, .selects RX10 yX10_ladder yX10_ladder, .code yX10_ladder cX10_ladder 3 (some .int), .fieldLink RX10 23 "HalfLaddersModel" "tall" "[I"] ++ wsX100)
def wsX10_mark_r1 : List Cond := [Cond.constant RX10 200 (-1000000), Cond.fieldLink RX10 13 "HalfLaddersModel" "people" "[I", Cond.fieldLink RX10 201 "HalfLaddersModel" "trace" "J", Cond.fieldLink RX10 23 "HalfLaddersModel" "tall" "[I", Cond.constantLong RX10 205 (11), Cond.fieldLink RX10 20 "HalfLaddersModel" "gap" "[I", Cond.constantLong RX10 207 (101), Cond.constantLong RX10 209 (1011), Cond.fieldLink RX10 26 "HalfLaddersModel" "pace" "[I", Cond.constantLong RX10 211 (10101), Cond.constantLong RX10 213 (100001), Cond.fieldLink RX10 45 "HalfLaddersModel" "now" "[I", Cond.methodLink RX10 72 yX10_in, Cond.static yX10_in, Cond.initialized RX10, Cond.code yX10_in cX10_in 3 (some .boolean), Cond.methodLink RX10 122 yX10_isOne, Cond.instanceMethod yX10_isOne, Cond.selects RX10 yX10_isOne yX10_isOne, Cond.code yX10_isOne cX10_isOne 2 (some .boolean), Cond.methodLink RX10 129 yX10_fits, Cond.instanceMethod yX10_fits, Cond.selects RX10 yX10_fits yX10_fits, Cond.code yX10_fits cX10_fits 3 (some .boolean)]
def wsX10_mark_r2 : List Cond := [Cond.fieldLink RX10 17 "HalfLaddersModel" "side" "[I", Cond.fieldLink RX10 29 "HalfLaddersModel" "quarrel" "[Z"]
def wsX10_mark : List Cond := .code yX10_mark cX10_mark 5 (some .int) :: ((wsX10_mark_r1 ++ wsX10_mark_r2) ++ wsX100)
def wsX10_keep : List Cond := .code yX10_keep cX10_keep 2 (some .int) :: ([.fieldLink RX10 48 "HalfLaddersModel" "isKept" "[Z", .fieldLink RX10 45 "HalfLaddersModel" "now" "[I", .methodLink RX10 72 yX10_in, .static yX10_in, .initialized RX10, .code yX10_in cX10_in 3 (some .boolean), .methodLink RX10 162 yX10_copy, .instanceMethod yX10_copy, .selects RX10 yX10_copy yX10_copy, .code yX10_copy cX10_copy 4 none] ++ wsX100)
def wsX10_back : List Cond := .code yX10_back cX10_back 2 (some .int) :: ([.fieldLink RX10 48 "HalfLaddersModel" "isKept" "[Z", .fieldLink RX10 45 "HalfLaddersModel" "now" "[I", .methodLink RX10 72 yX10_in, .static yX10_in, .initialized RX10, .code yX10_in cX10_in 3 (some .boolean), .methodLink RX10 162 yX10_copy, .instanceMethod yX10_copy, .selects RX10 yX10_copy yX10_copy, .code yX10_copy cX10_copy 4 none] ++ wsX100)
def wsX10_count : List Cond := .code yX10_count cX10_count 4 (some .int) :: ([.fieldLink RX10 29 "HalfLaddersModel" "quarrel" "[Z", .fieldLink RX10 13 "HalfLaddersModel" "people" "[I", .fieldLink RX10 33 "HalfLaddersModel" "trees" "[I", .fieldLink RX10 76 "HalfLaddersModel" "typed" "I"] ++ wsX100)
def wsX10_trace : List Cond := .code yX10_trace cX10_trace 1 (some .long) :: ([.fieldLink RX10 201 "HalfLaddersModel" "trace" "J"] ++ wsX100)
def wsJ9_abs_0f7a4 : List Cond := .code yJ9_abs_0f7a4 cJ9_abs_0f7a4 1 (some .int) :: ([])
def wsJ9_max_7cf53 : List Cond := .code yJ9_max_7cf53 cJ9_max_7cf53 2 (some .int) :: ([])
def wsJ9_min_7cf53 : List Cond := .code yJ9_min_7cf53 cJ9_min_7cf53 2 (some .int) :: ([])
theorem inJx145de : ∀ w ∈ wsJx145de0, w ∈ lw_tbl := by decide +kernel
theorem inJx9f9b0 : ∀ w ∈ wsJx9f9b00, w ∈ lw_tbl := by decide +kernel
theorem inJxb160c : ∀ w ∈ wsJxb160c0, w ∈ lw_tbl := by decide +kernel
theorem inJ6 : ∀ w ∈ wsJ60, w ∈ lw_tbl := by decide +kernel
theorem inJ9 : ∀ w ∈ wsJ90, w ∈ lw_tbl := by decide +kernel
theorem inJ0 : ∀ w ∈ wsJ00, w ∈ lw_tbl := by decide +kernel
theorem inJ1 : ∀ w ∈ wsJ10, w ∈ lw_tbl := by decide +kernel
theorem inJ2 : ∀ w ∈ wsJ20, w ∈ lw_tbl := by decide +kernel
theorem inJxfd54e : ∀ w ∈ wsJxfd54e0, w ∈ lw_tbl := by decide +kernel
theorem inJx3cf43 : ∀ w ∈ wsJx3cf430, w ∈ lw_tbl := by decide +kernel
theorem inJ7 : ∀ w ∈ wsJ70, w ∈ lw_tbl := by decide +kernel
theorem inJ3 : ∀ w ∈ wsJ30, w ∈ lw_tbl := by decide +kernel
theorem dX0_init_0 : decode cX0_init 0 = .ok (.aload_n 0, 1) := by decide +kernel
theorem dX0_init_1 : decode cX0_init 1 = .ok (.invokespecial 3, 3) := by decide +kernel
theorem dX0_init_4 : decode cX0_init 4 = .ok (.aload_n 0, 1) := by decide +kernel
theorem dX0_init_5 : decode cX0_init 5 = .ok (.iconst 5, 1) := by decide +kernel
theorem dX0_init_6 : decode cX0_init 6 = .ok (.newarray .int, 2) := by decide +kernel
theorem dX0_init_8 : decode cX0_init 8 = .ok (.putfield 9, 3) := by decide +kernel
theorem dX0_init_11 : decode cX0_init 11 = .ok (.aload_n 0, 1) := by decide +kernel
theorem dX0_init_12 : decode cX0_init 12 = .ok (.sipush 256, 3) := by decide +kernel
theorem dX0_init_15 : decode cX0_init 15 = .ok (.newarray .int, 2) := by decide +kernel
theorem dX0_init_17 : decode cX0_init 17 = .ok (.putfield 15, 3) := by decide +kernel
theorem dX0_init_20 : decode cX0_init 20 = .ok (.return_, 1) := by decide +kernel
set_option maxRecDepth 20000 in
theorem ggX0_reckon_J7_fill_53178 : GoodIn wsX0_reckon wsJ7_fill_53178 := goodIn_r _ [6] (by decide +kernel) (by decide +kernel)
set_option maxRecDepth 20000 in
theorem gX0_reckon_J7_fill_53178 : GoodIn wsX0_reckon (va_wsS RX0 18 yJ7_fill_53178 wsJ7_fill_53178) := goodIn_app (goodIn_of _ (by decide +kernel)) ggX0_reckon_J7_fill_53178
set_option maxRecDepth 20000 in
theorem ggX0_reckon_X3_everybody : GoodIn wsX0_reckon wsX3_everybody := goodIn_r _ [11, 12, 53, 54, 55, 56, 57, 58, 59, 60, 61, 62] (by decide +kernel) (by decide +kernel)
set_option maxRecDepth 20000 in
theorem gX0_reckon_X3_everybody : GoodIn wsX0_reckon (wsV RX0 24 RX3 yX3_everybody wsX3_everybody) := goodIn_app (goodIn_of _ (by decide +kernel)) ggX0_reckon_X3_everybody
set_option maxRecDepth 20000 in
theorem ggX0_reckon_X0_fewestOf : GoodIn wsX0_reckon wsX0_fewestOf := goodIn_r _ [17, 18, 2, 19, 20, 21, 22, 23, 24, 25, 26, 27, 28, 29, 30, 31, 10, 32, 33, 34, 35, 36, 37, 38, 12, 39, 40, 16, 41, 42, 43, 44, 53, 54, 55, 56, 57, 58, 59, 60, 61, 62, 51, 52] (by decide +kernel) (by decide +kernel)
set_option maxRecDepth 20000 in
theorem gX0_reckon_X0_fewestOf : GoodIn wsX0_reckon (wsV RX0 30 RX0 yX0_fewestOf wsX0_fewestOf) := goodIn_app (goodIn_of _ (by decide +kernel)) ggX0_reckon_X0_fewestOf
set_option maxRecDepth 20000 in
theorem ggX0_reckon_J6_bitCount_0f7a4 : GoodIn wsX0_reckon wsJ6_bitCount_0f7a4 := goodIn_r _ [47, 48, 49, 50] (by decide +kernel) (by decide +kernel)
set_option maxRecDepth 20000 in
theorem gX0_reckon_J6_bitCount_0f7a4 : GoodIn wsX0_reckon (va_wsS RX0 34 yJ6_bitCount_0f7a4 wsJ6_bitCount_0f7a4) := goodIn_app (goodIn_of _ (by decide +kernel)) ggX0_reckon_J6_bitCount_0f7a4
set_option maxRecDepth 20000 in
theorem ggX0_reckon_X0_fewer : GoodIn wsX0_reckon wsX0_fewer := goodIn_r _ [41, 42, 43, 22, 44] (by decide +kernel) (by decide +kernel)
set_option maxRecDepth 20000 in
theorem gX0_reckon_X0_fewer : GoodIn wsX0_reckon (va_wsS RX0 40 yX0_fewer wsX0_fewer) := goodIn_app (goodIn_of _ (by decide +kernel)) ggX0_reckon_X0_fewer
theorem dX0_reckon_0 : decode cX0_reckon 0 = .ok (.aload_n 0, 1) := by decide +kernel
theorem dX0_reckon_1 : decode cX0_reckon 1 = .ok (.getfield 9, 3) := by decide +kernel
theorem dX0_reckon_4 : decode cX0_reckon 4 = .ok (.bipush (-9), 2) := by decide +kernel
theorem dX0_reckon_6 : decode cX0_reckon 6 = .ok (.invokestatic 18, 3) := by decide +kernel
theorem dX0_reckon_9 : decode cX0_reckon 9 = .ok (.aload_n 0, 1) := by decide +kernel
theorem dX0_reckon_10 : decode cX0_reckon 10 = .ok (.getfield 15, 3) := by decide +kernel
theorem dX0_reckon_13 : decode cX0_reckon 13 = .ok (.iconst 0, 1) := by decide +kernel
theorem dX0_reckon_14 : decode cX0_reckon 14 = .ok (.iconst 0, 1) := by decide +kernel
theorem dX0_reckon_15 : decode cX0_reckon 15 = .ok (.iastore, 1) := by decide +kernel
theorem dX0_reckon_16 : decode cX0_reckon 16 = .ok (.iconst 1, 1) := by decide +kernel
theorem dX0_reckon_17 : decode cX0_reckon 17 = .ok (.istore_n 2, 1) := by decide +kernel
theorem dX0_reckon_18 : decode cX0_reckon 18 = .ok (.iload_n 2, 1) := by decide +kernel
theorem dX0_reckon_19 : decode cX0_reckon 19 = .ok (.aload_n 1, 1) := by decide +kernel
theorem dX0_reckon_20 : decode cX0_reckon 20 = .ok (.invokevirtual 24, 3) := by decide +kernel
theorem dX0_reckon_23 : decode cX0_reckon 23 = .ok (.if_icmp .gt 64, 3) := by decide +kernel
theorem dX0_reckon_26 : decode cX0_reckon 26 = .ok (.aload_n 0, 1) := by decide +kernel
theorem dX0_reckon_27 : decode cX0_reckon 27 = .ok (.getfield 15, 3) := by decide +kernel
theorem dX0_reckon_30 : decode cX0_reckon 30 = .ok (.iload_n 2, 1) := by decide +kernel
theorem dX0_reckon_31 : decode cX0_reckon 31 = .ok (.aload_n 0, 1) := by decide +kernel
theorem dX0_reckon_32 : decode cX0_reckon 32 = .ok (.aload_n 1, 1) := by decide +kernel
theorem dX0_reckon_33 : decode cX0_reckon 33 = .ok (.iload_n 2, 1) := by decide +kernel
theorem dX0_reckon_34 : decode cX0_reckon 34 = .ok (.invokevirtual 30, 3) := by decide +kernel
theorem dX0_reckon_37 : decode cX0_reckon 37 = .ok (.iastore, 1) := by decide +kernel
theorem dX0_reckon_38 : decode cX0_reckon 38 = .ok (.iload_n 2, 1) := by decide +kernel
theorem dX0_reckon_39 : decode cX0_reckon 39 = .ok (.invokestatic 34, 3) := by decide +kernel
theorem dX0_reckon_42 : decode cX0_reckon 42 = .ok (.istore_n 3, 1) := by decide +kernel
theorem dX0_reckon_43 : decode cX0_reckon 43 = .ok (.iload_n 3, 1) := by decide +kernel
theorem dX0_reckon_44 : decode cX0_reckon 44 = .ok (.iconst 2, 1) := by decide +kernel
theorem dX0_reckon_45 : decode cX0_reckon 45 = .ok (.irem, 1) := by decide +kernel
theorem dX0_reckon_46 : decode cX0_reckon 46 = .ok (.ifCond .ne 35, 3) := by decide +kernel
theorem dX0_reckon_49 : decode cX0_reckon 49 = .ok (.iload_n 3, 1) := by decide +kernel
theorem dX0_reckon_50 : decode cX0_reckon 50 = .ok (.iconst 2, 1) := by decide +kernel
theorem dX0_reckon_51 : decode cX0_reckon 51 = .ok (.idiv, 1) := by decide +kernel
theorem dX0_reckon_52 : decode cX0_reckon 52 = .ok (.iconst 4, 1) := by decide +kernel
theorem dX0_reckon_53 : decode cX0_reckon 53 = .ok (.if_icmp .gt 28, 3) := by decide +kernel
theorem dX0_reckon_56 : decode cX0_reckon 56 = .ok (.aload_n 0, 1) := by decide +kernel
theorem dX0_reckon_57 : decode cX0_reckon 57 = .ok (.getfield 9, 3) := by decide +kernel
theorem dX0_reckon_60 : decode cX0_reckon 60 = .ok (.iload_n 3, 1) := by decide +kernel
theorem dX0_reckon_61 : decode cX0_reckon 61 = .ok (.iconst 2, 1) := by decide +kernel
theorem dX0_reckon_62 : decode cX0_reckon 62 = .ok (.idiv, 1) := by decide +kernel
theorem dX0_reckon_63 : decode cX0_reckon 63 = .ok (.aload_n 0, 1) := by decide +kernel
theorem dX0_reckon_64 : decode cX0_reckon 64 = .ok (.getfield 9, 3) := by decide +kernel
theorem dX0_reckon_67 : decode cX0_reckon 67 = .ok (.iload_n 3, 1) := by decide +kernel
theorem dX0_reckon_68 : decode cX0_reckon 68 = .ok (.iconst 2, 1) := by decide +kernel
theorem dX0_reckon_69 : decode cX0_reckon 69 = .ok (.idiv, 1) := by decide +kernel
theorem dX0_reckon_70 : decode cX0_reckon 70 = .ok (.iaload, 1) := by decide +kernel
theorem dX0_reckon_71 : decode cX0_reckon 71 = .ok (.aload_n 0, 1) := by decide +kernel
theorem dX0_reckon_72 : decode cX0_reckon 72 = .ok (.getfield 15, 3) := by decide +kernel
theorem dX0_reckon_75 : decode cX0_reckon 75 = .ok (.iload_n 2, 1) := by decide +kernel
theorem dX0_reckon_76 : decode cX0_reckon 76 = .ok (.iaload, 1) := by decide +kernel
theorem dX0_reckon_77 : decode cX0_reckon 77 = .ok (.invokestatic 40, 3) := by decide +kernel
theorem dX0_reckon_80 : decode cX0_reckon 80 = .ok (.iastore, 1) := by decide +kernel
theorem dX0_reckon_81 : decode cX0_reckon 81 = .ok (.iinc 2 1, 3) := by decide +kernel
theorem dX0_reckon_84 : decode cX0_reckon 84 = .ok (.goto (-66), 3) := by decide +kernel
theorem dX0_reckon_87 : decode cX0_reckon 87 = .ok (.return_, 1) := by decide +kernel
set_option maxRecDepth 20000 in
theorem ggX0_fewestOf_J6_numberOfTrailingZeros_0f7a4 : GoodIn wsX0_fewestOf wsJ6_numberOfTrailingZeros_0f7a4 := goodIn_r _ [11, 12] (by decide +kernel) (by decide +kernel)
set_option maxRecDepth 20000 in
theorem gX0_fewestOf_J6_numberOfTrailingZeros_0f7a4 : GoodIn wsX0_fewestOf (va_wsS RX0 44 yJ6_numberOfTrailingZeros_0f7a4 wsJ6_numberOfTrailingZeros_0f7a4) := goodIn_app (goodIn_of _ (by decide +kernel)) ggX0_fewestOf_J6_numberOfTrailingZeros_0f7a4
set_option maxRecDepth 20000 in
theorem ggX0_fewestOf_X3_couldFit : GoodIn wsX0_fewestOf wsX3_couldFit := goodIn_r _ [17, 18, 19, 20, 21, 22, 16, 23, 24, 32, 33, 34, 35, 36, 37, 38, 39, 40, 41] (by decide +kernel) (by decide +kernel)
set_option maxRecDepth 20000 in
theorem gX0_fewestOf_X3_couldFit : GoodIn wsX0_fewestOf (wsV RX0 51 RX3 yX3_couldFit wsX3_couldFit) := goodIn_app (goodIn_of _ (by decide +kernel)) ggX0_fewestOf_X3_couldFit
set_option maxRecDepth 20000 in
theorem ggX0_fewestOf_X0_fewer : GoodIn wsX0_fewestOf wsX0_fewer := goodIn_r _ [28, 29, 30, 6, 31] (by decide +kernel) (by decide +kernel)
set_option maxRecDepth 20000 in
theorem gX0_fewestOf_X0_fewer : GoodIn wsX0_fewestOf (va_wsS RX0 40 yX0_fewer wsX0_fewer) := goodIn_app (goodIn_of _ (by decide +kernel)) ggX0_fewestOf_X0_fewer
theorem dX0_fewestOf_0 : decode cX0_fewestOf 0 = .ok (.bipush (-9), 2) := by decide +kernel
theorem dX0_fewestOf_2 : decode cX0_fewestOf 2 = .ok (.istore_n 3, 1) := by decide +kernel
theorem dX0_fewestOf_3 : decode cX0_fewestOf 3 = .ok (.iload_n 2, 1) := by decide +kernel
theorem dX0_fewestOf_4 : decode cX0_fewestOf 4 = .ok (.invokestatic 44, 3) := by decide +kernel
theorem dX0_fewestOf_7 : decode cX0_fewestOf 7 = .ok (.istore 4, 2) := by decide +kernel
theorem dX0_fewestOf_9 : decode cX0_fewestOf 9 = .ok (.iload 4, 2) := by decide +kernel
theorem dX0_fewestOf_11 : decode cX0_fewestOf 11 = .ok (.iconst 1, 1) := by decide +kernel
theorem dX0_fewestOf_12 : decode cX0_fewestOf 12 = .ok (.iadd, 1) := by decide +kernel
theorem dX0_fewestOf_13 : decode cX0_fewestOf 13 = .ok (.istore 5, 2) := by decide +kernel
theorem dX0_fewestOf_15 : decode cX0_fewestOf 15 = .ok (.iload 5, 2) := by decide +kernel
theorem dX0_fewestOf_17 : decode cX0_fewestOf 17 = .ok (.aload_n 1, 1) := by decide +kernel
theorem dX0_fewestOf_18 : decode cX0_fewestOf 18 = .ok (.getfield 47, 3) := by decide +kernel
theorem dX0_fewestOf_21 : decode cX0_fewestOf 21 = .ok (.if_icmp .ge 87, 3) := by decide +kernel
theorem dX0_fewestOf_24 : decode cX0_fewestOf 24 = .ok (.iload_n 2, 1) := by decide +kernel
theorem dX0_fewestOf_25 : decode cX0_fewestOf 25 = .ok (.iconst 1, 1) := by decide +kernel
theorem dX0_fewestOf_26 : decode cX0_fewestOf 26 = .ok (.iload 4, 2) := by decide +kernel
theorem dX0_fewestOf_28 : decode cX0_fewestOf 28 = .ok (.ishl, 1) := by decide +kernel
theorem dX0_fewestOf_29 : decode cX0_fewestOf 29 = .ok (.iconst 1, 1) := by decide +kernel
theorem dX0_fewestOf_30 : decode cX0_fewestOf 30 = .ok (.iload 5, 2) := by decide +kernel
theorem dX0_fewestOf_32 : decode cX0_fewestOf 32 = .ok (.ishl, 1) := by decide +kernel
theorem dX0_fewestOf_33 : decode cX0_fewestOf 33 = .ok (.ior, 1) := by decide +kernel
theorem dX0_fewestOf_34 : decode cX0_fewestOf 34 = .ok (.iconst (-1), 1) := by decide +kernel
theorem dX0_fewestOf_35 : decode cX0_fewestOf 35 = .ok (.ixor, 1) := by decide +kernel
theorem dX0_fewestOf_36 : decode cX0_fewestOf 36 = .ok (.iand, 1) := by decide +kernel
theorem dX0_fewestOf_37 : decode cX0_fewestOf 37 = .ok (.istore 6, 2) := by decide +kernel
theorem dX0_fewestOf_39 : decode cX0_fewestOf 39 = .ok (.iload_n 2, 1) := by decide +kernel
theorem dX0_fewestOf_40 : decode cX0_fewestOf 40 = .ok (.iload 5, 2) := by decide +kernel
theorem dX0_fewestOf_42 : decode cX0_fewestOf 42 = .ok (.ishr, 1) := by decide +kernel
theorem dX0_fewestOf_43 : decode cX0_fewestOf 43 = .ok (.iconst 1, 1) := by decide +kernel
theorem dX0_fewestOf_44 : decode cX0_fewestOf 44 = .ok (.iand, 1) := by decide +kernel
theorem dX0_fewestOf_45 : decode cX0_fewestOf 45 = .ok (.ifCond .eq 57, 3) := by decide +kernel
theorem dX0_fewestOf_48 : decode cX0_fewestOf 48 = .ok (.aload_n 1, 1) := by decide +kernel
theorem dX0_fewestOf_49 : decode cX0_fewestOf 49 = .ok (.iload 4, 2) := by decide +kernel
theorem dX0_fewestOf_51 : decode cX0_fewestOf 51 = .ok (.iload 5, 2) := by decide +kernel
theorem dX0_fewestOf_53 : decode cX0_fewestOf 53 = .ok (.invokevirtual 51, 3) := by decide +kernel
theorem dX0_fewestOf_56 : decode cX0_fewestOf 56 = .ok (.ifCond .eq 46, 3) := by decide +kernel
theorem dX0_fewestOf_59 : decode cX0_fewestOf 59 = .ok (.aload_n 0, 1) := by decide +kernel
theorem dX0_fewestOf_60 : decode cX0_fewestOf 60 = .ok (.getfield 15, 3) := by decide +kernel
theorem dX0_fewestOf_63 : decode cX0_fewestOf 63 = .ok (.iload 6, 2) := by decide +kernel
theorem dX0_fewestOf_65 : decode cX0_fewestOf 65 = .ok (.iaload, 1) := by decide +kernel
theorem dX0_fewestOf_66 : decode cX0_fewestOf 66 = .ok (.bipush (-9), 2) := by decide +kernel
theorem dX0_fewestOf_68 : decode cX0_fewestOf 68 = .ok (.if_icmp .eq 34, 3) := by decide +kernel
theorem dX0_fewestOf_71 : decode cX0_fewestOf 71 = .ok (.iload_n 3, 1) := by decide +kernel
theorem dX0_fewestOf_72 : decode cX0_fewestOf 72 = .ok (.aload_n 0, 1) := by decide +kernel
theorem dX0_fewestOf_73 : decode cX0_fewestOf 73 = .ok (.getfield 15, 3) := by decide +kernel
theorem dX0_fewestOf_76 : decode cX0_fewestOf 76 = .ok (.iload 6, 2) := by decide +kernel
end
section
theorem dX0_fewestOf_78 : decode cX0_fewestOf 78 = .ok (.iaload, 1) := by decide +kernel
theorem dX0_fewestOf_79 : decode cX0_fewestOf 79 = .ok (.aload_n 1, 1) := by decide +kernel
theorem dX0_fewestOf_80 : decode cX0_fewestOf 80 = .ok (.getfield 55, 3) := by decide +kernel
theorem dX0_fewestOf_83 : decode cX0_fewestOf 83 = .ok (.iload 4, 2) := by decide +kernel
theorem dX0_fewestOf_85 : decode cX0_fewestOf 85 = .ok (.iaload, 1) := by decide +kernel
theorem dX0_fewestOf_86 : decode cX0_fewestOf 86 = .ok (.aload_n 1, 1) := by decide +kernel
theorem dX0_fewestOf_87 : decode cX0_fewestOf 87 = .ok (.getfield 55, 3) := by decide +kernel
theorem dX0_fewestOf_90 : decode cX0_fewestOf 90 = .ok (.iload 5, 2) := by decide +kernel
theorem dX0_fewestOf_92 : decode cX0_fewestOf 92 = .ok (.iaload, 1) := by decide +kernel
theorem dX0_fewestOf_93 : decode cX0_fewestOf 93 = .ok (.isub, 1) := by decide +kernel
theorem dX0_fewestOf_94 : decode cX0_fewestOf 94 = .ok (.invokestatic 58, 3) := by decide +kernel
theorem dX0_fewestOf_97 : decode cX0_fewestOf 97 = .ok (.iadd, 1) := by decide +kernel
theorem dX0_fewestOf_98 : decode cX0_fewestOf 98 = .ok (.invokestatic 40, 3) := by decide +kernel
theorem dX0_fewestOf_101 : decode cX0_fewestOf 101 = .ok (.istore_n 3, 1) := by decide +kernel
theorem dX0_fewestOf_102 : decode cX0_fewestOf 102 = .ok (.iinc 5 1, 3) := by decide +kernel
theorem dX0_fewestOf_105 : decode cX0_fewestOf 105 = .ok (.goto (-90), 3) := by decide +kernel
theorem dX0_fewestOf_108 : decode cX0_fewestOf 108 = .ok (.iload_n 3, 1) := by decide +kernel
theorem dX0_fewestOf_109 : decode cX0_fewestOf 109 = .ok (.ireturn, 1) := by decide +kernel
theorem dX0_fewer_0 : decode cX0_fewer 0 = .ok (.iload_n 0, 1) := by decide +kernel
theorem dX0_fewer_1 : decode cX0_fewer 1 = .ok (.bipush (-9), 2) := by decide +kernel
theorem dX0_fewer_3 : decode cX0_fewer 3 = .ok (.if_icmp .ne 5, 3) := by decide +kernel
theorem dX0_fewer_6 : decode cX0_fewer 6 = .ok (.iload_n 1, 1) := by decide +kernel
theorem dX0_fewer_7 : decode cX0_fewer 7 = .ok (.ireturn, 1) := by decide +kernel
theorem dX0_fewer_8 : decode cX0_fewer 8 = .ok (.iload_n 1, 1) := by decide +kernel
theorem dX0_fewer_9 : decode cX0_fewer 9 = .ok (.bipush (-9), 2) := by decide +kernel
theorem dX0_fewer_11 : decode cX0_fewer 11 = .ok (.if_icmp .ne 7, 3) := by decide +kernel
theorem dX0_fewer_14 : decode cX0_fewer 14 = .ok (.iload_n 0, 1) := by decide +kernel
theorem dX0_fewer_15 : decode cX0_fewer 15 = .ok (.goto 8, 3) := by decide +kernel
theorem dX0_fewer_18 : decode cX0_fewer 18 = .ok (.iload_n 0, 1) := by decide +kernel
theorem dX0_fewer_19 : decode cX0_fewer 19 = .ok (.iload_n 1, 1) := by decide +kernel
theorem dX0_fewer_20 : decode cX0_fewer 20 = .ok (.invokestatic 63, 3) := by decide +kernel
theorem dX0_fewer_23 : decode cX0_fewer 23 = .ok (.ireturn, 1) := by decide +kernel
theorem dX1_init_0 : decode cX1_init 0 = .ok (.aload_n 0, 1) := by decide +kernel
theorem dX1_init_1 : decode cX1_init 1 = .ok (.invokespecial 3, 3) := by decide +kernel
theorem dX1_init_4 : decode cX1_init 4 = .ok (.aload_n 0, 1) := by decide +kernel
theorem dX1_init_5 : decode cX1_init 5 = .ok (.bipush 8, 2) := by decide +kernel
theorem dX1_init_7 : decode cX1_init 7 = .ok (.bipush 8, 2) := by decide +kernel
theorem dX1_init_9 : decode cX1_init 9 = .ok (.multianewarray 9 2, 4) := by decide +kernel
theorem dX1_init_13 : decode cX1_init 13 = .ok (.putfield 11, 3) := by decide +kernel
theorem dX1_init_16 : decode cX1_init 16 = .ok (.aload_n 0, 1) := by decide +kernel
theorem dX1_init_17 : decode cX1_init 17 = .ok (.bipush 8, 2) := by decide +kernel
theorem dX1_init_19 : decode cX1_init 19 = .ok (.newarray .int, 2) := by decide +kernel
theorem dX1_init_21 : decode cX1_init 21 = .ok (.putfield 16, 3) := by decide +kernel
theorem dX1_init_24 : decode cX1_init 24 = .ok (.aload_n 0, 1) := by decide +kernel
theorem dX1_init_25 : decode cX1_init 25 = .ok (.bipush 8, 2) := by decide +kernel
theorem dX1_init_27 : decode cX1_init 27 = .ok (.newarray .int, 2) := by decide +kernel
theorem dX1_init_29 : decode cX1_init 29 = .ok (.putfield 20, 3) := by decide +kernel
theorem dX1_init_32 : decode cX1_init 32 = .ok (.aload_n 0, 1) := by decide +kernel
theorem dX1_init_33 : decode cX1_init 33 = .ok (.bipush 8, 2) := by decide +kernel
theorem dX1_init_35 : decode cX1_init 35 = .ok (.newarray .int, 2) := by decide +kernel
theorem dX1_init_37 : decode cX1_init 37 = .ok (.putfield 23, 3) := by decide +kernel
theorem dX1_init_40 : decode cX1_init 40 = .ok (.aload_n 0, 1) := by decide +kernel
theorem dX1_init_41 : decode cX1_init 41 = .ok (.iconst 1, 1) := by decide +kernel
theorem dX1_init_42 : decode cX1_init 42 = .ok (.putfield 26, 3) := by decide +kernel
theorem dX1_init_45 : decode cX1_init 45 = .ok (.return_, 1) := by decide +kernel
set_option maxRecDepth 20000 in
theorem ggX1_reckon_J7_fill_53178 : GoodIn wsX1_reckon wsJ7_fill_53178 := goodIn_r _ [13] (by decide +kernel) (by decide +kernel)
set_option maxRecDepth 20000 in
theorem gX1_reckon_J7_fill_53178 : GoodIn wsX1_reckon (va_wsS RX1 30 yJ7_fill_53178 wsJ7_fill_53178) := goodIn_app (goodIn_of _ (by decide +kernel)) ggX1_reckon_J7_fill_53178
set_option maxRecDepth 20000 in
theorem ggX1_reckon_X1_askAll : GoodIn wsX1_reckon wsX1_askAll := goodIn_r _ [18, 19, 2, 20, 7, 10, 11, 12, 13, 21, 22, 23, 17, 24, 1, 25, 26, 27, 28, 41, 42, 43, 44, 45, 46, 47, 48, 49, 50, 51, 52, 53] (by decide +kernel) (by decide +kernel)
set_option maxRecDepth 20000 in
theorem gX1_reckon_X1_askAll : GoodIn wsX1_reckon (wsV RX1 55 RX1 yX1_askAll wsX1_askAll) := goodIn_app (goodIn_of _ (by decide +kernel)) ggX1_reckon_X1_askAll
set_option maxRecDepth 20000 in
theorem ggX1_reckon_X9_restsFrom : GoodIn wsX1_reckon wsX9_restsFrom := goodIn_r _ [31, 32, 33, 34, 35, 36, 37, 38, 17, 39, 2, 3, 4, 25, 26, 27, 28, 7, 1, 40, 29, 30, 46, 47, 48, 49, 50, 51, 52, 53, 41, 42, 43, 44, 45] (by decide +kernel) (by decide +kernel)
set_option maxRecDepth 20000 in
theorem gX1_reckon_X9_restsFrom_n59 : GoodIn wsX1_reckon (wsX9_restsFrom) := ggX1_reckon_X9_restsFrom
theorem dX1_reckon_0 : decode cX1_reckon 0 = .ok (.iconst 0, 1) := by decide +kernel
theorem dX1_reckon_1 : decode cX1_reckon 1 = .ok (.istore_n 3, 1) := by decide +kernel
theorem dX1_reckon_2 : decode cX1_reckon 2 = .ok (.iload_n 3, 1) := by decide +kernel
theorem dX1_reckon_3 : decode cX1_reckon 3 = .ok (.bipush 8, 2) := by decide +kernel
theorem dX1_reckon_5 : decode cX1_reckon 5 = .ok (.if_icmp .ge 19, 3) := by decide +kernel
theorem dX1_reckon_8 : decode cX1_reckon 8 = .ok (.aload_n 0, 1) := by decide +kernel
theorem dX1_reckon_9 : decode cX1_reckon 9 = .ok (.getfield 11, 3) := by decide +kernel
theorem dX1_reckon_12 : decode cX1_reckon 12 = .ok (.iload_n 3, 1) := by decide +kernel
theorem dX1_reckon_13 : decode cX1_reckon 13 = .ok (.aaload, 1) := by decide +kernel
theorem dX1_reckon_14 : decode cX1_reckon 14 = .ok (.iconst 0, 1) := by decide +kernel
theorem dX1_reckon_15 : decode cX1_reckon 15 = .ok (.invokestatic 30, 3) := by decide +kernel
theorem dX1_reckon_18 : decode cX1_reckon 18 = .ok (.iinc 3 1, 3) := by decide +kernel
theorem dX1_reckon_21 : decode cX1_reckon 21 = .ok (.goto (-19), 3) := by decide +kernel
theorem dX1_reckon_24 : decode cX1_reckon 24 = .ok (.iconst 0, 1) := by decide +kernel
theorem dX1_reckon_25 : decode cX1_reckon 25 = .ok (.istore_n 3, 1) := by decide +kernel
theorem dX1_reckon_26 : decode cX1_reckon 26 = .ok (.iload_n 3, 1) := by decide +kernel
theorem dX1_reckon_27 : decode cX1_reckon 27 = .ok (.aload_n 2, 1) := by decide +kernel
theorem dX1_reckon_28 : decode cX1_reckon 28 = .ok (.getfield 36, 3) := by decide +kernel
theorem dX1_reckon_31 : decode cX1_reckon 31 = .ok (.if_icmp .ge 97, 3) := by decide +kernel
theorem dX1_reckon_34 : decode cX1_reckon 34 = .ok (.aload_n 2, 1) := by decide +kernel
theorem dX1_reckon_35 : decode cX1_reckon 35 = .ok (.getfield 41, 3) := by decide +kernel
theorem dX1_reckon_38 : decode cX1_reckon 38 = .ok (.iload_n 3, 1) := by decide +kernel
theorem dX1_reckon_39 : decode cX1_reckon 39 = .ok (.iaload, 1) := by decide +kernel
theorem dX1_reckon_40 : decode cX1_reckon 40 = .ok (.istore 4, 2) := by decide +kernel
theorem dX1_reckon_42 : decode cX1_reckon 42 = .ok (.aload_n 2, 1) := by decide +kernel
theorem dX1_reckon_43 : decode cX1_reckon 43 = .ok (.getfield 44, 3) := by decide +kernel
theorem dX1_reckon_46 : decode cX1_reckon 46 = .ok (.iload_n 3, 1) := by decide +kernel
theorem dX1_reckon_47 : decode cX1_reckon 47 = .ok (.iaload, 1) := by decide +kernel
theorem dX1_reckon_48 : decode cX1_reckon 48 = .ok (.istore 5, 2) := by decide +kernel
theorem dX1_reckon_50 : decode cX1_reckon 50 = .ok (.aload_n 0, 1) := by decide +kernel
theorem dX1_reckon_51 : decode cX1_reckon 51 = .ok (.getfield 11, 3) := by decide +kernel
theorem dX1_reckon_54 : decode cX1_reckon 54 = .ok (.iload 4, 2) := by decide +kernel
theorem dX1_reckon_56 : decode cX1_reckon 56 = .ok (.aaload, 1) := by decide +kernel
theorem dX1_reckon_57 : decode cX1_reckon 57 = .ok (.iload 5, 2) := by decide +kernel
theorem dX1_reckon_59 : decode cX1_reckon 59 = .ok (.bipush 100, 2) := by decide +kernel
theorem dX1_reckon_61 : decode cX1_reckon 61 = .ok (.aload_n 2, 1) := by decide +kernel
theorem dX1_reckon_62 : decode cX1_reckon 62 = .ok (.getfield 47, 3) := by decide +kernel
theorem dX1_reckon_65 : decode cX1_reckon 65 = .ok (.iload_n 3, 1) := by decide +kernel
theorem dX1_reckon_66 : decode cX1_reckon 66 = .ok (.iaload, 1) := by decide +kernel
theorem dX1_reckon_67 : decode cX1_reckon 67 = .ok (.imul, 1) := by decide +kernel
theorem dX1_reckon_68 : decode cX1_reckon 68 = .ok (.bipush 10, 2) := by decide +kernel
theorem dX1_reckon_70 : decode cX1_reckon 70 = .ok (.aload_n 1, 1) := by decide +kernel
theorem dX1_reckon_71 : decode cX1_reckon 71 = .ok (.getfield 50, 3) := by decide +kernel
theorem dX1_reckon_74 : decode cX1_reckon 74 = .ok (.iload 5, 2) := by decide +kernel
theorem dX1_reckon_76 : decode cX1_reckon 76 = .ok (.iaload, 1) := by decide +kernel
theorem dX1_reckon_77 : decode cX1_reckon 77 = .ok (.imul, 1) := by decide +kernel
theorem dX1_reckon_78 : decode cX1_reckon 78 = .ok (.iadd, 1) := by decide +kernel
theorem dX1_reckon_79 : decode cX1_reckon 79 = .ok (.bipush 8, 2) := by decide +kernel
theorem dX1_reckon_81 : decode cX1_reckon 81 = .ok (.iadd, 1) := by decide +kernel
theorem dX1_reckon_82 : decode cX1_reckon 82 = .ok (.iload 5, 2) := by decide +kernel
theorem dX1_reckon_84 : decode cX1_reckon 84 = .ok (.isub, 1) := by decide +kernel
theorem dX1_reckon_85 : decode cX1_reckon 85 = .ok (.iastore, 1) := by decide +kernel
theorem dX1_reckon_86 : decode cX1_reckon 86 = .ok (.aload_n 0, 1) := by decide +kernel
theorem dX1_reckon_87 : decode cX1_reckon 87 = .ok (.getfield 11, 3) := by decide +kernel
theorem dX1_reckon_90 : decode cX1_reckon 90 = .ok (.iload 5, 2) := by decide +kernel
theorem dX1_reckon_92 : decode cX1_reckon 92 = .ok (.aaload, 1) := by decide +kernel
theorem dX1_reckon_93 : decode cX1_reckon 93 = .ok (.iload 4, 2) := by decide +kernel
theorem dX1_reckon_95 : decode cX1_reckon 95 = .ok (.bipush 100, 2) := by decide +kernel
theorem dX1_reckon_97 : decode cX1_reckon 97 = .ok (.aload_n 2, 1) := by decide +kernel
theorem dX1_reckon_98 : decode cX1_reckon 98 = .ok (.getfield 47, 3) := by decide +kernel
theorem dX1_reckon_101 : decode cX1_reckon 101 = .ok (.iload_n 3, 1) := by decide +kernel
theorem dX1_reckon_102 : decode cX1_reckon 102 = .ok (.iaload, 1) := by decide +kernel
theorem dX1_reckon_103 : decode cX1_reckon 103 = .ok (.imul, 1) := by decide +kernel
theorem dX1_reckon_104 : decode cX1_reckon 104 = .ok (.bipush 10, 2) := by decide +kernel
theorem dX1_reckon_106 : decode cX1_reckon 106 = .ok (.aload_n 1, 1) := by decide +kernel
theorem dX1_reckon_107 : decode cX1_reckon 107 = .ok (.getfield 50, 3) := by decide +kernel
theorem dX1_reckon_110 : decode cX1_reckon 110 = .ok (.iload 4, 2) := by decide +kernel
theorem dX1_reckon_112 : decode cX1_reckon 112 = .ok (.iaload, 1) := by decide +kernel
theorem dX1_reckon_113 : decode cX1_reckon 113 = .ok (.imul, 1) := by decide +kernel
theorem dX1_reckon_114 : decode cX1_reckon 114 = .ok (.iadd, 1) := by decide +kernel
theorem dX1_reckon_115 : decode cX1_reckon 115 = .ok (.bipush 8, 2) := by decide +kernel
theorem dX1_reckon_117 : decode cX1_reckon 117 = .ok (.iadd, 1) := by decide +kernel
theorem dX1_reckon_118 : decode cX1_reckon 118 = .ok (.iload 4, 2) := by decide +kernel
theorem dX1_reckon_120 : decode cX1_reckon 120 = .ok (.isub, 1) := by decide +kernel
theorem dX1_reckon_121 : decode cX1_reckon 121 = .ok (.iastore, 1) := by decide +kernel
theorem dX1_reckon_122 : decode cX1_reckon 122 = .ok (.iinc 3 1, 3) := by decide +kernel
theorem dX1_reckon_125 : decode cX1_reckon 125 = .ok (.goto (-99), 3) := by decide +kernel
theorem dX1_reckon_128 : decode cX1_reckon 128 = .ok (.aload_n 0, 1) := by decide +kernel
theorem dX1_reckon_129 : decode cX1_reckon 129 = .ok (.getfield 20, 3) := by decide +kernel
theorem dX1_reckon_132 : decode cX1_reckon 132 = .ok (.iconst (-1), 1) := by decide +kernel
theorem dX1_reckon_133 : decode cX1_reckon 133 = .ok (.invokestatic 30, 3) := by decide +kernel
theorem dX1_reckon_136 : decode cX1_reckon 136 = .ok (.aload_n 0, 1) := by decide +kernel
theorem dX1_reckon_137 : decode cX1_reckon 137 = .ok (.aload_n 2, 1) := by decide +kernel
theorem dX1_reckon_138 : decode cX1_reckon 138 = .ok (.invokevirtual 55, 3) := by decide +kernel
theorem dX1_reckon_141 : decode cX1_reckon 141 = .ok (.iconst 0, 1) := by decide +kernel
theorem dX1_reckon_142 : decode cX1_reckon 142 = .ok (.istore_n 3, 1) := by decide +kernel
theorem dX1_reckon_143 : decode cX1_reckon 143 = .ok (.iload_n 3, 1) := by decide +kernel
theorem dX1_reckon_144 : decode cX1_reckon 144 = .ok (.bipush 8, 2) := by decide +kernel
theorem dX1_reckon_146 : decode cX1_reckon 146 = .ok (.if_icmp .ge 36, 3) := by decide +kernel
theorem dX1_reckon_149 : decode cX1_reckon 149 = .ok (.aload_n 0, 1) := by decide +kernel
theorem dX1_reckon_150 : decode cX1_reckon 150 = .ok (.getfield 16, 3) := by decide +kernel
theorem dX1_reckon_153 : decode cX1_reckon 153 = .ok (.iload_n 3, 1) := by decide +kernel
theorem dX1_reckon_154 : decode cX1_reckon 154 = .ok (.aload_n 0, 1) := by decide +kernel
theorem dX1_reckon_155 : decode cX1_reckon 155 = .ok (.getfield 20, 3) := by decide +kernel
theorem dX1_reckon_158 : decode cX1_reckon 158 = .ok (.iload_n 3, 1) := by decide +kernel
theorem dX1_reckon_159 : decode cX1_reckon 159 = .ok (.iaload, 1) := by decide +kernel
theorem dX1_reckon_160 : decode cX1_reckon 160 = .ok (.iconst (-1), 1) := by decide +kernel
theorem dX1_reckon_161 : decode cX1_reckon 161 = .ok (.if_icmp .ne 8, 3) := by decide +kernel
theorem dX1_reckon_164 : decode cX1_reckon 164 = .ok (.bipush (-9), 2) := by decide +kernel
theorem dX1_reckon_166 : decode cX1_reckon 166 = .ok (.goto 9, 3) := by decide +kernel
theorem dX1_reckon_169 : decode cX1_reckon 169 = .ok (.aload_n 0, 1) := by decide +kernel
theorem dX1_reckon_170 : decode cX1_reckon 170 = .ok (.getfield 20, 3) := by decide +kernel
theorem dX1_reckon_173 : decode cX1_reckon 173 = .ok (.iload_n 3, 1) := by decide +kernel
theorem dX1_reckon_174 : decode cX1_reckon 174 = .ok (.iaload, 1) := by decide +kernel
theorem dX1_reckon_175 : decode cX1_reckon 175 = .ok (.iastore, 1) := by decide +kernel
theorem dX1_reckon_176 : decode cX1_reckon 176 = .ok (.iinc 3 1, 3) := by decide +kernel
theorem dX1_reckon_179 : decode cX1_reckon 179 = .ok (.goto (-36), 3) := by decide +kernel
theorem dX1_reckon_182 : decode cX1_reckon 182 = .ok (.aload_n 0, 1) := by decide +kernel
theorem dX1_reckon_183 : decode cX1_reckon 183 = .ok (.getfield 20, 3) := by decide +kernel
theorem dX1_reckon_186 : decode cX1_reckon 186 = .ok (.iconst (-1), 1) := by decide +kernel
theorem dX1_reckon_187 : decode cX1_reckon 187 = .ok (.invokestatic 30, 3) := by decide +kernel
theorem dX1_reckon_190 : decode cX1_reckon 190 = .ok (.aload_n 0, 1) := by decide +kernel
theorem dX1_reckon_191 : decode cX1_reckon 191 = .ok (.aload_n 0, 1) := by decide +kernel
theorem dX1_reckon_192 : decode cX1_reckon 192 = .ok (.aload_n 2, 1) := by decide +kernel
theorem dX1_reckon_193 : decode cX1_reckon 193 = .ok (.iconst 0, 1) := by decide +kernel
theorem dX1_reckon_194 : decode cX1_reckon 194 = .ok (.invokestatic 59, 3) := by decide +kernel
theorem dX1_reckon_197 : decode cX1_reckon 197 = .ok (.putfield 26, 3) := by decide +kernel
theorem dX1_reckon_200 : decode cX1_reckon 200 = .ok (.return_, 1) := by decide +kernel
set_option maxRecDepth 20000 in
theorem ggX1_askAll_J7_fill_53178 : GoodIn wsX1_askAll wsJ7_fill_53178 := goodIn_r _ [8] (by decide +kernel) (by decide +kernel)
set_option maxRecDepth 20000 in
theorem gX1_askAll_J7_fill_53178 : GoodIn wsX1_askAll (va_wsS RX1 30 yJ7_fill_53178 wsJ7_fill_53178) := goodIn_app (goodIn_of _ (by decide +kernel)) ggX1_askAll_J7_fill_53178
set_option maxRecDepth 20000 in
theorem ggX1_askAll_X1_askNext : GoodIn wsX1_askAll wsX1_askNext := goodIn_r _ [13, 1, 14, 4, 15, 16, 17, 12, 18, 19, 20, 21, 22, 23] (by decide +kernel) (by decide +kernel)
set_option maxRecDepth 20000 in
theorem gX1_askAll_X1_askNext : GoodIn wsX1_askAll (wsV RX1 66 RX1 yX1_askNext wsX1_askNext) := goodIn_app (goodIn_of _ (by decide +kernel)) ggX1_askAll_X1_askNext
theorem dX1_askAll_0 : decode cX1_askAll 0 = .ok (.aload_n 0, 1) := by decide +kernel
theorem dX1_askAll_1 : decode cX1_askAll 1 = .ok (.getfield 23, 3) := by decide +kernel
theorem dX1_askAll_4 : decode cX1_askAll 4 = .ok (.iconst 0, 1) := by decide +kernel
theorem dX1_askAll_5 : decode cX1_askAll 5 = .ok (.invokestatic 30, 3) := by decide +kernel
theorem dX1_askAll_8 : decode cX1_askAll 8 = .ok (.iconst 0, 1) := by decide +kernel
theorem dX1_askAll_9 : decode cX1_askAll 9 = .ok (.istore_n 2, 1) := by decide +kernel
theorem dX1_askAll_10 : decode cX1_askAll 10 = .ok (.iload_n 2, 1) := by decide +kernel
theorem dX1_askAll_11 : decode cX1_askAll 11 = .ok (.aload_n 1, 1) := by decide +kernel
theorem dX1_askAll_12 : decode cX1_askAll 12 = .ok (.getfield 36, 3) := by decide +kernel
theorem dX1_askAll_15 : decode cX1_askAll 15 = .ok (.if_icmp .gt 49, 3) := by decide +kernel
theorem dX1_askAll_18 : decode cX1_askAll 18 = .ok (.iconst 0, 1) := by decide +kernel
theorem dX1_askAll_19 : decode cX1_askAll 19 = .ok (.istore_n 3, 1) := by decide +kernel
theorem dX1_askAll_20 : decode cX1_askAll 20 = .ok (.iload_n 3, 1) := by decide +kernel
theorem dX1_askAll_21 : decode cX1_askAll 21 = .ok (.bipush 8, 2) := by decide +kernel
theorem dX1_askAll_23 : decode cX1_askAll 23 = .ok (.if_icmp .ge 35, 3) := by decide +kernel
theorem dX1_askAll_26 : decode cX1_askAll 26 = .ok (.aload_n 1, 1) := by decide +kernel
theorem dX1_askAll_27 : decode cX1_askAll 27 = .ok (.getfield 63, 3) := by decide +kernel
theorem dX1_askAll_30 : decode cX1_askAll 30 = .ok (.iload_n 3, 1) := by decide +kernel
theorem dX1_askAll_31 : decode cX1_askAll 31 = .ok (.ishr, 1) := by decide +kernel
theorem dX1_askAll_32 : decode cX1_askAll 32 = .ok (.iconst 1, 1) := by decide +kernel
theorem dX1_askAll_33 : decode cX1_askAll 33 = .ok (.iand, 1) := by decide +kernel
theorem dX1_askAll_34 : decode cX1_askAll 34 = .ok (.ifCond .eq 18, 3) := by decide +kernel
theorem dX1_askAll_37 : decode cX1_askAll 37 = .ok (.aload_n 0, 1) := by decide +kernel
theorem dX1_askAll_38 : decode cX1_askAll 38 = .ok (.getfield 20, 3) := by decide +kernel
theorem dX1_askAll_41 : decode cX1_askAll 41 = .ok (.iload_n 3, 1) := by decide +kernel
theorem dX1_askAll_42 : decode cX1_askAll 42 = .ok (.iaload, 1) := by decide +kernel
theorem dX1_askAll_43 : decode cX1_askAll 43 = .ok (.iconst (-1), 1) := by decide +kernel
theorem dX1_askAll_44 : decode cX1_askAll 44 = .ok (.if_icmp .ne 8, 3) := by decide +kernel
theorem dX1_askAll_47 : decode cX1_askAll 47 = .ok (.aload_n 0, 1) := by decide +kernel
theorem dX1_askAll_48 : decode cX1_askAll 48 = .ok (.iload_n 3, 1) := by decide +kernel
theorem dX1_askAll_49 : decode cX1_askAll 49 = .ok (.invokevirtual 66, 3) := by decide +kernel
theorem dX1_askAll_52 : decode cX1_askAll 52 = .ok (.iinc 3 1, 3) := by decide +kernel
theorem dX1_askAll_55 : decode cX1_askAll 55 = .ok (.goto (-35), 3) := by decide +kernel
theorem dX1_askAll_58 : decode cX1_askAll 58 = .ok (.iinc 2 1, 3) := by decide +kernel
theorem dX1_askAll_61 : decode cX1_askAll 61 = .ok (.goto (-51), 3) := by decide +kernel
theorem dX1_askAll_64 : decode cX1_askAll 64 = .ok (.return_, 1) := by decide +kernel
set_option maxRecDepth 20000 in
theorem ggX1_askNext_X1_ratherHas : GoodIn wsX1_askNext wsX1_ratherHas := goodIn_r _ [8, 3, 2, 9, 10, 11, 12, 13] (by decide +kernel) (by decide +kernel)
set_option maxRecDepth 20000 in
theorem gX1_askNext_X1_ratherHas : GoodIn wsX1_askNext (wsV RX1 70 RX1 yX1_ratherHas wsX1_ratherHas) := goodIn_app (goodIn_of _ (by decide +kernel)) ggX1_askNext_X1_ratherHas
theorem dX1_askNext_0 : decode cX1_askNext 0 = .ok (.iconst (-1), 1) := by decide +kernel
theorem dX1_askNext_1 : decode cX1_askNext 1 = .ok (.istore_n 2, 1) := by decide +kernel
theorem dX1_askNext_2 : decode cX1_askNext 2 = .ok (.iconst 0, 1) := by decide +kernel
theorem dX1_askNext_3 : decode cX1_askNext 3 = .ok (.istore_n 3, 1) := by decide +kernel
theorem dX1_askNext_4 : decode cX1_askNext 4 = .ok (.iload_n 3, 1) := by decide +kernel
theorem dX1_askNext_5 : decode cX1_askNext 5 = .ok (.bipush 8, 2) := by decide +kernel
theorem dX1_askNext_7 : decode cX1_askNext 7 = .ok (.if_icmp .ge 59, 3) := by decide +kernel
theorem dX1_askNext_10 : decode cX1_askNext 10 = .ok (.aload_n 0, 1) := by decide +kernel
theorem dX1_askNext_11 : decode cX1_askNext 11 = .ok (.getfield 23, 3) := by decide +kernel
theorem dX1_askNext_14 : decode cX1_askNext 14 = .ok (.iload_n 1, 1) := by decide +kernel
theorem dX1_askNext_15 : decode cX1_askNext 15 = .ok (.iaload, 1) := by decide +kernel
theorem dX1_askNext_16 : decode cX1_askNext 16 = .ok (.iload_n 3, 1) := by decide +kernel
theorem dX1_askNext_17 : decode cX1_askNext 17 = .ok (.ishr, 1) := by decide +kernel
theorem dX1_askNext_18 : decode cX1_askNext 18 = .ok (.iconst 1, 1) := by decide +kernel
theorem dX1_askNext_19 : decode cX1_askNext 19 = .ok (.iand, 1) := by decide +kernel
theorem dX1_askNext_20 : decode cX1_askNext 20 = .ok (.ifCond .ne 40, 3) := by decide +kernel
theorem dX1_askNext_23 : decode cX1_askNext 23 = .ok (.aload_n 0, 1) := by decide +kernel
theorem dX1_askNext_24 : decode cX1_askNext 24 = .ok (.getfield 11, 3) := by decide +kernel
theorem dX1_askNext_27 : decode cX1_askNext 27 = .ok (.iload_n 1, 1) := by decide +kernel
theorem dX1_askNext_28 : decode cX1_askNext 28 = .ok (.aaload, 1) := by decide +kernel
theorem dX1_askNext_29 : decode cX1_askNext 29 = .ok (.iload_n 3, 1) := by decide +kernel
theorem dX1_askNext_30 : decode cX1_askNext 30 = .ok (.iaload, 1) := by decide +kernel
theorem dX1_askNext_31 : decode cX1_askNext 31 = .ok (.ifCond .le 29, 3) := by decide +kernel
theorem dX1_askNext_34 : decode cX1_askNext 34 = .ok (.iload_n 2, 1) := by decide +kernel
theorem dX1_askNext_35 : decode cX1_askNext 35 = .ok (.iconst (-1), 1) := by decide +kernel
theorem dX1_askNext_36 : decode cX1_askNext 36 = .ok (.if_icmp .eq 22, 3) := by decide +kernel
theorem dX1_askNext_39 : decode cX1_askNext 39 = .ok (.aload_n 0, 1) := by decide +kernel
theorem dX1_askNext_40 : decode cX1_askNext 40 = .ok (.getfield 11, 3) := by decide +kernel
theorem dX1_askNext_43 : decode cX1_askNext 43 = .ok (.iload_n 1, 1) := by decide +kernel
theorem dX1_askNext_44 : decode cX1_askNext 44 = .ok (.aaload, 1) := by decide +kernel
theorem dX1_askNext_45 : decode cX1_askNext 45 = .ok (.iload_n 3, 1) := by decide +kernel
theorem dX1_askNext_46 : decode cX1_askNext 46 = .ok (.iaload, 1) := by decide +kernel
theorem dX1_askNext_47 : decode cX1_askNext 47 = .ok (.aload_n 0, 1) := by decide +kernel
theorem dX1_askNext_48 : decode cX1_askNext 48 = .ok (.getfield 11, 3) := by decide +kernel
theorem dX1_askNext_51 : decode cX1_askNext 51 = .ok (.iload_n 1, 1) := by decide +kernel
theorem dX1_askNext_52 : decode cX1_askNext 52 = .ok (.aaload, 1) := by decide +kernel
theorem dX1_askNext_53 : decode cX1_askNext 53 = .ok (.iload_n 2, 1) := by decide +kernel
theorem dX1_askNext_54 : decode cX1_askNext 54 = .ok (.iaload, 1) := by decide +kernel
theorem dX1_askNext_55 : decode cX1_askNext 55 = .ok (.if_icmp .le 5, 3) := by decide +kernel
theorem dX1_askNext_58 : decode cX1_askNext 58 = .ok (.iload_n 3, 1) := by decide +kernel
theorem dX1_askNext_59 : decode cX1_askNext 59 = .ok (.istore_n 2, 1) := by decide +kernel
theorem dX1_askNext_60 : decode cX1_askNext 60 = .ok (.iinc 3 1, 3) := by decide +kernel
theorem dX1_askNext_63 : decode cX1_askNext 63 = .ok (.goto (-59), 3) := by decide +kernel
theorem dX1_askNext_66 : decode cX1_askNext 66 = .ok (.iload_n 2, 1) := by decide +kernel
theorem dX1_askNext_67 : decode cX1_askNext 67 = .ok (.iconst (-1), 1) := by decide +kernel
theorem dX1_askNext_68 : decode cX1_askNext 68 = .ok (.if_icmp .ne 4, 3) := by decide +kernel
theorem dX1_askNext_71 : decode cX1_askNext 71 = .ok (.return_, 1) := by decide +kernel
theorem dX1_askNext_72 : decode cX1_askNext 72 = .ok (.aload_n 0, 1) := by decide +kernel
theorem dX1_askNext_73 : decode cX1_askNext 73 = .ok (.getfield 23, 3) := by decide +kernel
theorem dX1_askNext_76 : decode cX1_askNext 76 = .ok (.iload_n 1, 1) := by decide +kernel
theorem dX1_askNext_77 : decode cX1_askNext 77 = .ok (.dup2, 1) := by decide +kernel
theorem dX1_askNext_78 : decode cX1_askNext 78 = .ok (.iaload, 1) := by decide +kernel
theorem dX1_askNext_79 : decode cX1_askNext 79 = .ok (.iconst 1, 1) := by decide +kernel
theorem dX1_askNext_80 : decode cX1_askNext 80 = .ok (.iload_n 2, 1) := by decide +kernel
theorem dX1_askNext_81 : decode cX1_askNext 81 = .ok (.ishl, 1) := by decide +kernel
theorem dX1_askNext_82 : decode cX1_askNext 82 = .ok (.ior, 1) := by decide +kernel
theorem dX1_askNext_83 : decode cX1_askNext 83 = .ok (.iastore, 1) := by decide +kernel
theorem dX1_askNext_84 : decode cX1_askNext 84 = .ok (.aload_n 0, 1) := by decide +kernel
theorem dX1_askNext_85 : decode cX1_askNext 85 = .ok (.iload_n 2, 1) := by decide +kernel
theorem dX1_askNext_86 : decode cX1_askNext 86 = .ok (.iload_n 1, 1) := by decide +kernel
theorem dX1_askNext_87 : decode cX1_askNext 87 = .ok (.invokevirtual 70, 3) := by decide +kernel
theorem dX1_askNext_90 : decode cX1_askNext 90 = .ok (.ifCond .eq 36, 3) := by decide +kernel
theorem dX1_askNext_93 : decode cX1_askNext 93 = .ok (.aload_n 0, 1) := by decide +kernel
theorem dX1_askNext_94 : decode cX1_askNext 94 = .ok (.getfield 20, 3) := by decide +kernel
theorem dX1_askNext_97 : decode cX1_askNext 97 = .ok (.iload_n 2, 1) := by decide +kernel
theorem dX1_askNext_98 : decode cX1_askNext 98 = .ok (.iaload, 1) := by decide +kernel
theorem dX1_askNext_99 : decode cX1_askNext 99 = .ok (.istore_n 3, 1) := by decide +kernel
theorem dX1_askNext_100 : decode cX1_askNext 100 = .ok (.iload_n 3, 1) := by decide +kernel
theorem dX1_askNext_101 : decode cX1_askNext 101 = .ok (.iconst (-1), 1) := by decide +kernel
theorem dX1_askNext_102 : decode cX1_askNext 102 = .ok (.if_icmp .eq 10, 3) := by decide +kernel
theorem dX1_askNext_105 : decode cX1_askNext 105 = .ok (.aload_n 0, 1) := by decide +kernel
theorem dX1_askNext_106 : decode cX1_askNext 106 = .ok (.getfield 20, 3) := by decide +kernel
theorem dX1_askNext_109 : decode cX1_askNext 109 = .ok (.iload_n 3, 1) := by decide +kernel
theorem dX1_askNext_110 : decode cX1_askNext 110 = .ok (.iconst (-1), 1) := by decide +kernel
theorem dX1_askNext_111 : decode cX1_askNext 111 = .ok (.iastore, 1) := by decide +kernel
theorem dX1_askNext_112 : decode cX1_askNext 112 = .ok (.aload_n 0, 1) := by decide +kernel
theorem dX1_askNext_113 : decode cX1_askNext 113 = .ok (.getfield 20, 3) := by decide +kernel
theorem dX1_askNext_116 : decode cX1_askNext 116 = .ok (.iload_n 2, 1) := by decide +kernel
theorem dX1_askNext_117 : decode cX1_askNext 117 = .ok (.iload_n 1, 1) := by decide +kernel
theorem dX1_askNext_118 : decode cX1_askNext 118 = .ok (.iastore, 1) := by decide +kernel
theorem dX1_askNext_119 : decode cX1_askNext 119 = .ok (.aload_n 0, 1) := by decide +kernel
theorem dX1_askNext_120 : decode cX1_askNext 120 = .ok (.getfield 20, 3) := by decide +kernel
theorem dX1_askNext_123 : decode cX1_askNext 123 = .ok (.iload_n 1, 1) := by decide +kernel
theorem dX1_askNext_124 : decode cX1_askNext 124 = .ok (.iload_n 2, 1) := by decide +kernel
theorem dX1_askNext_125 : decode cX1_askNext 125 = .ok (.iastore, 1) := by decide +kernel
theorem dX1_askNext_126 : decode cX1_askNext 126 = .ok (.return_, 1) := by decide +kernel
theorem dX1_ratherHas_0 : decode cX1_ratherHas 0 = .ok (.aload_n 0, 1) := by decide +kernel
theorem dX1_ratherHas_1 : decode cX1_ratherHas 1 = .ok (.getfield 20, 3) := by decide +kernel
theorem dX1_ratherHas_4 : decode cX1_ratherHas 4 = .ok (.iload_n 1, 1) := by decide +kernel
theorem dX1_ratherHas_5 : decode cX1_ratherHas 5 = .ok (.iaload, 1) := by decide +kernel
theorem dX1_ratherHas_6 : decode cX1_ratherHas 6 = .ok (.istore_n 3, 1) := by decide +kernel
theorem dX1_ratherHas_7 : decode cX1_ratherHas 7 = .ok (.aload_n 0, 1) := by decide +kernel
theorem dX1_ratherHas_8 : decode cX1_ratherHas 8 = .ok (.getfield 11, 3) := by decide +kernel
theorem dX1_ratherHas_11 : decode cX1_ratherHas 11 = .ok (.iload_n 1, 1) := by decide +kernel
theorem dX1_ratherHas_12 : decode cX1_ratherHas 12 = .ok (.aaload, 1) := by decide +kernel
theorem dX1_ratherHas_13 : decode cX1_ratherHas 13 = .ok (.iload_n 2, 1) := by decide +kernel
theorem dX1_ratherHas_14 : decode cX1_ratherHas 14 = .ok (.iaload, 1) := by decide +kernel
theorem dX1_ratherHas_15 : decode cX1_ratherHas 15 = .ok (.iload_n 3, 1) := by decide +kernel
theorem dX1_ratherHas_16 : decode cX1_ratherHas 16 = .ok (.iconst (-1), 1) := by decide +kernel
theorem dX1_ratherHas_17 : decode cX1_ratherHas 17 = .ok (.if_icmp .ne 7, 3) := by decide +kernel
theorem dX1_ratherHas_20 : decode cX1_ratherHas 20 = .ok (.iconst 0, 1) := by decide +kernel
theorem dX1_ratherHas_21 : decode cX1_ratherHas 21 = .ok (.goto 11, 3) := by decide +kernel
theorem dX1_ratherHas_24 : decode cX1_ratherHas 24 = .ok (.aload_n 0, 1) := by decide +kernel
theorem dX1_ratherHas_25 : decode cX1_ratherHas 25 = .ok (.getfield 11, 3) := by decide +kernel
theorem dX1_ratherHas_28 : decode cX1_ratherHas 28 = .ok (.iload_n 1, 1) := by decide +kernel
theorem dX1_ratherHas_29 : decode cX1_ratherHas 29 = .ok (.aaload, 1) := by decide +kernel
theorem dX1_ratherHas_30 : decode cX1_ratherHas 30 = .ok (.iload_n 3, 1) := by decide +kernel
theorem dX1_ratherHas_31 : decode cX1_ratherHas 31 = .ok (.iaload, 1) := by decide +kernel
theorem dX1_ratherHas_32 : decode cX1_ratherHas 32 = .ok (.if_icmp .le 7, 3) := by decide +kernel
theorem dX1_ratherHas_35 : decode cX1_ratherHas 35 = .ok (.iconst 1, 1) := by decide +kernel
theorem dX1_ratherHas_36 : decode cX1_ratherHas 36 = .ok (.goto 4, 3) := by decide +kernel
theorem dX1_ratherHas_39 : decode cX1_ratherHas 39 = .ok (.iconst 0, 1) := by decide +kernel
theorem dX1_ratherHas_40 : decode cX1_ratherHas 40 = .ok (.ireturn, 1) := by decide +kernel
set_option maxRecDepth 20000 in
theorem ggX1_isRest_X1_ratherHas : GoodIn wsX1_isRest wsX1_ratherHas := goodIn_r _ [8, 9, 10, 19, 20, 21, 22, 23] (by decide +kernel) (by decide +kernel)
set_option maxRecDepth 20000 in
theorem gX1_isRest_X1_ratherHas : GoodIn wsX1_isRest (wsV RX1 70 RX1 yX1_ratherHas wsX1_ratherHas) := goodIn_app (goodIn_of _ (by decide +kernel)) ggX1_isRest_X1_ratherHas
theorem dX1_isRest_0 : decode cX1_isRest 0 = .ok (.iconst 0, 1) := by decide +kernel
theorem dX1_isRest_1 : decode cX1_isRest 1 = .ok (.istore_n 2, 1) := by decide +kernel
theorem dX1_isRest_2 : decode cX1_isRest 2 = .ok (.iload_n 2, 1) := by decide +kernel
theorem dX1_isRest_3 : decode cX1_isRest 3 = .ok (.aload_n 1, 1) := by decide +kernel
theorem dX1_isRest_4 : decode cX1_isRest 4 = .ok (.getfield 36, 3) := by decide +kernel
theorem dX1_isRest_7 : decode cX1_isRest 7 = .ok (.if_icmp .ge 46, 3) := by decide +kernel
theorem dX1_isRest_10 : decode cX1_isRest 10 = .ok (.aload_n 1, 1) := by decide +kernel
theorem dX1_isRest_11 : decode cX1_isRest 11 = .ok (.getfield 41, 3) := by decide +kernel
theorem dX1_isRest_14 : decode cX1_isRest 14 = .ok (.iload_n 2, 1) := by decide +kernel
theorem dX1_isRest_15 : decode cX1_isRest 15 = .ok (.iaload, 1) := by decide +kernel
theorem dX1_isRest_16 : decode cX1_isRest 16 = .ok (.istore_n 3, 1) := by decide +kernel
theorem dX1_isRest_17 : decode cX1_isRest 17 = .ok (.aload_n 1, 1) := by decide +kernel
theorem dX1_isRest_18 : decode cX1_isRest 18 = .ok (.getfield 44, 3) := by decide +kernel
theorem dX1_isRest_21 : decode cX1_isRest 21 = .ok (.iload_n 2, 1) := by decide +kernel
theorem dX1_isRest_22 : decode cX1_isRest 22 = .ok (.iaload, 1) := by decide +kernel
theorem dX1_isRest_23 : decode cX1_isRest 23 = .ok (.istore 4, 2) := by decide +kernel
theorem dX1_isRest_25 : decode cX1_isRest 25 = .ok (.aload_n 0, 1) := by decide +kernel
theorem dX1_isRest_26 : decode cX1_isRest 26 = .ok (.iload_n 3, 1) := by decide +kernel
theorem dX1_isRest_27 : decode cX1_isRest 27 = .ok (.iload 4, 2) := by decide +kernel
theorem dX1_isRest_29 : decode cX1_isRest 29 = .ok (.invokevirtual 70, 3) := by decide +kernel
theorem dX1_isRest_32 : decode cX1_isRest 32 = .ok (.ifCond .eq 15, 3) := by decide +kernel
theorem dX1_isRest_35 : decode cX1_isRest 35 = .ok (.aload_n 0, 1) := by decide +kernel
theorem dX1_isRest_36 : decode cX1_isRest 36 = .ok (.iload 4, 2) := by decide +kernel
theorem dX1_isRest_38 : decode cX1_isRest 38 = .ok (.iload_n 3, 1) := by decide +kernel
theorem dX1_isRest_39 : decode cX1_isRest 39 = .ok (.invokevirtual 70, 3) := by decide +kernel
theorem dX1_isRest_42 : decode cX1_isRest 42 = .ok (.ifCond .eq 5, 3) := by decide +kernel
theorem dX1_isRest_45 : decode cX1_isRest 45 = .ok (.iconst 0, 1) := by decide +kernel
theorem dX1_isRest_46 : decode cX1_isRest 46 = .ok (.ireturn, 1) := by decide +kernel
theorem dX1_isRest_47 : decode cX1_isRest 47 = .ok (.iinc 2 1, 3) := by decide +kernel
theorem dX1_isRest_50 : decode cX1_isRest 50 = .ok (.goto (-48), 3) := by decide +kernel
theorem dX1_isRest_53 : decode cX1_isRest 53 = .ok (.iconst 1, 1) := by decide +kernel
theorem dX1_isRest_54 : decode cX1_isRest 54 = .ok (.ireturn, 1) := by decide +kernel
theorem dX2_init_0 : decode cX2_init 0 = .ok (.aload_n 0, 1) := by decide +kernel
theorem dX2_init_1 : decode cX2_init 1 = .ok (.invokespecial 3, 3) := by decide +kernel
theorem dX2_init_4 : decode cX2_init 4 = .ok (.aload_n 0, 1) := by decide +kernel
theorem dX2_init_5 : decode cX2_init 5 = .ok (.iconst 0, 1) := by decide +kernel
theorem dX2_init_6 : decode cX2_init 6 = .ok (.putfield 9, 3) := by decide +kernel
theorem dX2_init_9 : decode cX2_init 9 = .ok (.aload_n 0, 1) := by decide +kernel
theorem dX2_init_10 : decode cX2_init 10 = .ok (.iconst 0, 1) := by decide +kernel
theorem dX2_init_11 : decode cX2_init 11 = .ok (.putfield 15, 3) := by decide +kernel
theorem dX2_init_14 : decode cX2_init 14 = .ok (.aload_n 0, 1) := by decide +kernel
theorem dX2_init_15 : decode cX2_init 15 = .ok (.iconst 0, 1) := by decide +kernel
theorem dX2_init_16 : decode cX2_init 16 = .ok (.putfield 18, 3) := by decide +kernel
theorem dX2_init_19 : decode cX2_init 19 = .ok (.aload_n 0, 1) := by decide +kernel
theorem dX2_init_20 : decode cX2_init 20 = .ok (.iconst 0, 1) := by decide +kernel
theorem dX2_init_21 : decode cX2_init 21 = .ok (.putfield 21, 3) := by decide +kernel
theorem dX2_init_24 : decode cX2_init 24 = .ok (.aload_n 0, 1) := by decide +kernel
theorem dX2_init_25 : decode cX2_init 25 = .ok (.iconst 0, 1) := by decide +kernel
theorem dX2_init_26 : decode cX2_init 26 = .ok (.putfield 24, 3) := by decide +kernel
theorem dX2_init_29 : decode cX2_init 29 = .ok (.aload_n 0, 1) := by decide +kernel
theorem dX2_init_30 : decode cX2_init 30 = .ok (.iconst 0, 1) := by decide +kernel
theorem dX2_init_31 : decode cX2_init 31 = .ok (.putfield 27, 3) := by decide +kernel
theorem dX2_init_34 : decode cX2_init 34 = .ok (.aload_n 0, 1) := by decide +kernel
theorem dX2_init_35 : decode cX2_init 35 = .ok (.iconst 5, 1) := by decide +kernel
theorem dX2_init_36 : decode cX2_init 36 = .ok (.newarray .int, 2) := by decide +kernel
theorem dX2_init_38 : decode cX2_init 38 = .ok (.putfield 30, 3) := by decide +kernel
theorem dX2_init_41 : decode cX2_init 41 = .ok (.return_, 1) := by decide +kernel
theorem dX2_begin_0 : decode cX2_begin 0 = .ok (.aload_n 0, 1) := by decide +kernel
theorem dX2_begin_1 : decode cX2_begin 1 = .ok (.iconst 0, 1) := by decide +kernel
theorem dX2_begin_2 : decode cX2_begin 2 = .ok (.putfield 9, 3) := by decide +kernel
theorem dX2_begin_5 : decode cX2_begin 5 = .ok (.aload_n 0, 1) := by decide +kernel
theorem dX2_begin_6 : decode cX2_begin 6 = .ok (.iconst 0, 1) := by decide +kernel
theorem dX2_begin_7 : decode cX2_begin 7 = .ok (.putfield 15, 3) := by decide +kernel
theorem dX2_begin_10 : decode cX2_begin 10 = .ok (.aload_n 0, 1) := by decide +kernel
theorem dX2_begin_11 : decode cX2_begin 11 = .ok (.iconst 0, 1) := by decide +kernel
theorem dX2_begin_12 : decode cX2_begin 12 = .ok (.putfield 18, 3) := by decide +kernel
theorem dX2_begin_15 : decode cX2_begin 15 = .ok (.aload_n 0, 1) := by decide +kernel
theorem dX2_begin_16 : decode cX2_begin 16 = .ok (.iconst 0, 1) := by decide +kernel
theorem dX2_begin_17 : decode cX2_begin 17 = .ok (.putfield 21, 3) := by decide +kernel
theorem dX2_begin_20 : decode cX2_begin 20 = .ok (.aload_n 0, 1) := by decide +kernel
theorem dX2_begin_21 : decode cX2_begin 21 = .ok (.iconst 0, 1) := by decide +kernel
theorem dX2_begin_22 : decode cX2_begin 22 = .ok (.putfield 24, 3) := by decide +kernel
theorem dX2_begin_25 : decode cX2_begin 25 = .ok (.return_, 1) := by decide +kernel
theorem dX2_bearAsTold_0 : decode cX2_bearAsTold 0 = .ok (.iconst 0, 1) := by decide +kernel
theorem dX2_bearAsTold_1 : decode cX2_bearAsTold 1 = .ok (.istore_n 2, 1) := by decide +kernel
theorem dX2_bearAsTold_2 : decode cX2_bearAsTold 2 = .ok (.iload_n 2, 1) := by decide +kernel
theorem dX2_bearAsTold_3 : decode cX2_bearAsTold 3 = .ok (.aload_n 1, 1) := by decide +kernel
theorem dX2_bearAsTold_4 : decode cX2_bearAsTold 4 = .ok (.getfield 34, 3) := by decide +kernel
theorem dX2_bearAsTold_7 : decode cX2_bearAsTold 7 = .ok (.if_icmp .ge 21, 3) := by decide +kernel
theorem dX2_bearAsTold_10 : decode cX2_bearAsTold 10 = .ok (.aload_n 0, 1) := by decide +kernel
theorem dX2_bearAsTold_11 : decode cX2_bearAsTold 11 = .ok (.getfield 30, 3) := by decide +kernel
theorem dX2_bearAsTold_14 : decode cX2_bearAsTold 14 = .ok (.iload_n 2, 1) := by decide +kernel
theorem dX2_bearAsTold_15 : decode cX2_bearAsTold 15 = .ok (.aload_n 1, 1) := by decide +kernel
theorem dX2_bearAsTold_16 : decode cX2_bearAsTold 16 = .ok (.getfield 39, 3) := by decide +kernel
theorem dX2_bearAsTold_19 : decode cX2_bearAsTold 19 = .ok (.iload_n 2, 1) := by decide +kernel
theorem dX2_bearAsTold_20 : decode cX2_bearAsTold 20 = .ok (.iaload, 1) := by decide +kernel
theorem dX2_bearAsTold_21 : decode cX2_bearAsTold 21 = .ok (.iastore, 1) := by decide +kernel
theorem dX2_bearAsTold_22 : decode cX2_bearAsTold 22 = .ok (.iinc 2 1, 3) := by decide +kernel
theorem dX2_bearAsTold_25 : decode cX2_bearAsTold 25 = .ok (.goto (-23), 3) := by decide +kernel
theorem dX2_bearAsTold_28 : decode cX2_bearAsTold 28 = .ok (.return_, 1) := by decide +kernel
theorem dX2_blossom_0 : decode cX2_blossom 0 = .ok (.iconst 0, 1) := by decide +kernel
theorem dX2_blossom_1 : decode cX2_blossom 1 = .ok (.istore_n 2, 1) := by decide +kernel
theorem dX2_blossom_2 : decode cX2_blossom 2 = .ok (.iload_n 2, 1) := by decide +kernel
theorem dX2_blossom_3 : decode cX2_blossom 3 = .ok (.aload_n 1, 1) := by decide +kernel
theorem dX2_blossom_4 : decode cX2_blossom 4 = .ok (.getfield 34, 3) := by decide +kernel
theorem dX2_blossom_7 : decode cX2_blossom 7 = .ok (.if_icmp .ge 52, 3) := by decide +kernel
theorem dX2_blossom_10 : decode cX2_blossom 10 = .ok (.aload_n 0, 1) := by decide +kernel
theorem dX2_blossom_11 : decode cX2_blossom 11 = .ok (.aload_n 0, 1) := by decide +kernel
theorem dX2_blossom_12 : decode cX2_blossom 12 = .ok (.getfield 27, 3) := by decide +kernel
theorem dX2_blossom_15 : decode cX2_blossom 15 = .ok (.ldc 42, 2) := by decide +kernel
theorem dX2_blossom_17 : decode cX2_blossom 17 = .ok (.imul, 1) := by decide +kernel
theorem dX2_blossom_18 : decode cX2_blossom 18 = .ok (.sipush 12345, 3) := by decide +kernel
theorem dX2_blossom_21 : decode cX2_blossom 21 = .ok (.iadd, 1) := by decide +kernel
theorem dX2_blossom_22 : decode cX2_blossom 22 = .ok (.putfield 27, 3) := by decide +kernel
theorem dX2_blossom_25 : decode cX2_blossom 25 = .ok (.aload_n 0, 1) := by decide +kernel
theorem dX2_blossom_26 : decode cX2_blossom 26 = .ok (.getfield 27, 3) := by decide +kernel
theorem dX2_blossom_29 : decode cX2_blossom 29 = .ok (.bipush 16, 2) := by decide +kernel
theorem dX2_blossom_31 : decode cX2_blossom 31 = .ok (.iushr, 1) := by decide +kernel
theorem dX2_blossom_32 : decode cX2_blossom 32 = .ok (.bipush 21, 2) := by decide +kernel
theorem dX2_blossom_34 : decode cX2_blossom 34 = .ok (.irem, 1) := by decide +kernel
theorem dX2_blossom_35 : decode cX2_blossom 35 = .ok (.istore_n 3, 1) := by decide +kernel
theorem dX2_blossom_36 : decode cX2_blossom 36 = .ok (.aload_n 0, 1) := by decide +kernel
theorem dX2_blossom_37 : decode cX2_blossom 37 = .ok (.getfield 30, 3) := by decide +kernel
theorem dX2_blossom_40 : decode cX2_blossom 40 = .ok (.iload_n 2, 1) := by decide +kernel
theorem dX2_blossom_41 : decode cX2_blossom 41 = .ok (.aload_n 1, 1) := by decide +kernel
theorem dX2_blossom_42 : decode cX2_blossom 42 = .ok (.getfield 39, 3) := by decide +kernel
theorem dX2_blossom_45 : decode cX2_blossom 45 = .ok (.iload_n 2, 1) := by decide +kernel
theorem dX2_blossom_46 : decode cX2_blossom 46 = .ok (.iaload, 1) := by decide +kernel
theorem dX2_blossom_47 : decode cX2_blossom 47 = .ok (.iload_n 3, 1) := by decide +kernel
theorem dX2_blossom_48 : decode cX2_blossom 48 = .ok (.imul, 1) := by decide +kernel
theorem dX2_blossom_49 : decode cX2_blossom 49 = .ok (.bipush 10, 2) := by decide +kernel
theorem dX2_blossom_51 : decode cX2_blossom 51 = .ok (.idiv, 1) := by decide +kernel
theorem dX2_blossom_52 : decode cX2_blossom 52 = .ok (.iastore, 1) := by decide +kernel
theorem dX2_blossom_53 : decode cX2_blossom 53 = .ok (.iinc 2 1, 3) := by decide +kernel
theorem dX2_blossom_56 : decode cX2_blossom 56 = .ok (.goto (-54), 3) := by decide +kernel
theorem dX2_blossom_59 : decode cX2_blossom 59 = .ok (.return_, 1) := by decide +kernel
theorem dX2_become_0 : decode cX2_become 0 = .ok (.aload_n 0, 1) := by decide +kernel
theorem dX2_become_1 : decode cX2_become 1 = .ok (.aload_n 1, 1) := by decide +kernel
theorem dX2_become_2 : decode cX2_become 2 = .ok (.getfield 9, 3) := by decide +kernel
theorem dX2_become_5 : decode cX2_become 5 = .ok (.putfield 9, 3) := by decide +kernel
theorem dX2_become_8 : decode cX2_become 8 = .ok (.aload_n 0, 1) := by decide +kernel
theorem dX2_become_9 : decode cX2_become 9 = .ok (.aload_n 1, 1) := by decide +kernel
theorem dX2_become_10 : decode cX2_become 10 = .ok (.getfield 15, 3) := by decide +kernel
theorem dX2_become_13 : decode cX2_become 13 = .ok (.putfield 15, 3) := by decide +kernel
theorem dX2_become_16 : decode cX2_become 16 = .ok (.aload_n 0, 1) := by decide +kernel
theorem dX2_become_17 : decode cX2_become 17 = .ok (.aload_n 1, 1) := by decide +kernel
theorem dX2_become_18 : decode cX2_become 18 = .ok (.getfield 18, 3) := by decide +kernel
theorem dX2_become_21 : decode cX2_become 21 = .ok (.putfield 18, 3) := by decide +kernel
theorem dX2_become_24 : decode cX2_become 24 = .ok (.aload_n 0, 1) := by decide +kernel
theorem dX2_become_25 : decode cX2_become 25 = .ok (.aload_n 1, 1) := by decide +kernel
theorem dX2_become_26 : decode cX2_become 26 = .ok (.getfield 21, 3) := by decide +kernel
theorem dX2_become_29 : decode cX2_become 29 = .ok (.putfield 21, 3) := by decide +kernel
theorem dX2_become_32 : decode cX2_become 32 = .ok (.aload_n 0, 1) := by decide +kernel
theorem dX2_become_33 : decode cX2_become 33 = .ok (.aload_n 1, 1) := by decide +kernel
theorem dX2_become_34 : decode cX2_become 34 = .ok (.getfield 24, 3) := by decide +kernel
theorem dX2_become_37 : decode cX2_become 37 = .ok (.putfield 24, 3) := by decide +kernel
theorem dX2_become_40 : decode cX2_become 40 = .ok (.aload_n 0, 1) := by decide +kernel
theorem dX2_become_41 : decode cX2_become 41 = .ok (.aload_n 1, 1) := by decide +kernel
theorem dX2_become_42 : decode cX2_become 42 = .ok (.getfield 27, 3) := by decide +kernel
theorem dX2_become_45 : decode cX2_become 45 = .ok (.putfield 27, 3) := by decide +kernel
theorem dX2_become_48 : decode cX2_become 48 = .ok (.iconst 0, 1) := by decide +kernel
theorem dX2_become_49 : decode cX2_become 49 = .ok (.istore_n 2, 1) := by decide +kernel
theorem dX2_become_50 : decode cX2_become 50 = .ok (.iload_n 2, 1) := by decide +kernel
theorem dX2_become_51 : decode cX2_become 51 = .ok (.iconst 5, 1) := by decide +kernel
theorem dX2_become_52 : decode cX2_become 52 = .ok (.if_icmp .ge 21, 3) := by decide +kernel
theorem dX2_become_55 : decode cX2_become 55 = .ok (.aload_n 0, 1) := by decide +kernel
theorem dX2_become_56 : decode cX2_become 56 = .ok (.getfield 30, 3) := by decide +kernel
theorem dX2_become_59 : decode cX2_become 59 = .ok (.iload_n 2, 1) := by decide +kernel
theorem dX2_become_60 : decode cX2_become 60 = .ok (.aload_n 1, 1) := by decide +kernel
theorem dX2_become_61 : decode cX2_become 61 = .ok (.getfield 30, 3) := by decide +kernel
theorem dX2_become_64 : decode cX2_become 64 = .ok (.iload_n 2, 1) := by decide +kernel
theorem dX2_become_65 : decode cX2_become 65 = .ok (.iaload, 1) := by decide +kernel
theorem dX2_become_66 : decode cX2_become 66 = .ok (.iastore, 1) := by decide +kernel
theorem dX2_become_67 : decode cX2_become 67 = .ok (.iinc 2 1, 3) := by decide +kernel
theorem dX2_become_70 : decode cX2_become 70 = .ok (.goto (-20), 3) := by decide +kernel
theorem dX2_become_73 : decode cX2_become 73 = .ok (.return_, 1) := by decide +kernel
theorem dX2_leftOnAll_0 : decode cX2_leftOnAll 0 = .ok (.iconst 0, 1) := by decide +kernel
theorem dX2_leftOnAll_1 : decode cX2_leftOnAll 1 = .ok (.istore_n 2, 1) := by decide +kernel
theorem dX2_leftOnAll_2 : decode cX2_leftOnAll 2 = .ok (.iconst 0, 1) := by decide +kernel
theorem dX2_leftOnAll_3 : decode cX2_leftOnAll 3 = .ok (.istore_n 3, 1) := by decide +kernel
theorem dX2_leftOnAll_4 : decode cX2_leftOnAll 4 = .ok (.iload_n 3, 1) := by decide +kernel
theorem dX2_leftOnAll_5 : decode cX2_leftOnAll 5 = .ok (.aload_n 1, 1) := by decide +kernel
theorem dX2_leftOnAll_6 : decode cX2_leftOnAll 6 = .ok (.getfield 34, 3) := by decide +kernel
theorem dX2_leftOnAll_9 : decode cX2_leftOnAll 9 = .ok (.if_icmp .ge 18, 3) := by decide +kernel
theorem dX2_leftOnAll_12 : decode cX2_leftOnAll 12 = .ok (.iload_n 2, 1) := by decide +kernel
theorem dX2_leftOnAll_13 : decode cX2_leftOnAll 13 = .ok (.aload_n 0, 1) := by decide +kernel
theorem dX2_leftOnAll_14 : decode cX2_leftOnAll 14 = .ok (.getfield 30, 3) := by decide +kernel
theorem dX2_leftOnAll_17 : decode cX2_leftOnAll 17 = .ok (.iload_n 3, 1) := by decide +kernel
theorem dX2_leftOnAll_18 : decode cX2_leftOnAll 18 = .ok (.iaload, 1) := by decide +kernel
theorem dX2_leftOnAll_19 : decode cX2_leftOnAll 19 = .ok (.iadd, 1) := by decide +kernel
theorem dX2_leftOnAll_20 : decode cX2_leftOnAll 20 = .ok (.istore_n 2, 1) := by decide +kernel
theorem dX2_leftOnAll_21 : decode cX2_leftOnAll 21 = .ok (.iinc 3 1, 3) := by decide +kernel
theorem dX2_leftOnAll_24 : decode cX2_leftOnAll 24 = .ok (.goto (-20), 3) := by decide +kernel
theorem dX2_leftOnAll_27 : decode cX2_leftOnAll 27 = .ok (.iload_n 2, 1) := by decide +kernel
theorem dX2_leftOnAll_28 : decode cX2_leftOnAll 28 = .ok (.ireturn, 1) := by decide +kernel
set_option maxRecDepth 20000 in
theorem ggX2_pickable_X3_isRipe : GoodIn wsX2_pickable wsX3_isRipe := goodIn_r _ [17, 18, 19, 20, 21, 16, 22, 23, 39, 40, 41, 42, 43, 44, 45, 46, 47, 48] (by decide +kernel) (by decide +kernel)
set_option maxRecDepth 20000 in
theorem gX2_pickable_X3_isRipe : GoodIn wsX2_pickable (wsV RX2 43 RX3 yX3_isRipe wsX3_isRipe) := goodIn_app (goodIn_of _ (by decide +kernel)) ggX2_pickable_X3_isRipe
theorem dX2_pickable_0 : decode cX2_pickable 0 = .ok (.aload_n 1, 1) := by decide +kernel
theorem dX2_pickable_1 : decode cX2_pickable 1 = .ok (.iload 4, 2) := by decide +kernel
theorem dX2_pickable_3 : decode cX2_pickable 3 = .ok (.aload_n 0, 1) := by decide +kernel
theorem dX2_pickable_4 : decode cX2_pickable 4 = .ok (.getfield 9, 3) := by decide +kernel
theorem dX2_pickable_7 : decode cX2_pickable 7 = .ok (.invokevirtual 43, 3) := by decide +kernel
theorem dX2_pickable_10 : decode cX2_pickable 10 = .ok (.ifCond .eq 15, 3) := by decide +kernel
theorem dX2_pickable_13 : decode cX2_pickable 13 = .ok (.aload_n 0, 1) := by decide +kernel
theorem dX2_pickable_14 : decode cX2_pickable 14 = .ok (.getfield 18, 3) := by decide +kernel
theorem dX2_pickable_17 : decode cX2_pickable 17 = .ok (.iload 4, 2) := by decide +kernel
theorem dX2_pickable_19 : decode cX2_pickable 19 = .ok (.ishr, 1) := by decide +kernel
theorem dX2_pickable_20 : decode cX2_pickable 20 = .ok (.iconst 1, 1) := by decide +kernel
theorem dX2_pickable_21 : decode cX2_pickable 21 = .ok (.iand, 1) := by decide +kernel
theorem dX2_pickable_22 : decode cX2_pickable 22 = .ok (.ifCond .eq 5, 3) := by decide +kernel
theorem dX2_pickable_25 : decode cX2_pickable 25 = .ok (.iconst 0, 1) := by decide +kernel
theorem dX2_pickable_26 : decode cX2_pickable 26 = .ok (.ireturn, 1) := by decide +kernel
theorem dX2_pickable_27 : decode cX2_pickable 27 = .ok (.aload_n 0, 1) := by decide +kernel
theorem dX2_pickable_28 : decode cX2_pickable 28 = .ok (.getfield 15, 3) := by decide +kernel
theorem dX2_pickable_31 : decode cX2_pickable 31 = .ok (.aload_n 2, 1) := by decide +kernel
theorem dX2_pickable_32 : decode cX2_pickable 32 = .ok (.getfield 47, 3) := by decide +kernel
theorem dX2_pickable_35 : decode cX2_pickable 35 = .ok (.iload_n 3, 1) := by decide +kernel
theorem dX2_pickable_36 : decode cX2_pickable 36 = .ok (.iaload, 1) := by decide +kernel
theorem dX2_pickable_37 : decode cX2_pickable 37 = .ok (.iand, 1) := by decide +kernel
theorem dX2_pickable_38 : decode cX2_pickable 38 = .ok (.ifCond .ne 19, 3) := by decide +kernel
theorem dX2_pickable_41 : decode cX2_pickable 41 = .ok (.aload_n 2, 1) := by decide +kernel
theorem dX2_pickable_42 : decode cX2_pickable 42 = .ok (.getfield 52, 3) := by decide +kernel
theorem dX2_pickable_45 : decode cX2_pickable 45 = .ok (.iload_n 3, 1) := by decide +kernel
theorem dX2_pickable_46 : decode cX2_pickable 46 = .ok (.iaload, 1) := by decide +kernel
theorem dX2_pickable_47 : decode cX2_pickable 47 = .ok (.aload_n 1, 1) := by decide +kernel
theorem dX2_pickable_48 : decode cX2_pickable 48 = .ok (.getfield 55, 3) := by decide +kernel
theorem dX2_pickable_51 : decode cX2_pickable 51 = .ok (.iload 4, 2) := by decide +kernel
theorem dX2_pickable_53 : decode cX2_pickable 53 = .ok (.iaload, 1) := by decide +kernel
theorem dX2_pickable_54 : decode cX2_pickable 54 = .ok (.if_icmp .ge 5, 3) := by decide +kernel
theorem dX2_pickable_57 : decode cX2_pickable 57 = .ok (.iconst 0, 1) := by decide +kernel
theorem dX2_pickable_58 : decode cX2_pickable 58 = .ok (.ireturn, 1) := by decide +kernel
theorem dX2_pickable_59 : decode cX2_pickable 59 = .ok (.aload_n 2, 1) := by decide +kernel
theorem dX2_pickable_60 : decode cX2_pickable 60 = .ok (.getfield 58, 3) := by decide +kernel
theorem dX2_pickable_63 : decode cX2_pickable 63 = .ok (.iload_n 3, 1) := by decide +kernel
theorem dX2_pickable_64 : decode cX2_pickable 64 = .ok (.iaload, 1) := by decide +kernel
theorem dX2_pickable_65 : decode cX2_pickable 65 = .ok (.aload_n 0, 1) := by decide +kernel
theorem dX2_pickable_66 : decode cX2_pickable 66 = .ok (.getfield 30, 3) := by decide +kernel
theorem dX2_pickable_69 : decode cX2_pickable 69 = .ok (.iload 4, 2) := by decide +kernel
theorem dX2_pickable_71 : decode cX2_pickable 71 = .ok (.iaload, 1) := by decide +kernel
theorem dX2_pickable_72 : decode cX2_pickable 72 = .ok (.invokestatic 61, 3) := by decide +kernel
theorem dX2_pickable_75 : decode cX2_pickable 75 = .ok (.ireturn, 1) := by decide +kernel
theorem dX2_pick_0 : decode cX2_pick 0 = .ok (.aload_n 0, 1) := by decide +kernel
theorem dX2_pick_1 : decode cX2_pick 1 = .ok (.dup, 1) := by decide +kernel
theorem dX2_pick_2 : decode cX2_pick 2 = .ok (.getfield 15, 3) := by decide +kernel
theorem dX2_pick_5 : decode cX2_pick 5 = .ok (.iload_n 1, 1) := by decide +kernel
theorem dX2_pick_6 : decode cX2_pick 6 = .ok (.ior, 1) := by decide +kernel
theorem dX2_pick_7 : decode cX2_pick 7 = .ok (.putfield 15, 3) := by decide +kernel
theorem dX2_pick_10 : decode cX2_pick 10 = .ok (.aload_n 0, 1) := by decide +kernel
theorem dX2_pick_11 : decode cX2_pick 11 = .ok (.dup, 1) := by decide +kernel
theorem dX2_pick_12 : decode cX2_pick 12 = .ok (.getfield 18, 3) := by decide +kernel
theorem dX2_pick_15 : decode cX2_pick 15 = .ok (.iconst 1, 1) := by decide +kernel
theorem dX2_pick_16 : decode cX2_pick 16 = .ok (.iload_n 2, 1) := by decide +kernel
theorem dX2_pick_17 : decode cX2_pick 17 = .ok (.ishl, 1) := by decide +kernel
theorem dX2_pick_18 : decode cX2_pick 18 = .ok (.ior, 1) := by decide +kernel
theorem dX2_pick_19 : decode cX2_pick 19 = .ok (.putfield 18, 3) := by decide +kernel
theorem dX2_pick_22 : decode cX2_pick 22 = .ok (.aload_n 0, 1) := by decide +kernel
theorem dX2_pick_23 : decode cX2_pick 23 = .ok (.getfield 30, 3) := by decide +kernel
theorem dX2_pick_26 : decode cX2_pick 26 = .ok (.iload_n 2, 1) := by decide +kernel
theorem dX2_pick_27 : decode cX2_pick 27 = .ok (.dup2, 1) := by decide +kernel
theorem dX2_pick_28 : decode cX2_pick 28 = .ok (.iaload, 1) := by decide +kernel
theorem dX2_pick_29 : decode cX2_pick 29 = .ok (.iload_n 3, 1) := by decide +kernel
theorem dX2_pick_30 : decode cX2_pick 30 = .ok (.isub, 1) := by decide +kernel
theorem dX2_pick_31 : decode cX2_pick 31 = .ok (.iastore, 1) := by decide +kernel
theorem dX2_pick_32 : decode cX2_pick 32 = .ok (.aload_n 0, 1) := by decide +kernel
theorem dX2_pick_33 : decode cX2_pick 33 = .ok (.dup, 1) := by decide +kernel
theorem dX2_pick_34 : decode cX2_pick 34 = .ok (.getfield 21, 3) := by decide +kernel
theorem dX2_pick_37 : decode cX2_pick 37 = .ok (.iload_n 3, 1) := by decide +kernel
theorem dX2_pick_38 : decode cX2_pick 38 = .ok (.iadd, 1) := by decide +kernel
theorem dX2_pick_39 : decode cX2_pick 39 = .ok (.putfield 21, 3) := by decide +kernel
theorem dX2_pick_42 : decode cX2_pick 42 = .ok (.return_, 1) := by decide +kernel
theorem dX2_endDay_0 : decode cX2_endDay 0 = .ok (.aload_n 0, 1) := by decide +kernel
theorem dX2_endDay_1 : decode cX2_endDay 1 = .ok (.dup, 1) := by decide +kernel
theorem dX2_endDay_2 : decode cX2_endDay 2 = .ok (.getfield 9, 3) := by decide +kernel
theorem dX2_endDay_5 : decode cX2_endDay 5 = .ok (.iconst 1, 1) := by decide +kernel
theorem dX2_endDay_6 : decode cX2_endDay 6 = .ok (.iadd, 1) := by decide +kernel
theorem dX2_endDay_7 : decode cX2_endDay 7 = .ok (.putfield 9, 3) := by decide +kernel
theorem dX2_endDay_10 : decode cX2_endDay 10 = .ok (.aload_n 0, 1) := by decide +kernel
theorem dX2_endDay_11 : decode cX2_endDay 11 = .ok (.iconst 0, 1) := by decide +kernel
theorem dX2_endDay_12 : decode cX2_endDay 12 = .ok (.putfield 15, 3) := by decide +kernel
theorem dX2_endDay_15 : decode cX2_endDay 15 = .ok (.aload_n 0, 1) := by decide +kernel
theorem dX2_endDay_16 : decode cX2_endDay 16 = .ok (.iconst 0, 1) := by decide +kernel
theorem dX2_endDay_17 : decode cX2_endDay 17 = .ok (.putfield 18, 3) := by decide +kernel
theorem dX2_endDay_20 : decode cX2_endDay 20 = .ok (.iconst 0, 1) := by decide +kernel
theorem dX2_endDay_21 : decode cX2_endDay 21 = .ok (.istore_n 2, 1) := by decide +kernel
theorem dX2_endDay_22 : decode cX2_endDay 22 = .ok (.iconst 0, 1) := by decide +kernel
theorem dX2_endDay_23 : decode cX2_endDay 23 = .ok (.istore_n 3, 1) := by decide +kernel
theorem dX2_endDay_24 : decode cX2_endDay 24 = .ok (.iload_n 3, 1) := by decide +kernel
theorem dX2_endDay_25 : decode cX2_endDay 25 = .ok (.aload_n 1, 1) := by decide +kernel
theorem dX2_endDay_26 : decode cX2_endDay 26 = .ok (.getfield 34, 3) := by decide +kernel
theorem dX2_endDay_29 : decode cX2_endDay 29 = .ok (.if_icmp .ge 40, 3) := by decide +kernel
theorem dX2_endDay_32 : decode cX2_endDay 32 = .ok (.aload_n 0, 1) := by decide +kernel
theorem dX2_endDay_33 : decode cX2_endDay 33 = .ok (.getfield 9, 3) := by decide +kernel
theorem dX2_endDay_36 : decode cX2_endDay 36 = .ok (.aload_n 1, 1) := by decide +kernel
theorem dX2_endDay_37 : decode cX2_endDay 37 = .ok (.getfield 67, 3) := by decide +kernel
theorem dX2_endDay_40 : decode cX2_endDay 40 = .ok (.iload_n 3, 1) := by decide +kernel
theorem dX2_endDay_41 : decode cX2_endDay 41 = .ok (.iaload, 1) := by decide +kernel
theorem dX2_endDay_42 : decode cX2_endDay 42 = .ok (.iconst 3, 1) := by decide +kernel
theorem dX2_endDay_43 : decode cX2_endDay 43 = .ok (.iadd, 1) := by decide +kernel
theorem dX2_endDay_44 : decode cX2_endDay 44 = .ok (.if_icmp .le 19, 3) := by decide +kernel
theorem dX2_endDay_47 : decode cX2_endDay 47 = .ok (.iload_n 2, 1) := by decide +kernel
theorem dX2_endDay_48 : decode cX2_endDay 48 = .ok (.aload_n 0, 1) := by decide +kernel
theorem dX2_endDay_49 : decode cX2_endDay 49 = .ok (.getfield 30, 3) := by decide +kernel
theorem dX2_endDay_52 : decode cX2_endDay 52 = .ok (.iload_n 3, 1) := by decide +kernel
theorem dX2_endDay_53 : decode cX2_endDay 53 = .ok (.iaload, 1) := by decide +kernel
theorem dX2_endDay_54 : decode cX2_endDay 54 = .ok (.iadd, 1) := by decide +kernel
theorem dX2_endDay_55 : decode cX2_endDay 55 = .ok (.istore_n 2, 1) := by decide +kernel
theorem dX2_endDay_56 : decode cX2_endDay 56 = .ok (.aload_n 0, 1) := by decide +kernel
theorem dX2_endDay_57 : decode cX2_endDay 57 = .ok (.getfield 30, 3) := by decide +kernel
theorem dX2_endDay_60 : decode cX2_endDay 60 = .ok (.iload_n 3, 1) := by decide +kernel
theorem dX2_endDay_61 : decode cX2_endDay 61 = .ok (.iconst 0, 1) := by decide +kernel
theorem dX2_endDay_62 : decode cX2_endDay 62 = .ok (.iastore, 1) := by decide +kernel
theorem dX2_endDay_63 : decode cX2_endDay 63 = .ok (.iinc 3 1, 3) := by decide +kernel
theorem dX2_endDay_66 : decode cX2_endDay 66 = .ok (.goto (-42), 3) := by decide +kernel
theorem dX2_endDay_69 : decode cX2_endDay 69 = .ok (.aload_n 0, 1) := by decide +kernel
theorem dX2_endDay_70 : decode cX2_endDay 70 = .ok (.dup, 1) := by decide +kernel
theorem dX2_endDay_71 : decode cX2_endDay 71 = .ok (.getfield 24, 3) := by decide +kernel
theorem dX2_endDay_74 : decode cX2_endDay 74 = .ok (.iload_n 2, 1) := by decide +kernel
theorem dX2_endDay_75 : decode cX2_endDay 75 = .ok (.iadd, 1) := by decide +kernel
theorem dX2_endDay_76 : decode cX2_endDay 76 = .ok (.putfield 24, 3) := by decide +kernel
theorem dX2_endDay_79 : decode cX2_endDay 79 = .ok (.iload_n 2, 1) := by decide +kernel
theorem dX2_endDay_80 : decode cX2_endDay 80 = .ok (.ireturn, 1) := by decide +kernel
theorem dX3_init_0 : decode cX3_init 0 = .ok (.aload_n 0, 1) := by decide +kernel
theorem dX3_init_1 : decode cX3_init 1 = .ok (.invokespecial 3, 3) := by decide +kernel
theorem dX3_init_4 : decode cX3_init 4 = .ok (.aload_n 0, 1) := by decide +kernel
theorem dX3_init_5 : decode cX3_init 5 = .ok (.iconst 0, 1) := by decide +kernel
theorem dX3_init_6 : decode cX3_init 6 = .ok (.putfield 9, 3) := by decide +kernel
theorem dX3_init_9 : decode cX3_init 9 = .ok (.aload_n 0, 1) := by decide +kernel
theorem dX3_init_10 : decode cX3_init 10 = .ok (.iconst 0, 1) := by decide +kernel
theorem dX3_init_11 : decode cX3_init 11 = .ok (.putfield 15, 3) := by decide +kernel
theorem dX3_init_14 : decode cX3_init 14 = .ok (.aload_n 0, 1) := by decide +kernel
theorem dX3_init_15 : decode cX3_init 15 = .ok (.bipush 8, 2) := by decide +kernel
theorem dX3_init_17 : decode cX3_init 17 = .ok (.newarray .int, 2) := by decide +kernel
theorem dX3_init_19 : decode cX3_init 19 = .ok (.putfield 18, 3) := by decide +kernel
theorem dX3_init_22 : decode cX3_init 22 = .ok (.aload_n 0, 1) := by decide +kernel
theorem dX3_init_23 : decode cX3_init 23 = .ok (.bipush 8, 2) := by decide +kernel
theorem dX3_init_25 : decode cX3_init 25 = .ok (.newarray .int, 2) := by decide +kernel
theorem dX3_init_27 : decode cX3_init 27 = .ok (.putfield 22, 3) := by decide +kernel
theorem dX3_init_30 : decode cX3_init 30 = .ok (.aload_n 0, 1) := by decide +kernel
end
section
theorem dX3_init_31 : decode cX3_init 31 = .ok (.bipush 8, 2) := by decide +kernel
theorem dX3_init_33 : decode cX3_init 33 = .ok (.newarray .int, 2) := by decide +kernel
theorem dX3_init_35 : decode cX3_init 35 = .ok (.putfield 25, 3) := by decide +kernel
theorem dX3_init_38 : decode cX3_init 38 = .ok (.aload_n 0, 1) := by decide +kernel
theorem dX3_init_39 : decode cX3_init 39 = .ok (.bipush 8, 2) := by decide +kernel
theorem dX3_init_41 : decode cX3_init 41 = .ok (.newarray .int, 2) := by decide +kernel
theorem dX3_init_43 : decode cX3_init 43 = .ok (.putfield 28, 3) := by decide +kernel
theorem dX3_init_46 : decode cX3_init 46 = .ok (.aload_n 0, 1) := by decide +kernel
theorem dX3_init_47 : decode cX3_init 47 = .ok (.bipush 8, 2) := by decide +kernel
theorem dX3_init_49 : decode cX3_init 49 = .ok (.newarray .int, 2) := by decide +kernel
theorem dX3_init_51 : decode cX3_init 51 = .ok (.putfield 31, 3) := by decide +kernel
theorem dX3_init_54 : decode cX3_init 54 = .ok (.aload_n 0, 1) := by decide +kernel
theorem dX3_init_55 : decode cX3_init 55 = .ok (.iconst 5, 1) := by decide +kernel
theorem dX3_init_56 : decode cX3_init 56 = .ok (.newarray .int, 2) := by decide +kernel
theorem dX3_init_58 : decode cX3_init 58 = .ok (.putfield 34, 3) := by decide +kernel
theorem dX3_init_61 : decode cX3_init 61 = .ok (.aload_n 0, 1) := by decide +kernel
theorem dX3_init_62 : decode cX3_init 62 = .ok (.iconst 5, 1) := by decide +kernel
theorem dX3_init_63 : decode cX3_init 63 = .ok (.newarray .int, 2) := by decide +kernel
theorem dX3_init_65 : decode cX3_init 65 = .ok (.putfield 37, 3) := by decide +kernel
theorem dX3_init_68 : decode cX3_init 68 = .ok (.aload_n 0, 1) := by decide +kernel
theorem dX3_init_69 : decode cX3_init 69 = .ok (.iconst 5, 1) := by decide +kernel
theorem dX3_init_70 : decode cX3_init 70 = .ok (.newarray .int, 2) := by decide +kernel
theorem dX3_init_72 : decode cX3_init 72 = .ok (.putfield 40, 3) := by decide +kernel
theorem dX3_init_75 : decode cX3_init 75 = .ok (.return_, 1) := by decide +kernel
theorem dX3_empty_0 : decode cX3_empty 0 = .ok (.aload_n 0, 1) := by decide +kernel
theorem dX3_empty_1 : decode cX3_empty 1 = .ok (.iconst 0, 1) := by decide +kernel
theorem dX3_empty_2 : decode cX3_empty 2 = .ok (.putfield 9, 3) := by decide +kernel
theorem dX3_empty_5 : decode cX3_empty 5 = .ok (.aload_n 0, 1) := by decide +kernel
theorem dX3_empty_6 : decode cX3_empty 6 = .ok (.iconst 0, 1) := by decide +kernel
theorem dX3_empty_7 : decode cX3_empty 7 = .ok (.putfield 15, 3) := by decide +kernel
theorem dX3_empty_10 : decode cX3_empty 10 = .ok (.return_, 1) := by decide +kernel
theorem dX3_addHalf_0 : decode cX3_addHalf 0 = .ok (.aload_n 0, 1) := by decide +kernel
theorem dX3_addHalf_1 : decode cX3_addHalf 1 = .ok (.getfield 9, 3) := by decide +kernel
theorem dX3_addHalf_4 : decode cX3_addHalf 4 = .ok (.bipush 8, 2) := by decide +kernel
theorem dX3_addHalf_6 : decode cX3_addHalf 6 = .ok (.if_icmp .ge 64, 3) := by decide +kernel
theorem dX3_addHalf_9 : decode cX3_addHalf 9 = .ok (.aload_n 0, 1) := by decide +kernel
theorem dX3_addHalf_10 : decode cX3_addHalf 10 = .ok (.getfield 18, 3) := by decide +kernel
theorem dX3_addHalf_13 : decode cX3_addHalf 13 = .ok (.aload_n 0, 1) := by decide +kernel
theorem dX3_addHalf_14 : decode cX3_addHalf 14 = .ok (.getfield 9, 3) := by decide +kernel
theorem dX3_addHalf_17 : decode cX3_addHalf 17 = .ok (.iload_n 1, 1) := by decide +kernel
theorem dX3_addHalf_18 : decode cX3_addHalf 18 = .ok (.iastore, 1) := by decide +kernel
theorem dX3_addHalf_19 : decode cX3_addHalf 19 = .ok (.aload_n 0, 1) := by decide +kernel
theorem dX3_addHalf_20 : decode cX3_addHalf 20 = .ok (.getfield 22, 3) := by decide +kernel
theorem dX3_addHalf_23 : decode cX3_addHalf 23 = .ok (.aload_n 0, 1) := by decide +kernel
theorem dX3_addHalf_24 : decode cX3_addHalf 24 = .ok (.getfield 9, 3) := by decide +kernel
theorem dX3_addHalf_27 : decode cX3_addHalf 27 = .ok (.iload_n 2, 1) := by decide +kernel
theorem dX3_addHalf_28 : decode cX3_addHalf 28 = .ok (.iastore, 1) := by decide +kernel
theorem dX3_addHalf_29 : decode cX3_addHalf 29 = .ok (.aload_n 0, 1) := by decide +kernel
theorem dX3_addHalf_30 : decode cX3_addHalf 30 = .ok (.getfield 25, 3) := by decide +kernel
theorem dX3_addHalf_33 : decode cX3_addHalf 33 = .ok (.aload_n 0, 1) := by decide +kernel
theorem dX3_addHalf_34 : decode cX3_addHalf 34 = .ok (.getfield 9, 3) := by decide +kernel
theorem dX3_addHalf_37 : decode cX3_addHalf 37 = .ok (.iload_n 3, 1) := by decide +kernel
theorem dX3_addHalf_38 : decode cX3_addHalf 38 = .ok (.iastore, 1) := by decide +kernel
theorem dX3_addHalf_39 : decode cX3_addHalf 39 = .ok (.aload_n 0, 1) := by decide +kernel
theorem dX3_addHalf_40 : decode cX3_addHalf 40 = .ok (.getfield 28, 3) := by decide +kernel
theorem dX3_addHalf_43 : decode cX3_addHalf 43 = .ok (.aload_n 0, 1) := by decide +kernel
theorem dX3_addHalf_44 : decode cX3_addHalf 44 = .ok (.getfield 9, 3) := by decide +kernel
theorem dX3_addHalf_47 : decode cX3_addHalf 47 = .ok (.iload 4, 2) := by decide +kernel
theorem dX3_addHalf_49 : decode cX3_addHalf 49 = .ok (.iastore, 1) := by decide +kernel
theorem dX3_addHalf_50 : decode cX3_addHalf 50 = .ok (.aload_n 0, 1) := by decide +kernel
theorem dX3_addHalf_51 : decode cX3_addHalf 51 = .ok (.getfield 31, 3) := by decide +kernel
theorem dX3_addHalf_54 : decode cX3_addHalf 54 = .ok (.aload_n 0, 1) := by decide +kernel
theorem dX3_addHalf_55 : decode cX3_addHalf 55 = .ok (.getfield 9, 3) := by decide +kernel
theorem dX3_addHalf_58 : decode cX3_addHalf 58 = .ok (.iconst 0, 1) := by decide +kernel
theorem dX3_addHalf_59 : decode cX3_addHalf 59 = .ok (.iastore, 1) := by decide +kernel
theorem dX3_addHalf_60 : decode cX3_addHalf 60 = .ok (.aload_n 0, 1) := by decide +kernel
theorem dX3_addHalf_61 : decode cX3_addHalf 61 = .ok (.dup, 1) := by decide +kernel
theorem dX3_addHalf_62 : decode cX3_addHalf 62 = .ok (.getfield 9, 3) := by decide +kernel
theorem dX3_addHalf_65 : decode cX3_addHalf 65 = .ok (.iconst 1, 1) := by decide +kernel
theorem dX3_addHalf_66 : decode cX3_addHalf 66 = .ok (.iadd, 1) := by decide +kernel
theorem dX3_addHalf_67 : decode cX3_addHalf 67 = .ok (.putfield 9, 3) := by decide +kernel
theorem dX3_addHalf_70 : decode cX3_addHalf 70 = .ok (.return_, 1) := by decide +kernel
set_option maxRecDepth 20000 in
theorem ggX3_addQuarrel_X3_hasHalf : GoodIn wsX3_addQuarrel wsX3_hasHalf := goodIn_r _ [6, 7, 8, 9, 10, 11, 12, 13, 14, 15, 16, 17] (by decide +kernel) (by decide +kernel)
set_option maxRecDepth 20000 in
theorem gX3_addQuarrel_X3_hasHalf : GoodIn wsX3_addQuarrel (wsV RX3 43 RX3 yX3_hasHalf wsX3_hasHalf) := goodIn_app (goodIn_of _ (by decide +kernel)) ggX3_addQuarrel_X3_hasHalf
theorem dX3_addQuarrel_0 : decode cX3_addQuarrel 0 = .ok (.aload_n 0, 1) := by decide +kernel
theorem dX3_addQuarrel_1 : decode cX3_addQuarrel 1 = .ok (.iload_n 1, 1) := by decide +kernel
theorem dX3_addQuarrel_2 : decode cX3_addQuarrel 2 = .ok (.invokevirtual 43, 3) := by decide +kernel
theorem dX3_addQuarrel_5 : decode cX3_addQuarrel 5 = .ok (.ifCond .eq 35, 3) := by decide +kernel
theorem dX3_addQuarrel_8 : decode cX3_addQuarrel 8 = .ok (.aload_n 0, 1) := by decide +kernel
theorem dX3_addQuarrel_9 : decode cX3_addQuarrel 9 = .ok (.iload_n 2, 1) := by decide +kernel
theorem dX3_addQuarrel_10 : decode cX3_addQuarrel 10 = .ok (.invokevirtual 43, 3) := by decide +kernel
theorem dX3_addQuarrel_13 : decode cX3_addQuarrel 13 = .ok (.ifCond .eq 27, 3) := by decide +kernel
theorem dX3_addQuarrel_16 : decode cX3_addQuarrel 16 = .ok (.aload_n 0, 1) := by decide +kernel
theorem dX3_addQuarrel_17 : decode cX3_addQuarrel 17 = .ok (.getfield 31, 3) := by decide +kernel
theorem dX3_addQuarrel_20 : decode cX3_addQuarrel 20 = .ok (.iload_n 1, 1) := by decide +kernel
theorem dX3_addQuarrel_21 : decode cX3_addQuarrel 21 = .ok (.dup2, 1) := by decide +kernel
theorem dX3_addQuarrel_22 : decode cX3_addQuarrel 22 = .ok (.iaload, 1) := by decide +kernel
theorem dX3_addQuarrel_23 : decode cX3_addQuarrel 23 = .ok (.iconst 1, 1) := by decide +kernel
theorem dX3_addQuarrel_24 : decode cX3_addQuarrel 24 = .ok (.iload_n 2, 1) := by decide +kernel
theorem dX3_addQuarrel_25 : decode cX3_addQuarrel 25 = .ok (.ishl, 1) := by decide +kernel
theorem dX3_addQuarrel_26 : decode cX3_addQuarrel 26 = .ok (.ior, 1) := by decide +kernel
theorem dX3_addQuarrel_27 : decode cX3_addQuarrel 27 = .ok (.iastore, 1) := by decide +kernel
theorem dX3_addQuarrel_28 : decode cX3_addQuarrel 28 = .ok (.aload_n 0, 1) := by decide +kernel
theorem dX3_addQuarrel_29 : decode cX3_addQuarrel 29 = .ok (.getfield 31, 3) := by decide +kernel
theorem dX3_addQuarrel_32 : decode cX3_addQuarrel 32 = .ok (.iload_n 2, 1) := by decide +kernel
theorem dX3_addQuarrel_33 : decode cX3_addQuarrel 33 = .ok (.dup2, 1) := by decide +kernel
theorem dX3_addQuarrel_34 : decode cX3_addQuarrel 34 = .ok (.iaload, 1) := by decide +kernel
theorem dX3_addQuarrel_35 : decode cX3_addQuarrel 35 = .ok (.iconst 1, 1) := by decide +kernel
theorem dX3_addQuarrel_36 : decode cX3_addQuarrel 36 = .ok (.iload_n 1, 1) := by decide +kernel
theorem dX3_addQuarrel_37 : decode cX3_addQuarrel 37 = .ok (.ishl, 1) := by decide +kernel
theorem dX3_addQuarrel_38 : decode cX3_addQuarrel 38 = .ok (.ior, 1) := by decide +kernel
theorem dX3_addQuarrel_39 : decode cX3_addQuarrel 39 = .ok (.iastore, 1) := by decide +kernel
theorem dX3_addQuarrel_40 : decode cX3_addQuarrel 40 = .ok (.return_, 1) := by decide +kernel
theorem dX3_addTree_0 : decode cX3_addTree 0 = .ok (.aload_n 0, 1) := by decide +kernel
theorem dX3_addTree_1 : decode cX3_addTree 1 = .ok (.getfield 15, 3) := by decide +kernel
theorem dX3_addTree_4 : decode cX3_addTree 4 = .ok (.iconst 5, 1) := by decide +kernel
theorem dX3_addTree_5 : decode cX3_addTree 5 = .ok (.if_icmp .ge 43, 3) := by decide +kernel
theorem dX3_addTree_8 : decode cX3_addTree 8 = .ok (.aload_n 0, 1) := by decide +kernel
theorem dX3_addTree_9 : decode cX3_addTree 9 = .ok (.getfield 34, 3) := by decide +kernel
theorem dX3_addTree_12 : decode cX3_addTree 12 = .ok (.aload_n 0, 1) := by decide +kernel
theorem dX3_addTree_13 : decode cX3_addTree 13 = .ok (.getfield 15, 3) := by decide +kernel
theorem dX3_addTree_16 : decode cX3_addTree 16 = .ok (.iload_n 1, 1) := by decide +kernel
theorem dX3_addTree_17 : decode cX3_addTree 17 = .ok (.iastore, 1) := by decide +kernel
theorem dX3_addTree_18 : decode cX3_addTree 18 = .ok (.aload_n 0, 1) := by decide +kernel
theorem dX3_addTree_19 : decode cX3_addTree 19 = .ok (.getfield 37, 3) := by decide +kernel
theorem dX3_addTree_22 : decode cX3_addTree 22 = .ok (.aload_n 0, 1) := by decide +kernel
theorem dX3_addTree_23 : decode cX3_addTree 23 = .ok (.getfield 15, 3) := by decide +kernel
theorem dX3_addTree_26 : decode cX3_addTree 26 = .ok (.iload_n 2, 1) := by decide +kernel
theorem dX3_addTree_27 : decode cX3_addTree 27 = .ok (.iastore, 1) := by decide +kernel
theorem dX3_addTree_28 : decode cX3_addTree 28 = .ok (.aload_n 0, 1) := by decide +kernel
theorem dX3_addTree_29 : decode cX3_addTree 29 = .ok (.getfield 40, 3) := by decide +kernel
theorem dX3_addTree_32 : decode cX3_addTree 32 = .ok (.aload_n 0, 1) := by decide +kernel
theorem dX3_addTree_33 : decode cX3_addTree 33 = .ok (.getfield 15, 3) := by decide +kernel
theorem dX3_addTree_36 : decode cX3_addTree 36 = .ok (.iload_n 3, 1) := by decide +kernel
theorem dX3_addTree_37 : decode cX3_addTree 37 = .ok (.iastore, 1) := by decide +kernel
theorem dX3_addTree_38 : decode cX3_addTree 38 = .ok (.aload_n 0, 1) := by decide +kernel
theorem dX3_addTree_39 : decode cX3_addTree 39 = .ok (.dup, 1) := by decide +kernel
theorem dX3_addTree_40 : decode cX3_addTree 40 = .ok (.getfield 15, 3) := by decide +kernel
theorem dX3_addTree_43 : decode cX3_addTree 43 = .ok (.iconst 1, 1) := by decide +kernel
theorem dX3_addTree_44 : decode cX3_addTree 44 = .ok (.iadd, 1) := by decide +kernel
theorem dX3_addTree_45 : decode cX3_addTree 45 = .ok (.putfield 15, 3) := by decide +kernel
theorem dX3_addTree_48 : decode cX3_addTree 48 = .ok (.return_, 1) := by decide +kernel
theorem dX3_hasHalf_0 : decode cX3_hasHalf 0 = .ok (.iload_n 1, 1) := by decide +kernel
theorem dX3_hasHalf_1 : decode cX3_hasHalf 1 = .ok (.ifCond .lt 15, 3) := by decide +kernel
theorem dX3_hasHalf_4 : decode cX3_hasHalf 4 = .ok (.iload_n 1, 1) := by decide +kernel
theorem dX3_hasHalf_5 : decode cX3_hasHalf 5 = .ok (.aload_n 0, 1) := by decide +kernel
theorem dX3_hasHalf_6 : decode cX3_hasHalf 6 = .ok (.getfield 9, 3) := by decide +kernel
theorem dX3_hasHalf_9 : decode cX3_hasHalf 9 = .ok (.if_icmp .ge 7, 3) := by decide +kernel
theorem dX3_hasHalf_12 : decode cX3_hasHalf 12 = .ok (.iconst 1, 1) := by decide +kernel
theorem dX3_hasHalf_13 : decode cX3_hasHalf 13 = .ok (.goto 4, 3) := by decide +kernel
theorem dX3_hasHalf_16 : decode cX3_hasHalf 16 = .ok (.iconst 0, 1) := by decide +kernel
theorem dX3_hasHalf_17 : decode cX3_hasHalf 17 = .ok (.ireturn, 1) := by decide +kernel
theorem dX3_hasTree_0 : decode cX3_hasTree 0 = .ok (.iload_n 1, 1) := by decide +kernel
theorem dX3_hasTree_1 : decode cX3_hasTree 1 = .ok (.ifCond .lt 15, 3) := by decide +kernel
theorem dX3_hasTree_4 : decode cX3_hasTree 4 = .ok (.iload_n 1, 1) := by decide +kernel
theorem dX3_hasTree_5 : decode cX3_hasTree 5 = .ok (.aload_n 0, 1) := by decide +kernel
theorem dX3_hasTree_6 : decode cX3_hasTree 6 = .ok (.getfield 15, 3) := by decide +kernel
theorem dX3_hasTree_9 : decode cX3_hasTree 9 = .ok (.if_icmp .ge 7, 3) := by decide +kernel
theorem dX3_hasTree_12 : decode cX3_hasTree 12 = .ok (.iconst 1, 1) := by decide +kernel
theorem dX3_hasTree_13 : decode cX3_hasTree 13 = .ok (.goto 4, 3) := by decide +kernel
theorem dX3_hasTree_16 : decode cX3_hasTree 16 = .ok (.iconst 0, 1) := by decide +kernel
theorem dX3_hasTree_17 : decode cX3_hasTree 17 = .ok (.ireturn, 1) := by decide +kernel
theorem dX3_everybody_0 : decode cX3_everybody 0 = .ok (.iconst 1, 1) := by decide +kernel
theorem dX3_everybody_1 : decode cX3_everybody 1 = .ok (.aload_n 0, 1) := by decide +kernel
theorem dX3_everybody_2 : decode cX3_everybody 2 = .ok (.getfield 9, 3) := by decide +kernel
theorem dX3_everybody_5 : decode cX3_everybody 5 = .ok (.ishl, 1) := by decide +kernel
theorem dX3_everybody_6 : decode cX3_everybody 6 = .ok (.iconst 1, 1) := by decide +kernel
theorem dX3_everybody_7 : decode cX3_everybody 7 = .ok (.isub, 1) := by decide +kernel
theorem dX3_everybody_8 : decode cX3_everybody 8 = .ok (.ireturn, 1) := by decide +kernel
set_option maxRecDepth 20000 in
theorem ggX3_couldFit_X3_hasHalf : GoodIn wsX3_couldFit wsX3_hasHalf := goodIn_r _ [7, 8, 9, 10, 11, 12, 13, 14, 15, 16, 17, 18] (by decide +kernel) (by decide +kernel)
set_option maxRecDepth 20000 in
theorem gX3_couldFit_X3_hasHalf : GoodIn wsX3_couldFit (wsV RX3 43 RX3 yX3_hasHalf wsX3_hasHalf) := goodIn_app (goodIn_of _ (by decide +kernel)) ggX3_couldFit_X3_hasHalf
theorem dX3_couldFit_0 : decode cX3_couldFit 0 = .ok (.aload_n 0, 1) := by decide +kernel
theorem dX3_couldFit_1 : decode cX3_couldFit 1 = .ok (.iload_n 1, 1) := by decide +kernel
theorem dX3_couldFit_2 : decode cX3_couldFit 2 = .ok (.invokevirtual 43, 3) := by decide +kernel
theorem dX3_couldFit_5 : decode cX3_couldFit 5 = .ok (.ifCond .eq 43, 3) := by decide +kernel
theorem dX3_couldFit_8 : decode cX3_couldFit 8 = .ok (.aload_n 0, 1) := by decide +kernel
theorem dX3_couldFit_9 : decode cX3_couldFit 9 = .ok (.iload_n 2, 1) := by decide +kernel
theorem dX3_couldFit_10 : decode cX3_couldFit 10 = .ok (.invokevirtual 43, 3) := by decide +kernel
theorem dX3_couldFit_13 : decode cX3_couldFit 13 = .ok (.ifCond .eq 35, 3) := by decide +kernel
theorem dX3_couldFit_16 : decode cX3_couldFit 16 = .ok (.aload_n 0, 1) := by decide +kernel
theorem dX3_couldFit_17 : decode cX3_couldFit 17 = .ok (.getfield 18, 3) := by decide +kernel
theorem dX3_couldFit_20 : decode cX3_couldFit 20 = .ok (.iload_n 1, 1) := by decide +kernel
theorem dX3_couldFit_21 : decode cX3_couldFit 21 = .ok (.iaload, 1) := by decide +kernel
theorem dX3_couldFit_22 : decode cX3_couldFit 22 = .ok (.aload_n 0, 1) := by decide +kernel
theorem dX3_couldFit_23 : decode cX3_couldFit 23 = .ok (.getfield 18, 3) := by decide +kernel
theorem dX3_couldFit_26 : decode cX3_couldFit 26 = .ok (.iload_n 2, 1) := by decide +kernel
theorem dX3_couldFit_27 : decode cX3_couldFit 27 = .ok (.iaload, 1) := by decide +kernel
theorem dX3_couldFit_28 : decode cX3_couldFit 28 = .ok (.if_icmp .eq 20, 3) := by decide +kernel
theorem dX3_couldFit_31 : decode cX3_couldFit 31 = .ok (.aload_n 0, 1) := by decide +kernel
theorem dX3_couldFit_32 : decode cX3_couldFit 32 = .ok (.getfield 31, 3) := by decide +kernel
theorem dX3_couldFit_35 : decode cX3_couldFit 35 = .ok (.iload_n 1, 1) := by decide +kernel
theorem dX3_couldFit_36 : decode cX3_couldFit 36 = .ok (.iaload, 1) := by decide +kernel
theorem dX3_couldFit_37 : decode cX3_couldFit 37 = .ok (.iload_n 2, 1) := by decide +kernel
theorem dX3_couldFit_38 : decode cX3_couldFit 38 = .ok (.ishr, 1) := by decide +kernel
theorem dX3_couldFit_39 : decode cX3_couldFit 39 = .ok (.iconst 1, 1) := by decide +kernel
theorem dX3_couldFit_40 : decode cX3_couldFit 40 = .ok (.iand, 1) := by decide +kernel
theorem dX3_couldFit_41 : decode cX3_couldFit 41 = .ok (.ifCond .ne 7, 3) := by decide +kernel
theorem dX3_couldFit_44 : decode cX3_couldFit 44 = .ok (.iconst 1, 1) := by decide +kernel
theorem dX3_couldFit_45 : decode cX3_couldFit 45 = .ok (.goto 4, 3) := by decide +kernel
theorem dX3_couldFit_48 : decode cX3_couldFit 48 = .ok (.iconst 0, 1) := by decide +kernel
theorem dX3_couldFit_49 : decode cX3_couldFit 49 = .ok (.ireturn, 1) := by decide +kernel
set_option maxRecDepth 20000 in
theorem ggX3_fits_X3_couldFit : GoodIn wsX3_fits wsX3_couldFit := goodIn_r _ [6, 7, 8, 9, 10, 11, 5, 12, 13, 14, 15, 16, 17, 18, 19, 20, 21, 22, 23] (by decide +kernel) (by decide +kernel)
set_option maxRecDepth 20000 in
theorem gX3_fits_X3_couldFit : GoodIn wsX3_fits (wsV RX3 47 RX3 yX3_couldFit wsX3_couldFit) := goodIn_app (goodIn_of _ (by decide +kernel)) ggX3_fits_X3_couldFit
theorem dX3_fits_0 : decode cX3_fits 0 = .ok (.aload_n 0, 1) := by decide +kernel
theorem dX3_fits_1 : decode cX3_fits 1 = .ok (.iload_n 1, 1) := by decide +kernel
theorem dX3_fits_2 : decode cX3_fits 2 = .ok (.iload_n 2, 1) := by decide +kernel
theorem dX3_fits_3 : decode cX3_fits 3 = .ok (.invokevirtual 47, 3) := by decide +kernel
theorem dX3_fits_6 : decode cX3_fits 6 = .ok (.ifCond .eq 22, 3) := by decide +kernel
theorem dX3_fits_9 : decode cX3_fits 9 = .ok (.aload_n 0, 1) := by decide +kernel
theorem dX3_fits_10 : decode cX3_fits 10 = .ok (.getfield 22, 3) := by decide +kernel
theorem dX3_fits_13 : decode cX3_fits 13 = .ok (.iload_n 1, 1) := by decide +kernel
theorem dX3_fits_14 : decode cX3_fits 14 = .ok (.iaload, 1) := by decide +kernel
theorem dX3_fits_15 : decode cX3_fits 15 = .ok (.aload_n 0, 1) := by decide +kernel
theorem dX3_fits_16 : decode cX3_fits 16 = .ok (.getfield 22, 3) := by decide +kernel
theorem dX3_fits_19 : decode cX3_fits 19 = .ok (.iload_n 2, 1) := by decide +kernel
theorem dX3_fits_20 : decode cX3_fits 20 = .ok (.iaload, 1) := by decide +kernel
theorem dX3_fits_21 : decode cX3_fits 21 = .ok (.if_icmp .ne 7, 3) := by decide +kernel
theorem dX3_fits_24 : decode cX3_fits 24 = .ok (.iconst 1, 1) := by decide +kernel
theorem dX3_fits_25 : decode cX3_fits 25 = .ok (.goto 4, 3) := by decide +kernel
theorem dX3_fits_28 : decode cX3_fits 28 = .ok (.iconst 0, 1) := by decide +kernel
theorem dX3_fits_29 : decode cX3_fits 29 = .ok (.ireturn, 1) := by decide +kernel
set_option maxRecDepth 20000 in
theorem ggX3_quarrelPairs_J6_bitCount_0f7a4 : GoodIn wsX3_quarrelPairs wsJ6_bitCount_0f7a4 := goodIn_r _ [6, 7, 8, 9] (by decide +kernel) (by decide +kernel)
set_option maxRecDepth 20000 in
theorem gX3_quarrelPairs_J6_bitCount_0f7a4 : GoodIn wsX3_quarrelPairs (va_wsS RX3 51 yJ6_bitCount_0f7a4 wsJ6_bitCount_0f7a4) := goodIn_app (goodIn_of _ (by decide +kernel)) ggX3_quarrelPairs_J6_bitCount_0f7a4
theorem dX3_quarrelPairs_0 : decode cX3_quarrelPairs 0 = .ok (.iconst 0, 1) := by decide +kernel
theorem dX3_quarrelPairs_1 : decode cX3_quarrelPairs 1 = .ok (.istore_n 1, 1) := by decide +kernel
theorem dX3_quarrelPairs_2 : decode cX3_quarrelPairs 2 = .ok (.iconst 0, 1) := by decide +kernel
theorem dX3_quarrelPairs_3 : decode cX3_quarrelPairs 3 = .ok (.istore_n 2, 1) := by decide +kernel
theorem dX3_quarrelPairs_4 : decode cX3_quarrelPairs 4 = .ok (.iload_n 2, 1) := by decide +kernel
theorem dX3_quarrelPairs_5 : decode cX3_quarrelPairs 5 = .ok (.aload_n 0, 1) := by decide +kernel
theorem dX3_quarrelPairs_6 : decode cX3_quarrelPairs 6 = .ok (.getfield 9, 3) := by decide +kernel
theorem dX3_quarrelPairs_9 : decode cX3_quarrelPairs 9 = .ok (.if_icmp .ge 21, 3) := by decide +kernel
theorem dX3_quarrelPairs_12 : decode cX3_quarrelPairs 12 = .ok (.iload_n 1, 1) := by decide +kernel
theorem dX3_quarrelPairs_13 : decode cX3_quarrelPairs 13 = .ok (.aload_n 0, 1) := by decide +kernel
theorem dX3_quarrelPairs_14 : decode cX3_quarrelPairs 14 = .ok (.getfield 31, 3) := by decide +kernel
theorem dX3_quarrelPairs_17 : decode cX3_quarrelPairs 17 = .ok (.iload_n 2, 1) := by decide +kernel
theorem dX3_quarrelPairs_18 : decode cX3_quarrelPairs 18 = .ok (.iaload, 1) := by decide +kernel
theorem dX3_quarrelPairs_19 : decode cX3_quarrelPairs 19 = .ok (.invokestatic 51, 3) := by decide +kernel
theorem dX3_quarrelPairs_22 : decode cX3_quarrelPairs 22 = .ok (.iadd, 1) := by decide +kernel
theorem dX3_quarrelPairs_23 : decode cX3_quarrelPairs 23 = .ok (.istore_n 1, 1) := by decide +kernel
theorem dX3_quarrelPairs_24 : decode cX3_quarrelPairs 24 = .ok (.iinc 2 1, 3) := by decide +kernel
theorem dX3_quarrelPairs_27 : decode cX3_quarrelPairs 27 = .ok (.goto (-23), 3) := by decide +kernel
theorem dX3_quarrelPairs_30 : decode cX3_quarrelPairs 30 = .ok (.iload_n 1, 1) := by decide +kernel
theorem dX3_quarrelPairs_31 : decode cX3_quarrelPairs 31 = .ok (.iconst 2, 1) := by decide +kernel
theorem dX3_quarrelPairs_32 : decode cX3_quarrelPairs 32 = .ok (.idiv, 1) := by decide +kernel
theorem dX3_quarrelPairs_33 : decode cX3_quarrelPairs 33 = .ok (.ireturn, 1) := by decide +kernel
set_option maxRecDepth 20000 in
theorem ggX3_isRipe_X3_hasTree : GoodIn wsX3_isRipe wsX3_hasTree := goodIn_r _ [6, 7, 8, 9, 10, 11, 12, 13, 14, 15, 16, 17] (by decide +kernel) (by decide +kernel)
set_option maxRecDepth 20000 in
theorem gX3_isRipe_X3_hasTree : GoodIn wsX3_isRipe (wsV RX3 57 RX3 yX3_hasTree wsX3_hasTree) := goodIn_app (goodIn_of _ (by decide +kernel)) ggX3_isRipe_X3_hasTree
theorem dX3_isRipe_0 : decode cX3_isRipe 0 = .ok (.aload_n 0, 1) := by decide +kernel
theorem dX3_isRipe_1 : decode cX3_isRipe 1 = .ok (.iload_n 1, 1) := by decide +kernel
theorem dX3_isRipe_2 : decode cX3_isRipe 2 = .ok (.invokevirtual 57, 3) := by decide +kernel
theorem dX3_isRipe_5 : decode cX3_isRipe 5 = .ok (.ifCond .eq 29, 3) := by decide +kernel
theorem dX3_isRipe_8 : decode cX3_isRipe 8 = .ok (.iload_n 2, 1) := by decide +kernel
theorem dX3_isRipe_9 : decode cX3_isRipe 9 = .ok (.aload_n 0, 1) := by decide +kernel
theorem dX3_isRipe_10 : decode cX3_isRipe 10 = .ok (.getfield 37, 3) := by decide +kernel
theorem dX3_isRipe_13 : decode cX3_isRipe 13 = .ok (.iload_n 1, 1) := by decide +kernel
theorem dX3_isRipe_14 : decode cX3_isRipe 14 = .ok (.iaload, 1) := by decide +kernel
theorem dX3_isRipe_15 : decode cX3_isRipe 15 = .ok (.if_icmp .lt 19, 3) := by decide +kernel
theorem dX3_isRipe_18 : decode cX3_isRipe 18 = .ok (.iload_n 2, 1) := by decide +kernel
theorem dX3_isRipe_19 : decode cX3_isRipe 19 = .ok (.aload_n 0, 1) := by decide +kernel
theorem dX3_isRipe_20 : decode cX3_isRipe 20 = .ok (.getfield 37, 3) := by decide +kernel
theorem dX3_isRipe_23 : decode cX3_isRipe 23 = .ok (.iload_n 1, 1) := by decide +kernel
theorem dX3_isRipe_24 : decode cX3_isRipe 24 = .ok (.iaload, 1) := by decide +kernel
theorem dX3_isRipe_25 : decode cX3_isRipe 25 = .ok (.iconst 3, 1) := by decide +kernel
theorem dX3_isRipe_26 : decode cX3_isRipe 26 = .ok (.iadd, 1) := by decide +kernel
theorem dX3_isRipe_27 : decode cX3_isRipe 27 = .ok (.if_icmp .gt 7, 3) := by decide +kernel
theorem dX3_isRipe_30 : decode cX3_isRipe 30 = .ok (.iconst 1, 1) := by decide +kernel
theorem dX3_isRipe_31 : decode cX3_isRipe 31 = .ok (.goto 4, 3) := by decide +kernel
theorem dX3_isRipe_34 : decode cX3_isRipe 34 = .ok (.iconst 0, 1) := by decide +kernel
theorem dX3_isRipe_35 : decode cX3_isRipe 35 = .ok (.ireturn, 1) := by decide +kernel
theorem dX4_init_0 : decode cX4_init 0 = .ok (.aload_n 0, 1) := by decide +kernel
theorem dX4_init_1 : decode cX4_init 1 = .ok (.invokespecial 3, 3) := by decide +kernel
theorem dX4_init_4 : decode cX4_init 4 = .ok (.aload_n 0, 1) := by decide +kernel
theorem dX4_init_5 : decode cX4_init 5 = .ok (.iconst 0, 1) := by decide +kernel
theorem dX4_init_6 : decode cX4_init 6 = .ok (.putfield 9, 3) := by decide +kernel
theorem dX4_init_9 : decode cX4_init 9 = .ok (.aload_n 0, 1) := by decide +kernel
theorem dX4_init_10 : decode cX4_init 10 = .ok (.iconst 0, 1) := by decide +kernel
theorem dX4_init_11 : decode cX4_init 11 = .ok (.putfield 15, 3) := by decide +kernel
theorem dX4_init_14 : decode cX4_init 14 = .ok (.aload_n 0, 1) := by decide +kernel
theorem dX4_init_15 : decode cX4_init 15 = .ok (.bipush 16, 2) := by decide +kernel
theorem dX4_init_17 : decode cX4_init 17 = .ok (.newarray .int, 2) := by decide +kernel
theorem dX4_init_19 : decode cX4_init 19 = .ok (.putfield 18, 3) := by decide +kernel
theorem dX4_init_22 : decode cX4_init 22 = .ok (.aload_n 0, 1) := by decide +kernel
theorem dX4_init_23 : decode cX4_init 23 = .ok (.bipush 16, 2) := by decide +kernel
theorem dX4_init_25 : decode cX4_init 25 = .ok (.newarray .int, 2) := by decide +kernel
theorem dX4_init_27 : decode cX4_init 27 = .ok (.putfield 22, 3) := by decide +kernel
theorem dX4_init_30 : decode cX4_init 30 = .ok (.aload_n 0, 1) := by decide +kernel
theorem dX4_init_31 : decode cX4_init 31 = .ok (.bipush 16, 2) := by decide +kernel
theorem dX4_init_33 : decode cX4_init 33 = .ok (.newarray .int, 2) := by decide +kernel
theorem dX4_init_35 : decode cX4_init 35 = .ok (.putfield 25, 3) := by decide +kernel
theorem dX4_init_38 : decode cX4_init 38 = .ok (.aload_n 0, 1) := by decide +kernel
theorem dX4_init_39 : decode cX4_init 39 = .ok (.bipush 16, 2) := by decide +kernel
theorem dX4_init_41 : decode cX4_init 41 = .ok (.newarray .int, 2) := by decide +kernel
theorem dX4_init_43 : decode cX4_init 43 = .ok (.putfield 28, 3) := by decide +kernel
theorem dX4_init_46 : decode cX4_init 46 = .ok (.aload_n 0, 1) := by decide +kernel
theorem dX4_init_47 : decode cX4_init 47 = .ok (.bipush 16, 2) := by decide +kernel
theorem dX4_init_49 : decode cX4_init 49 = .ok (.newarray .int, 2) := by decide +kernel
theorem dX4_init_51 : decode cX4_init 51 = .ok (.putfield 31, 3) := by decide +kernel
theorem dX4_init_54 : decode cX4_init 54 = .ok (.aload_n 0, 1) := by decide +kernel
theorem dX4_init_55 : decode cX4_init 55 = .ok (.bipush 16, 2) := by decide +kernel
theorem dX4_init_57 : decode cX4_init 57 = .ok (.newarray .int, 2) := by decide +kernel
theorem dX4_init_59 : decode cX4_init 59 = .ok (.putfield 34, 3) := by decide +kernel
theorem dX4_init_62 : decode cX4_init 62 = .ok (.return_, 1) := by decide +kernel
set_option maxRecDepth 20000 in
theorem ggX4_list_X4_listOf : GoodIn wsX4_list wsX4_listOf := goodIn_r _ [9, 3, 1, 10, 11, 12, 13, 14, 15, 16, 17, 18, 19, 20, 21, 22, 23, 24, 25, 26, 27, 28, 29, 30, 31, 32, 33, 34, 35, 36, 37, 38, 39, 48, 49, 50, 51, 52, 53, 54, 55, 56, 57, 40, 41, 42, 43, 44, 45, 46, 47] (by decide +kernel) (by decide +kernel)
set_option maxRecDepth 20000 in
theorem gX4_list_X4_listOf : GoodIn wsX4_list (wsV RX4 45 RX4 yX4_listOf wsX4_listOf) := goodIn_app (goodIn_of _ (by decide +kernel)) ggX4_list_X4_listOf
theorem dX4_list_0 : decode cX4_list 0 = .ok (.aload_n 0, 1) := by decide +kernel
theorem dX4_list_1 : decode cX4_list 1 = .ok (.iconst 0, 1) := by decide +kernel
theorem dX4_list_2 : decode cX4_list 2 = .ok (.putfield 9, 3) := by decide +kernel
theorem dX4_list_5 : decode cX4_list 5 = .ok (.aload_n 0, 1) := by decide +kernel
theorem dX4_list_6 : decode cX4_list 6 = .ok (.iconst 0, 1) := by decide +kernel
theorem dX4_list_7 : decode cX4_list 7 = .ok (.putfield 15, 3) := by decide +kernel
theorem dX4_list_10 : decode cX4_list 10 = .ok (.iconst 0, 1) := by decide +kernel
theorem dX4_list_11 : decode cX4_list 11 = .ok (.istore_n 2, 1) := by decide +kernel
theorem dX4_list_12 : decode cX4_list 12 = .ok (.iload_n 2, 1) := by decide +kernel
theorem dX4_list_13 : decode cX4_list 13 = .ok (.aload_n 1, 1) := by decide +kernel
theorem dX4_list_14 : decode cX4_list 14 = .ok (.getfield 37, 3) := by decide +kernel
theorem dX4_list_17 : decode cX4_list 17 = .ok (.if_icmp .ge 36, 3) := by decide +kernel
theorem dX4_list_20 : decode cX4_list 20 = .ok (.aload_n 1, 1) := by decide +kernel
theorem dX4_list_21 : decode cX4_list 21 = .ok (.getfield 42, 3) := by decide +kernel
theorem dX4_list_24 : decode cX4_list 24 = .ok (.iload_n 2, 1) := by decide +kernel
theorem dX4_list_25 : decode cX4_list 25 = .ok (.iaload, 1) := by decide +kernel
theorem dX4_list_26 : decode cX4_list 26 = .ok (.ifCond .ne 21, 3) := by decide +kernel
theorem dX4_list_29 : decode cX4_list 29 = .ok (.aload_n 0, 1) := by decide +kernel
theorem dX4_list_30 : decode cX4_list 30 = .ok (.dup, 1) := by decide +kernel
theorem dX4_list_31 : decode cX4_list 31 = .ok (.getfield 15, 3) := by decide +kernel
theorem dX4_list_34 : decode cX4_list 34 = .ok (.iconst 1, 1) := by decide +kernel
theorem dX4_list_35 : decode cX4_list 35 = .ok (.iload_n 2, 1) := by decide +kernel
theorem dX4_list_36 : decode cX4_list 36 = .ok (.ishl, 1) := by decide +kernel
theorem dX4_list_37 : decode cX4_list 37 = .ok (.ior, 1) := by decide +kernel
theorem dX4_list_38 : decode cX4_list 38 = .ok (.putfield 15, 3) := by decide +kernel
theorem dX4_list_41 : decode cX4_list 41 = .ok (.aload_n 0, 1) := by decide +kernel
theorem dX4_list_42 : decode cX4_list 42 = .ok (.aload_n 1, 1) := by decide +kernel
theorem dX4_list_43 : decode cX4_list 43 = .ok (.iload_n 2, 1) := by decide +kernel
theorem dX4_list_44 : decode cX4_list 44 = .ok (.invokevirtual 45, 3) := by decide +kernel
theorem dX4_list_47 : decode cX4_list 47 = .ok (.iinc 2 1, 3) := by decide +kernel
theorem dX4_list_50 : decode cX4_list 50 = .ok (.goto (-38), 3) := by decide +kernel
theorem dX4_list_53 : decode cX4_list 53 = .ok (.return_, 1) := by decide +kernel
set_option maxRecDepth 20000 in
theorem ggX4_listOf_X3_fits : GoodIn wsX4_listOf wsX3_fits := goodIn_r _ [20, 21, 22, 23, 24, 19, 25, 26, 27, 28, 29, 30, 31, 32, 33, 34, 35, 36, 37, 38, 39, 40, 41, 42] (by decide +kernel) (by decide +kernel)
set_option maxRecDepth 20000 in
theorem gX4_listOf_X3_fits : GoodIn wsX4_listOf (wsV RX4 49 RX3 yX3_fits wsX3_fits) := goodIn_app (goodIn_of _ (by decide +kernel)) ggX4_listOf_X3_fits
theorem dX4_listOf_0 : decode cX4_listOf 0 = .ok (.iconst 0, 1) := by decide +kernel
theorem dX4_listOf_1 : decode cX4_listOf 1 = .ok (.istore_n 3, 1) := by decide +kernel
theorem dX4_listOf_2 : decode cX4_listOf 2 = .ok (.iload_n 3, 1) := by decide +kernel
theorem dX4_listOf_3 : decode cX4_listOf 3 = .ok (.aload_n 1, 1) := by decide +kernel
theorem dX4_listOf_4 : decode cX4_listOf 4 = .ok (.getfield 37, 3) := by decide +kernel
theorem dX4_listOf_7 : decode cX4_listOf 7 = .ok (.if_icmp .ge 134, 3) := by decide +kernel
theorem dX4_listOf_10 : decode cX4_listOf 10 = .ok (.aload_n 1, 1) := by decide +kernel
theorem dX4_listOf_11 : decode cX4_listOf 11 = .ok (.iload_n 2, 1) := by decide +kernel
theorem dX4_listOf_12 : decode cX4_listOf 12 = .ok (.iload_n 3, 1) := by decide +kernel
theorem dX4_listOf_13 : decode cX4_listOf 13 = .ok (.invokevirtual 49, 3) := by decide +kernel
theorem dX4_listOf_16 : decode cX4_listOf 16 = .ok (.ifCond .eq 119, 3) := by decide +kernel
theorem dX4_listOf_19 : decode cX4_listOf 19 = .ok (.aload_n 0, 1) := by decide +kernel
theorem dX4_listOf_20 : decode cX4_listOf 20 = .ok (.getfield 9, 3) := by decide +kernel
theorem dX4_listOf_23 : decode cX4_listOf 23 = .ok (.bipush 16, 2) := by decide +kernel
theorem dX4_listOf_25 : decode cX4_listOf 25 = .ok (.if_icmp .ge 110, 3) := by decide +kernel
theorem dX4_listOf_28 : decode cX4_listOf 28 = .ok (.aload_n 0, 1) := by decide +kernel
theorem dX4_listOf_29 : decode cX4_listOf 29 = .ok (.getfield 18, 3) := by decide +kernel
theorem dX4_listOf_32 : decode cX4_listOf 32 = .ok (.aload_n 0, 1) := by decide +kernel
theorem dX4_listOf_33 : decode cX4_listOf 33 = .ok (.getfield 9, 3) := by decide +kernel
theorem dX4_listOf_36 : decode cX4_listOf 36 = .ok (.iload_n 2, 1) := by decide +kernel
theorem dX4_listOf_37 : decode cX4_listOf 37 = .ok (.iastore, 1) := by decide +kernel
theorem dX4_listOf_38 : decode cX4_listOf 38 = .ok (.aload_n 0, 1) := by decide +kernel
theorem dX4_listOf_39 : decode cX4_listOf 39 = .ok (.getfield 22, 3) := by decide +kernel
theorem dX4_listOf_42 : decode cX4_listOf 42 = .ok (.aload_n 0, 1) := by decide +kernel
theorem dX4_listOf_43 : decode cX4_listOf 43 = .ok (.getfield 9, 3) := by decide +kernel
theorem dX4_listOf_46 : decode cX4_listOf 46 = .ok (.iload_n 3, 1) := by decide +kernel
theorem dX4_listOf_47 : decode cX4_listOf 47 = .ok (.iastore, 1) := by decide +kernel
theorem dX4_listOf_48 : decode cX4_listOf 48 = .ok (.aload_n 0, 1) := by decide +kernel
theorem dX4_listOf_49 : decode cX4_listOf 49 = .ok (.getfield 25, 3) := by decide +kernel
theorem dX4_listOf_52 : decode cX4_listOf 52 = .ok (.aload_n 0, 1) := by decide +kernel
theorem dX4_listOf_53 : decode cX4_listOf 53 = .ok (.getfield 9, 3) := by decide +kernel
theorem dX4_listOf_56 : decode cX4_listOf 56 = .ok (.iconst 1, 1) := by decide +kernel
theorem dX4_listOf_57 : decode cX4_listOf 57 = .ok (.iload_n 2, 1) := by decide +kernel
theorem dX4_listOf_58 : decode cX4_listOf 58 = .ok (.ishl, 1) := by decide +kernel
theorem dX4_listOf_59 : decode cX4_listOf 59 = .ok (.iconst 1, 1) := by decide +kernel
theorem dX4_listOf_60 : decode cX4_listOf 60 = .ok (.iload_n 3, 1) := by decide +kernel
theorem dX4_listOf_61 : decode cX4_listOf 61 = .ok (.ishl, 1) := by decide +kernel
theorem dX4_listOf_62 : decode cX4_listOf 62 = .ok (.ior, 1) := by decide +kernel
theorem dX4_listOf_63 : decode cX4_listOf 63 = .ok (.iastore, 1) := by decide +kernel
theorem dX4_listOf_64 : decode cX4_listOf 64 = .ok (.aload_n 0, 1) := by decide +kernel
theorem dX4_listOf_65 : decode cX4_listOf 65 = .ok (.getfield 28, 3) := by decide +kernel
theorem dX4_listOf_68 : decode cX4_listOf 68 = .ok (.aload_n 0, 1) := by decide +kernel
theorem dX4_listOf_69 : decode cX4_listOf 69 = .ok (.getfield 9, 3) := by decide +kernel
theorem dX4_listOf_72 : decode cX4_listOf 72 = .ok (.aload_n 1, 1) := by decide +kernel
theorem dX4_listOf_73 : decode cX4_listOf 73 = .ok (.getfield 53, 3) := by decide +kernel
theorem dX4_listOf_76 : decode cX4_listOf 76 = .ok (.iload_n 2, 1) := by decide +kernel
theorem dX4_listOf_77 : decode cX4_listOf 77 = .ok (.iaload, 1) := by decide +kernel
theorem dX4_listOf_78 : decode cX4_listOf 78 = .ok (.iastore, 1) := by decide +kernel
theorem dX4_listOf_79 : decode cX4_listOf 79 = .ok (.aload_n 0, 1) := by decide +kernel
theorem dX4_listOf_80 : decode cX4_listOf 80 = .ok (.getfield 31, 3) := by decide +kernel
theorem dX4_listOf_83 : decode cX4_listOf 83 = .ok (.aload_n 0, 1) := by decide +kernel
theorem dX4_listOf_84 : decode cX4_listOf 84 = .ok (.getfield 9, 3) := by decide +kernel
theorem dX4_listOf_87 : decode cX4_listOf 87 = .ok (.aload_n 1, 1) := by decide +kernel
theorem dX4_listOf_88 : decode cX4_listOf 88 = .ok (.getfield 54, 3) := by decide +kernel
theorem dX4_listOf_91 : decode cX4_listOf 91 = .ok (.iload_n 2, 1) := by decide +kernel
theorem dX4_listOf_92 : decode cX4_listOf 92 = .ok (.iaload, 1) := by decide +kernel
theorem dX4_listOf_93 : decode cX4_listOf 93 = .ok (.aload_n 1, 1) := by decide +kernel
theorem dX4_listOf_94 : decode cX4_listOf 94 = .ok (.getfield 54, 3) := by decide +kernel
theorem dX4_listOf_97 : decode cX4_listOf 97 = .ok (.iload_n 3, 1) := by decide +kernel
theorem dX4_listOf_98 : decode cX4_listOf 98 = .ok (.iaload, 1) := by decide +kernel
theorem dX4_listOf_99 : decode cX4_listOf 99 = .ok (.invokestatic 57, 3) := by decide +kernel
theorem dX4_listOf_102 : decode cX4_listOf 102 = .ok (.iastore, 1) := by decide +kernel
theorem dX4_listOf_103 : decode cX4_listOf 103 = .ok (.aload_n 0, 1) := by decide +kernel
theorem dX4_listOf_104 : decode cX4_listOf 104 = .ok (.getfield 34, 3) := by decide +kernel
theorem dX4_listOf_107 : decode cX4_listOf 107 = .ok (.aload_n 0, 1) := by decide +kernel
theorem dX4_listOf_108 : decode cX4_listOf 108 = .ok (.getfield 9, 3) := by decide +kernel
theorem dX4_listOf_111 : decode cX4_listOf 111 = .ok (.aload_n 1, 1) := by decide +kernel
theorem dX4_listOf_112 : decode cX4_listOf 112 = .ok (.getfield 63, 3) := by decide +kernel
theorem dX4_listOf_115 : decode cX4_listOf 115 = .ok (.iload_n 2, 1) := by decide +kernel
theorem dX4_listOf_116 : decode cX4_listOf 116 = .ok (.iaload, 1) := by decide +kernel
theorem dX4_listOf_117 : decode cX4_listOf 117 = .ok (.aload_n 1, 1) := by decide +kernel
theorem dX4_listOf_118 : decode cX4_listOf 118 = .ok (.getfield 63, 3) := by decide +kernel
theorem dX4_listOf_121 : decode cX4_listOf 121 = .ok (.iload_n 3, 1) := by decide +kernel
theorem dX4_listOf_122 : decode cX4_listOf 122 = .ok (.iaload, 1) := by decide +kernel
theorem dX4_listOf_123 : decode cX4_listOf 123 = .ok (.iadd, 1) := by decide +kernel
theorem dX4_listOf_124 : decode cX4_listOf 124 = .ok (.iastore, 1) := by decide +kernel
theorem dX4_listOf_125 : decode cX4_listOf 125 = .ok (.aload_n 0, 1) := by decide +kernel
theorem dX4_listOf_126 : decode cX4_listOf 126 = .ok (.dup, 1) := by decide +kernel
theorem dX4_listOf_127 : decode cX4_listOf 127 = .ok (.getfield 9, 3) := by decide +kernel
theorem dX4_listOf_130 : decode cX4_listOf 130 = .ok (.iconst 1, 1) := by decide +kernel
theorem dX4_listOf_131 : decode cX4_listOf 131 = .ok (.iadd, 1) := by decide +kernel
theorem dX4_listOf_132 : decode cX4_listOf 132 = .ok (.putfield 9, 3) := by decide +kernel
theorem dX4_listOf_135 : decode cX4_listOf 135 = .ok (.iinc 3 1, 3) := by decide +kernel
theorem dX4_listOf_138 : decode cX4_listOf 138 = .ok (.goto (-136), 3) := by decide +kernel
theorem dX4_listOf_141 : decode cX4_listOf 141 = .ok (.return_, 1) := by decide +kernel
theorem dX4_indexOf_0 : decode cX4_indexOf 0 = .ok (.iconst 0, 1) := by decide +kernel
theorem dX4_indexOf_1 : decode cX4_indexOf 1 = .ok (.istore_n 2, 1) := by decide +kernel
theorem dX4_indexOf_2 : decode cX4_indexOf 2 = .ok (.iload_n 2, 1) := by decide +kernel
theorem dX4_indexOf_3 : decode cX4_indexOf 3 = .ok (.aload_n 0, 1) := by decide +kernel
theorem dX4_indexOf_4 : decode cX4_indexOf 4 = .ok (.getfield 9, 3) := by decide +kernel
theorem dX4_indexOf_7 : decode cX4_indexOf 7 = .ok (.if_icmp .ge 21, 3) := by decide +kernel
theorem dX4_indexOf_10 : decode cX4_indexOf 10 = .ok (.aload_n 0, 1) := by decide +kernel
theorem dX4_indexOf_11 : decode cX4_indexOf 11 = .ok (.getfield 25, 3) := by decide +kernel
theorem dX4_indexOf_14 : decode cX4_indexOf 14 = .ok (.iload_n 2, 1) := by decide +kernel
theorem dX4_indexOf_15 : decode cX4_indexOf 15 = .ok (.iaload, 1) := by decide +kernel
theorem dX4_indexOf_16 : decode cX4_indexOf 16 = .ok (.iload_n 1, 1) := by decide +kernel
theorem dX4_indexOf_17 : decode cX4_indexOf 17 = .ok (.if_icmp .ne 5, 3) := by decide +kernel
theorem dX4_indexOf_20 : decode cX4_indexOf 20 = .ok (.iload_n 2, 1) := by decide +kernel
theorem dX4_indexOf_21 : decode cX4_indexOf 21 = .ok (.ireturn, 1) := by decide +kernel
theorem dX4_indexOf_22 : decode cX4_indexOf 22 = .ok (.iinc 2 1, 3) := by decide +kernel
theorem dX4_indexOf_25 : decode cX4_indexOf 25 = .ok (.goto (-23), 3) := by decide +kernel
theorem dX4_indexOf_28 : decode cX4_indexOf 28 = .ok (.iconst (-1), 1) := by decide +kernel
theorem dX4_indexOf_29 : decode cX4_indexOf 29 = .ok (.ireturn, 1) := by decide +kernel
theorem dX4_numberOf_0 : decode cX4_numberOf 0 = .ok (.iload_n 1, 1) := by decide +kernel
theorem dX4_numberOf_1 : decode cX4_numberOf 1 = .ok (.ifCond .lt 30, 3) := by decide +kernel
theorem dX4_numberOf_4 : decode cX4_numberOf 4 = .ok (.iload_n 1, 1) := by decide +kernel
theorem dX4_numberOf_5 : decode cX4_numberOf 5 = .ok (.aload_n 0, 1) := by decide +kernel
theorem dX4_numberOf_6 : decode cX4_numberOf 6 = .ok (.getfield 9, 3) := by decide +kernel
theorem dX4_numberOf_9 : decode cX4_numberOf 9 = .ok (.if_icmp .ge 22, 3) := by decide +kernel
theorem dX4_numberOf_12 : decode cX4_numberOf 12 = .ok (.bipush 10, 2) := by decide +kernel
theorem dX4_numberOf_14 : decode cX4_numberOf 14 = .ok (.aload_n 0, 1) := by decide +kernel
theorem dX4_numberOf_15 : decode cX4_numberOf 15 = .ok (.getfield 18, 3) := by decide +kernel
theorem dX4_numberOf_18 : decode cX4_numberOf 18 = .ok (.iload_n 1, 1) := by decide +kernel
theorem dX4_numberOf_19 : decode cX4_numberOf 19 = .ok (.iaload, 1) := by decide +kernel
theorem dX4_numberOf_20 : decode cX4_numberOf 20 = .ok (.imul, 1) := by decide +kernel
theorem dX4_numberOf_21 : decode cX4_numberOf 21 = .ok (.aload_n 0, 1) := by decide +kernel
theorem dX4_numberOf_22 : decode cX4_numberOf 22 = .ok (.getfield 22, 3) := by decide +kernel
theorem dX4_numberOf_25 : decode cX4_numberOf 25 = .ok (.iload_n 1, 1) := by decide +kernel
theorem dX4_numberOf_26 : decode cX4_numberOf 26 = .ok (.iaload, 1) := by decide +kernel
theorem dX4_numberOf_27 : decode cX4_numberOf 27 = .ok (.iadd, 1) := by decide +kernel
theorem dX4_numberOf_28 : decode cX4_numberOf 28 = .ok (.goto 5, 3) := by decide +kernel
theorem dX4_numberOf_31 : decode cX4_numberOf 31 = .ok (.bipush (-9), 2) := by decide +kernel
theorem dX4_numberOf_33 : decode cX4_numberOf 33 = .ok (.ireturn, 1) := by decide +kernel
theorem dX4_howManyWith_0 : decode cX4_howManyWith 0 = .ok (.iconst 0, 1) := by decide +kernel
theorem dX4_howManyWith_1 : decode cX4_howManyWith 1 = .ok (.istore_n 2, 1) := by decide +kernel
theorem dX4_howManyWith_2 : decode cX4_howManyWith 2 = .ok (.iconst 0, 1) := by decide +kernel
theorem dX4_howManyWith_3 : decode cX4_howManyWith 3 = .ok (.istore_n 3, 1) := by decide +kernel
theorem dX4_howManyWith_4 : decode cX4_howManyWith 4 = .ok (.iload_n 3, 1) := by decide +kernel
theorem dX4_howManyWith_5 : decode cX4_howManyWith 5 = .ok (.aload_n 0, 1) := by decide +kernel
theorem dX4_howManyWith_6 : decode cX4_howManyWith 6 = .ok (.getfield 9, 3) := by decide +kernel
theorem dX4_howManyWith_9 : decode cX4_howManyWith 9 = .ok (.if_icmp .ge 22, 3) := by decide +kernel
theorem dX4_howManyWith_12 : decode cX4_howManyWith 12 = .ok (.iload_n 2, 1) := by decide +kernel
theorem dX4_howManyWith_13 : decode cX4_howManyWith 13 = .ok (.aload_n 0, 1) := by decide +kernel
theorem dX4_howManyWith_14 : decode cX4_howManyWith 14 = .ok (.getfield 25, 3) := by decide +kernel
theorem dX4_howManyWith_17 : decode cX4_howManyWith 17 = .ok (.iload_n 3, 1) := by decide +kernel
theorem dX4_howManyWith_18 : decode cX4_howManyWith 18 = .ok (.iaload, 1) := by decide +kernel
theorem dX4_howManyWith_19 : decode cX4_howManyWith 19 = .ok (.iload_n 1, 1) := by decide +kernel
theorem dX4_howManyWith_20 : decode cX4_howManyWith 20 = .ok (.ishr, 1) := by decide +kernel
theorem dX4_howManyWith_21 : decode cX4_howManyWith 21 = .ok (.iconst 1, 1) := by decide +kernel
theorem dX4_howManyWith_22 : decode cX4_howManyWith 22 = .ok (.iand, 1) := by decide +kernel
theorem dX4_howManyWith_23 : decode cX4_howManyWith 23 = .ok (.iadd, 1) := by decide +kernel
theorem dX4_howManyWith_24 : decode cX4_howManyWith 24 = .ok (.istore_n 2, 1) := by decide +kernel
theorem dX4_howManyWith_25 : decode cX4_howManyWith 25 = .ok (.iinc 3 1, 3) := by decide +kernel
theorem dX4_howManyWith_28 : decode cX4_howManyWith 28 = .ok (.goto (-24), 3) := by decide +kernel
theorem dX4_howManyWith_31 : decode cX4_howManyWith 31 = .ok (.iload_n 2, 1) := by decide +kernel
theorem dX4_howManyWith_32 : decode cX4_howManyWith 32 = .ok (.ireturn, 1) := by decide +kernel
theorem dX4_leavesMarks_0 : decode cX4_leavesMarks 0 = .ok (.aload_n 0, 1) := by decide +kernel
theorem dX4_leavesMarks_1 : decode cX4_leavesMarks 1 = .ok (.getfield 28, 3) := by decide +kernel
theorem dX4_leavesMarks_4 : decode cX4_leavesMarks 4 = .ok (.iload_n 1, 1) := by decide +kernel
theorem dX4_leavesMarks_5 : decode cX4_leavesMarks 5 = .ok (.iaload, 1) := by decide +kernel
theorem dX4_leavesMarks_6 : decode cX4_leavesMarks 6 = .ok (.iload_n 2, 1) := by decide +kernel
theorem dX4_leavesMarks_7 : decode cX4_leavesMarks 7 = .ok (.if_icmp .ne 17, 3) := by decide +kernel
theorem dX4_leavesMarks_10 : decode cX4_leavesMarks 10 = .ok (.aload_n 0, 1) := by decide +kernel
theorem dX4_leavesMarks_11 : decode cX4_leavesMarks 11 = .ok (.getfield 31, 3) := by decide +kernel
theorem dX4_leavesMarks_14 : decode cX4_leavesMarks 14 = .ok (.iload_n 1, 1) := by decide +kernel
theorem dX4_leavesMarks_15 : decode cX4_leavesMarks 15 = .ok (.iaload, 1) := by decide +kernel
theorem dX4_leavesMarks_16 : decode cX4_leavesMarks 16 = .ok (.iload_n 3, 1) := by decide +kernel
theorem dX4_leavesMarks_17 : decode cX4_leavesMarks 17 = .ok (.if_icmp .lt 7, 3) := by decide +kernel
theorem dX4_leavesMarks_20 : decode cX4_leavesMarks 20 = .ok (.iconst 1, 1) := by decide +kernel
theorem dX4_leavesMarks_21 : decode cX4_leavesMarks 21 = .ok (.goto 4, 3) := by decide +kernel
theorem dX4_leavesMarks_24 : decode cX4_leavesMarks 24 = .ok (.iconst 0, 1) := by decide +kernel
theorem dX4_leavesMarks_25 : decode cX4_leavesMarks 25 = .ok (.ireturn, 1) := by decide +kernel
set_option maxRecDepth 20000 in
theorem ggX4_howMany_X4_leavesMarks : GoodIn wsX4_howMany wsX4_leavesMarks := goodIn_r _ [6, 7, 8, 9, 10, 11, 12, 13, 14, 15, 16] (by decide +kernel) (by decide +kernel)
set_option maxRecDepth 20000 in
theorem gX4_howMany_X4_leavesMarks : GoodIn wsX4_howMany (wsV RX4 66 RX4 yX4_leavesMarks wsX4_leavesMarks) := goodIn_app (goodIn_of _ (by decide +kernel)) ggX4_howMany_X4_leavesMarks
theorem dX4_howMany_0 : decode cX4_howMany 0 = .ok (.iconst 0, 1) := by decide +kernel
theorem dX4_howMany_1 : decode cX4_howMany 1 = .ok (.istore_n 3, 1) := by decide +kernel
theorem dX4_howMany_2 : decode cX4_howMany 2 = .ok (.iconst 0, 1) := by decide +kernel
theorem dX4_howMany_3 : decode cX4_howMany 3 = .ok (.istore 4, 2) := by decide +kernel
theorem dX4_howMany_5 : decode cX4_howMany 5 = .ok (.iload 4, 2) := by decide +kernel
theorem dX4_howMany_7 : decode cX4_howMany 7 = .ok (.aload_n 0, 1) := by decide +kernel
theorem dX4_howMany_8 : decode cX4_howMany 8 = .ok (.getfield 9, 3) := by decide +kernel
theorem dX4_howMany_11 : decode cX4_howMany 11 = .ok (.if_icmp .ge 23, 3) := by decide +kernel
theorem dX4_howMany_14 : decode cX4_howMany 14 = .ok (.aload_n 0, 1) := by decide +kernel
theorem dX4_howMany_15 : decode cX4_howMany 15 = .ok (.iload 4, 2) := by decide +kernel
theorem dX4_howMany_17 : decode cX4_howMany 17 = .ok (.iload_n 1, 1) := by decide +kernel
theorem dX4_howMany_18 : decode cX4_howMany 18 = .ok (.iload_n 2, 1) := by decide +kernel
theorem dX4_howMany_19 : decode cX4_howMany 19 = .ok (.invokevirtual 66, 3) := by decide +kernel
theorem dX4_howMany_22 : decode cX4_howMany 22 = .ok (.ifCond .eq 6, 3) := by decide +kernel
theorem dX4_howMany_25 : decode cX4_howMany 25 = .ok (.iinc 3 1, 3) := by decide +kernel
theorem dX4_howMany_28 : decode cX4_howMany 28 = .ok (.iinc 4 1, 3) := by decide +kernel
theorem dX4_howMany_31 : decode cX4_howMany 31 = .ok (.goto (-26), 3) := by decide +kernel
theorem dX4_howMany_34 : decode cX4_howMany 34 = .ok (.iload_n 3, 1) := by decide +kernel
theorem dX4_howMany_35 : decode cX4_howMany 35 = .ok (.ireturn, 1) := by decide +kernel
set_option maxRecDepth 20000 in
theorem ggX4_firstOf_X4_leavesMarks : GoodIn wsX4_firstOf wsX4_leavesMarks := goodIn_r _ [6, 7, 8, 15, 16, 17, 18, 19, 20, 21, 22] (by decide +kernel) (by decide +kernel)
set_option maxRecDepth 20000 in
theorem gX4_firstOf_X4_leavesMarks : GoodIn wsX4_firstOf (wsV RX4 66 RX4 yX4_leavesMarks wsX4_leavesMarks) := goodIn_app (goodIn_of _ (by decide +kernel)) ggX4_firstOf_X4_leavesMarks
set_option maxRecDepth 20000 in
theorem ggX4_firstOf_X4_numberOf : GoodIn wsX4_firstOf wsX4_numberOf := goodIn_r _ [12, 1, 13, 14, 15, 16, 17, 18, 19, 20, 21, 22] (by decide +kernel) (by decide +kernel)
set_option maxRecDepth 20000 in
theorem gX4_firstOf_X4_numberOf : GoodIn wsX4_firstOf (wsV RX4 70 RX4 yX4_numberOf wsX4_numberOf) := goodIn_app (goodIn_of _ (by decide +kernel)) ggX4_firstOf_X4_numberOf
theorem dX4_firstOf_0 : decode cX4_firstOf 0 = .ok (.iconst 0, 1) := by decide +kernel
theorem dX4_firstOf_1 : decode cX4_firstOf 1 = .ok (.istore_n 3, 1) := by decide +kernel
theorem dX4_firstOf_2 : decode cX4_firstOf 2 = .ok (.iload_n 3, 1) := by decide +kernel
theorem dX4_firstOf_3 : decode cX4_firstOf 3 = .ok (.aload_n 0, 1) := by decide +kernel
theorem dX4_firstOf_4 : decode cX4_firstOf 4 = .ok (.getfield 9, 3) := by decide +kernel
theorem dX4_firstOf_7 : decode cX4_firstOf 7 = .ok (.if_icmp .ge 25, 3) := by decide +kernel
theorem dX4_firstOf_10 : decode cX4_firstOf 10 = .ok (.aload_n 0, 1) := by decide +kernel
theorem dX4_firstOf_11 : decode cX4_firstOf 11 = .ok (.iload_n 3, 1) := by decide +kernel
theorem dX4_firstOf_12 : decode cX4_firstOf 12 = .ok (.iload_n 1, 1) := by decide +kernel
theorem dX4_firstOf_13 : decode cX4_firstOf 13 = .ok (.iload_n 2, 1) := by decide +kernel
theorem dX4_firstOf_14 : decode cX4_firstOf 14 = .ok (.invokevirtual 66, 3) := by decide +kernel
theorem dX4_firstOf_17 : decode cX4_firstOf 17 = .ok (.ifCond .eq 9, 3) := by decide +kernel
theorem dX4_firstOf_20 : decode cX4_firstOf 20 = .ok (.aload_n 0, 1) := by decide +kernel
theorem dX4_firstOf_21 : decode cX4_firstOf 21 = .ok (.iload_n 3, 1) := by decide +kernel
theorem dX4_firstOf_22 : decode cX4_firstOf 22 = .ok (.invokevirtual 70, 3) := by decide +kernel
theorem dX4_firstOf_25 : decode cX4_firstOf 25 = .ok (.ireturn, 1) := by decide +kernel
theorem dX4_firstOf_26 : decode cX4_firstOf 26 = .ok (.iinc 3 1, 3) := by decide +kernel
theorem dX4_firstOf_29 : decode cX4_firstOf 29 = .ok (.goto (-27), 3) := by decide +kernel
theorem dX4_firstOf_32 : decode cX4_firstOf 32 = .ok (.bipush (-9), 2) := by decide +kernel
theorem dX4_firstOf_34 : decode cX4_firstOf 34 = .ok (.ireturn, 1) := by decide +kernel
theorem dX5_init_0 : decode cX5_init 0 = .ok (.aload_n 0, 1) := by decide +kernel
theorem dX5_init_1 : decode cX5_init 1 = .ok (.invokespecial 3, 3) := by decide +kernel
theorem dX5_init_4 : decode cX5_init 4 = .ok (.aload_n 0, 1) := by decide +kernel
theorem dX5_init_5 : decode cX5_init 5 = .ok (.iconst 5, 1) := by decide +kernel
theorem dX5_init_6 : decode cX5_init 6 = .ok (.newarray .int, 2) := by decide +kernel
theorem dX5_init_8 : decode cX5_init 8 = .ok (.putfield 9, 3) := by decide +kernel
theorem dX5_init_11 : decode cX5_init 11 = .ok (.aload_n 0, 1) := by decide +kernel
theorem dX5_init_12 : decode cX5_init 12 = .ok (.iconst 5, 1) := by decide +kernel
theorem dX5_init_13 : decode cX5_init 13 = .ok (.bipush 16, 2) := by decide +kernel
theorem dX5_init_15 : decode cX5_init 15 = .ok (.multianewarray 15 2, 4) := by decide +kernel
theorem dX5_init_19 : decode cX5_init 19 = .ok (.putfield 17, 3) := by decide +kernel
theorem dX5_init_22 : decode cX5_init 22 = .ok (.aload_n 0, 1) := by decide +kernel
theorem dX5_init_23 : decode cX5_init 23 = .ok (.bipush 6, 2) := by decide +kernel
theorem dX5_init_25 : decode cX5_init 25 = .ok (.sipush 256, 3) := by decide +kernel
theorem dX5_init_28 : decode cX5_init 28 = .ok (.multianewarray 15 2, 4) := by decide +kernel
theorem dX5_init_32 : decode cX5_init 32 = .ok (.putfield 20, 3) := by decide +kernel
theorem dX5_init_35 : decode cX5_init 35 = .ok (.return_, 1) := by decide +kernel
set_option maxRecDepth 20000 in
theorem ggX5_make_J7_fill_53178 : GoodIn wsX5_make wsJ7_fill_53178 := goodIn_r _ [8] (by decide +kernel) (by decide +kernel)
set_option maxRecDepth 20000 in
theorem gX5_make_J7_fill_53178 : GoodIn wsX5_make (va_wsS RX5 29 yJ7_fill_53178 wsJ7_fill_53178) := goodIn_app (goodIn_of _ (by decide +kernel)) ggX5_make_J7_fill_53178
set_option maxRecDepth 20000 in
theorem ggX5_make_X2_pickable : GoodIn wsX5_make wsX2_pickable := goodIn_r _ [13, 14, 15, 16, 17, 18, 19, 20, 21, 22, 23, 24, 25, 26, 27, 28, 29, 30, 31, 32, 33, 34, 35, 36, 100, 101, 102, 103, 104, 105, 106, 92, 93, 94, 95, 96, 97, 98, 99, 82, 83, 84, 85, 86, 87, 88, 89, 90, 91] (by decide +kernel) (by decide +kernel)
set_option maxRecDepth 20000 in
theorem gX5_make_X2_pickable : GoodIn wsX5_make (wsV RX5 40 RX2 yX2_pickable wsX2_pickable) := goodIn_app (goodIn_of _ (by decide +kernel)) ggX5_make_X2_pickable
set_option maxRecDepth 20000 in
theorem ggX5_make_X3_everybody : GoodIn wsX5_make wsX3_everybody := goodIn_r _ [40, 41, 82, 83, 84, 85, 86, 87, 88, 89, 90, 91] (by decide +kernel) (by decide +kernel)
set_option maxRecDepth 20000 in
theorem gX5_make_X3_everybody : GoodIn wsX5_make (wsV RX5 46 RX3 yX3_everybody wsX3_everybody) := goodIn_app (goodIn_of _ (by decide +kernel)) ggX5_make_X3_everybody
set_option maxRecDepth 20000 in
theorem ggX5_make_X5_canBeTaken : GoodIn wsX5_make wsX5_canBeTaken := goodIn_r _ [45, 46, 47, 48, 49, 50, 51, 52, 53, 92, 93, 94, 95, 96, 97, 98, 99] (by decide +kernel) (by decide +kernel)
set_option maxRecDepth 20000 in
theorem gX5_make_X5_canBeTaken : GoodIn wsX5_make (va_wsS RX5 50 yX5_canBeTaken wsX5_canBeTaken) := goodIn_app (goodIn_of _ (by decide +kernel)) ggX5_make_X5_canBeTaken
set_option maxRecDepth 20000 in
theorem ggX5_make_X5_mostFrom : GoodIn wsX5_make wsX5_mostFrom := goodIn_r _ [57, 1, 3, 58, 59, 24, 60, 61, 62, 63, 44, 64, 4, 65, 66, 67, 68, 69, 79, 80, 81, 92, 93, 94, 95, 96, 97, 98, 99] (by decide +kernel) (by decide +kernel)
set_option maxRecDepth 20000 in
theorem gX5_make_X5_mostFrom : GoodIn wsX5_make (wsV RX5 54 RX5 yX5_mostFrom wsX5_mostFrom) := goodIn_app (goodIn_of _ (by decide +kernel)) ggX5_make_X5_mostFrom
set_option maxRecDepth 20000 in
theorem ggX5_make_X5_choose : GoodIn wsX5_make wsX5_choose := goodIn_r _ [73, 2, 74, 65, 75, 76, 77, 44, 78, 1, 3, 61, 62, 63, 64, 4, 66, 67, 68, 69, 82, 83, 84, 85, 86, 87, 88, 89, 90, 91, 79, 80, 81, 92, 93, 94, 95, 96, 97, 98, 99] (by decide +kernel) (by decide +kernel)
set_option maxRecDepth 20000 in
theorem gX5_make_X5_choose : GoodIn wsX5_make (wsV RX5 58 RX5 yX5_choose wsX5_choose) := goodIn_app (goodIn_of _ (by decide +kernel)) ggX5_make_X5_choose
theorem dX5_make_0 : decode cX5_make 0 = .ok (.aload_n 0, 1) := by decide +kernel
theorem dX5_make_1 : decode cX5_make 1 = .ok (.getfield 20, 3) := by decide +kernel
theorem dX5_make_4 : decode cX5_make 4 = .ok (.aload_n 1, 1) := by decide +kernel
theorem dX5_make_5 : decode cX5_make 5 = .ok (.getfield 23, 3) := by decide +kernel
theorem dX5_make_8 : decode cX5_make 8 = .ok (.aaload, 1) := by decide +kernel
theorem dX5_make_9 : decode cX5_make 9 = .ok (.iconst 0, 1) := by decide +kernel
theorem dX5_make_10 : decode cX5_make 10 = .ok (.invokestatic 29, 3) := by decide +kernel
theorem dX5_make_13 : decode cX5_make 13 = .ok (.aload_n 1, 1) := by decide +kernel
theorem dX5_make_14 : decode cX5_make 14 = .ok (.getfield 23, 3) := by decide +kernel
theorem dX5_make_17 : decode cX5_make 17 = .ok (.iconst 1, 1) := by decide +kernel
theorem dX5_make_18 : decode cX5_make 18 = .ok (.isub, 1) := by decide +kernel
theorem dX5_make_19 : decode cX5_make 19 = .ok (.istore 4, 2) := by decide +kernel
theorem dX5_make_21 : decode cX5_make 21 = .ok (.iload 4, 2) := by decide +kernel
theorem dX5_make_23 : decode cX5_make 23 = .ok (.ifCond .lt 95, 3) := by decide +kernel
theorem dX5_make_26 : decode cX5_make 26 = .ok (.iconst 0, 1) := by decide +kernel
theorem dX5_make_27 : decode cX5_make 27 = .ok (.istore 5, 2) := by decide +kernel
theorem dX5_make_29 : decode cX5_make 29 = .ok (.iload 5, 2) := by decide +kernel
theorem dX5_make_31 : decode cX5_make 31 = .ok (.aload_n 2, 1) := by decide +kernel
theorem dX5_make_32 : decode cX5_make 32 = .ok (.getfield 35, 3) := by decide +kernel
theorem dX5_make_35 : decode cX5_make 35 = .ok (.if_icmp .ge 29, 3) := by decide +kernel
theorem dX5_make_38 : decode cX5_make 38 = .ok (.aload_n 0, 1) := by decide +kernel
theorem dX5_make_39 : decode cX5_make 39 = .ok (.getfield 17, 3) := by decide +kernel
theorem dX5_make_42 : decode cX5_make 42 = .ok (.iload 4, 2) := by decide +kernel
theorem dX5_make_44 : decode cX5_make 44 = .ok (.aaload, 1) := by decide +kernel
theorem dX5_make_45 : decode cX5_make 45 = .ok (.iload 5, 2) := by decide +kernel
theorem dX5_make_47 : decode cX5_make 47 = .ok (.aload_n 3, 1) := by decide +kernel
theorem dX5_make_48 : decode cX5_make 48 = .ok (.aload_n 1, 1) := by decide +kernel
theorem dX5_make_49 : decode cX5_make 49 = .ok (.aload_n 2, 1) := by decide +kernel
theorem dX5_make_50 : decode cX5_make 50 = .ok (.iload 5, 2) := by decide +kernel
theorem dX5_make_52 : decode cX5_make 52 = .ok (.iload 4, 2) := by decide +kernel
theorem dX5_make_54 : decode cX5_make 54 = .ok (.invokevirtual 40, 3) := by decide +kernel
theorem dX5_make_57 : decode cX5_make 57 = .ok (.iastore, 1) := by decide +kernel
theorem dX5_make_58 : decode cX5_make 58 = .ok (.iinc 5 1, 3) := by decide +kernel
theorem dX5_make_61 : decode cX5_make 61 = .ok (.goto (-32), 3) := by decide +kernel
theorem dX5_make_64 : decode cX5_make 64 = .ok (.iconst 0, 1) := by decide +kernel
theorem dX5_make_65 : decode cX5_make 65 = .ok (.istore 5, 2) := by decide +kernel
theorem dX5_make_67 : decode cX5_make 67 = .ok (.iload 5, 2) := by decide +kernel
theorem dX5_make_69 : decode cX5_make 69 = .ok (.aload_n 1, 1) := by decide +kernel
theorem dX5_make_70 : decode cX5_make 70 = .ok (.invokevirtual 46, 3) := by decide +kernel
theorem dX5_make_73 : decode cX5_make 73 = .ok (.if_icmp .gt 39, 3) := by decide +kernel
theorem dX5_make_76 : decode cX5_make 76 = .ok (.aload_n 2, 1) := by decide +kernel
theorem dX5_make_77 : decode cX5_make 77 = .ok (.iload 5, 2) := by decide +kernel
theorem dX5_make_79 : decode cX5_make 79 = .ok (.iload 4, 2) := by decide +kernel
theorem dX5_make_81 : decode cX5_make 81 = .ok (.invokestatic 50, 3) := by decide +kernel
theorem dX5_make_84 : decode cX5_make 84 = .ok (.ifCond .eq 22, 3) := by decide +kernel
theorem dX5_make_87 : decode cX5_make 87 = .ok (.aload_n 0, 1) := by decide +kernel
theorem dX5_make_88 : decode cX5_make 88 = .ok (.getfield 20, 3) := by decide +kernel
theorem dX5_make_91 : decode cX5_make 91 = .ok (.iload 4, 2) := by decide +kernel
theorem dX5_make_93 : decode cX5_make 93 = .ok (.aaload, 1) := by decide +kernel
theorem dX5_make_94 : decode cX5_make 94 = .ok (.iload 5, 2) := by decide +kernel
theorem dX5_make_96 : decode cX5_make 96 = .ok (.aload_n 0, 1) := by decide +kernel
theorem dX5_make_97 : decode cX5_make 97 = .ok (.aload_n 2, 1) := by decide +kernel
theorem dX5_make_98 : decode cX5_make 98 = .ok (.iload 5, 2) := by decide +kernel
theorem dX5_make_100 : decode cX5_make 100 = .ok (.iload 4, 2) := by decide +kernel
theorem dX5_make_102 : decode cX5_make 102 = .ok (.invokevirtual 54, 3) := by decide +kernel
theorem dX5_make_105 : decode cX5_make 105 = .ok (.iastore, 1) := by decide +kernel
theorem dX5_make_106 : decode cX5_make 106 = .ok (.iinc 5 1, 3) := by decide +kernel
theorem dX5_make_109 : decode cX5_make 109 = .ok (.goto (-42), 3) := by decide +kernel
theorem dX5_make_112 : decode cX5_make 112 = .ok (.iinc 4 (-1), 3) := by decide +kernel
theorem dX5_make_115 : decode cX5_make 115 = .ok (.goto (-94), 3) := by decide +kernel
theorem dX5_make_118 : decode cX5_make 118 = .ok (.aload_n 0, 1) := by decide +kernel
theorem dX5_make_119 : decode cX5_make 119 = .ok (.aload_n 1, 1) := by decide +kernel
theorem dX5_make_120 : decode cX5_make 120 = .ok (.aload_n 2, 1) := by decide +kernel
theorem dX5_make_121 : decode cX5_make 121 = .ok (.invokevirtual 58, 3) := by decide +kernel
theorem dX5_make_124 : decode cX5_make 124 = .ok (.aload_n 0, 1) := by decide +kernel
theorem dX5_make_125 : decode cX5_make 125 = .ok (.getfield 20, 3) := by decide +kernel
theorem dX5_make_128 : decode cX5_make 128 = .ok (.iconst 0, 1) := by decide +kernel
theorem dX5_make_129 : decode cX5_make 129 = .ok (.aaload, 1) := by decide +kernel
theorem dX5_make_130 : decode cX5_make 130 = .ok (.iconst 0, 1) := by decide +kernel
theorem dX5_make_131 : decode cX5_make 131 = .ok (.iaload, 1) := by decide +kernel
theorem dX5_make_132 : decode cX5_make 132 = .ok (.ireturn, 1) := by decide +kernel
set_option maxRecDepth 20000 in
theorem ggX5_canBeTaken_J6_bitCount_0f7a4 : GoodIn wsX5_canBeTaken wsJ6_bitCount_0f7a4 := goodIn_r _ [5, 6, 7, 8] (by decide +kernel) (by decide +kernel)
end
section
set_option maxRecDepth 20000 in
theorem gX5_canBeTaken_J6_bitCount_0f7a4 : GoodIn wsX5_canBeTaken (va_wsS RX5 62 yJ6_bitCount_0f7a4 wsJ6_bitCount_0f7a4) := goodIn_app (goodIn_of _ (by decide +kernel)) ggX5_canBeTaken_J6_bitCount_0f7a4
theorem dX5_canBeTaken_0 : decode cX5_canBeTaken 0 = .ok (.iload_n 1, 1) := by decide +kernel
theorem dX5_canBeTaken_1 : decode cX5_canBeTaken 1 = .ok (.invokestatic 62, 3) := by decide +kernel
theorem dX5_canBeTaken_4 : decode cX5_canBeTaken 4 = .ok (.istore_n 3, 1) := by decide +kernel
theorem dX5_canBeTaken_5 : decode cX5_canBeTaken 5 = .ok (.iload_n 3, 1) := by decide +kernel
theorem dX5_canBeTaken_6 : decode cX5_canBeTaken 6 = .ok (.iconst 2, 1) := by decide +kernel
theorem dX5_canBeTaken_7 : decode cX5_canBeTaken 7 = .ok (.iload_n 2, 1) := by decide +kernel
theorem dX5_canBeTaken_8 : decode cX5_canBeTaken 8 = .ok (.imul, 1) := by decide +kernel
theorem dX5_canBeTaken_9 : decode cX5_canBeTaken 9 = .ok (.if_icmp .gt 22, 3) := by decide +kernel
theorem dX5_canBeTaken_12 : decode cX5_canBeTaken 12 = .ok (.iload_n 3, 1) := by decide +kernel
theorem dX5_canBeTaken_13 : decode cX5_canBeTaken 13 = .ok (.iconst 2, 1) := by decide +kernel
theorem dX5_canBeTaken_14 : decode cX5_canBeTaken 14 = .ok (.iload_n 1, 1) := by decide +kernel
theorem dX5_canBeTaken_15 : decode cX5_canBeTaken 15 = .ok (.aload_n 0, 1) := by decide +kernel
theorem dX5_canBeTaken_16 : decode cX5_canBeTaken 16 = .ok (.getfield 68, 3) := by decide +kernel
theorem dX5_canBeTaken_19 : decode cX5_canBeTaken 19 = .ok (.iand, 1) := by decide +kernel
theorem dX5_canBeTaken_20 : decode cX5_canBeTaken 20 = .ok (.invokestatic 62, 3) := by decide +kernel
theorem dX5_canBeTaken_23 : decode cX5_canBeTaken 23 = .ok (.imul, 1) := by decide +kernel
theorem dX5_canBeTaken_24 : decode cX5_canBeTaken 24 = .ok (.if_icmp .ne 7, 3) := by decide +kernel
theorem dX5_canBeTaken_27 : decode cX5_canBeTaken 27 = .ok (.iconst 1, 1) := by decide +kernel
theorem dX5_canBeTaken_28 : decode cX5_canBeTaken 28 = .ok (.goto 4, 3) := by decide +kernel
theorem dX5_canBeTaken_31 : decode cX5_canBeTaken 31 = .ok (.iconst 0, 1) := by decide +kernel
theorem dX5_canBeTaken_32 : decode cX5_canBeTaken 32 = .ok (.ireturn, 1) := by decide +kernel
set_option maxRecDepth 20000 in
theorem ggX5_mostFrom_X5_canClimb : GoodIn wsX5_mostFrom wsX5_canClimb := goodIn_r _ [11, 12, 13, 18, 19, 20, 21, 22, 23, 24, 25, 26, 27, 28] (by decide +kernel) (by decide +kernel)
set_option maxRecDepth 20000 in
theorem gX5_mostFrom_X5_canClimb : GoodIn wsX5_mostFrom (wsV RX5 71 RX5 yX5_canClimb wsX5_canClimb) := goodIn_app (goodIn_of _ (by decide +kernel)) ggX5_mostFrom_X5_canClimb
set_option maxRecDepth 20000 in
theorem ggX5_mostFrom_X5_with : GoodIn wsX5_mostFrom wsX5_with := goodIn_r _ [17, 12, 1, 13, 18, 19, 20, 21, 22, 23, 24, 25, 26, 27, 28] (by decide +kernel) (by decide +kernel)
set_option maxRecDepth 20000 in
theorem gX5_mostFrom_X5_with : GoodIn wsX5_mostFrom (wsV RX5 75 RX5 yX5_with wsX5_with) := goodIn_app (goodIn_of _ (by decide +kernel)) ggX5_mostFrom_X5_with
theorem dX5_mostFrom_0 : decode cX5_mostFrom 0 = .ok (.aload_n 0, 1) := by decide +kernel
theorem dX5_mostFrom_1 : decode cX5_mostFrom 1 = .ok (.getfield 20, 3) := by decide +kernel
theorem dX5_mostFrom_4 : decode cX5_mostFrom 4 = .ok (.iload_n 3, 1) := by decide +kernel
theorem dX5_mostFrom_5 : decode cX5_mostFrom 5 = .ok (.iconst 1, 1) := by decide +kernel
theorem dX5_mostFrom_6 : decode cX5_mostFrom 6 = .ok (.iadd, 1) := by decide +kernel
theorem dX5_mostFrom_7 : decode cX5_mostFrom 7 = .ok (.aaload, 1) := by decide +kernel
theorem dX5_mostFrom_8 : decode cX5_mostFrom 8 = .ok (.iload_n 2, 1) := by decide +kernel
theorem dX5_mostFrom_9 : decode cX5_mostFrom 9 = .ok (.iaload, 1) := by decide +kernel
theorem dX5_mostFrom_10 : decode cX5_mostFrom 10 = .ok (.istore 4, 2) := by decide +kernel
theorem dX5_mostFrom_12 : decode cX5_mostFrom 12 = .ok (.iconst 0, 1) := by decide +kernel
theorem dX5_mostFrom_13 : decode cX5_mostFrom 13 = .ok (.istore 5, 2) := by decide +kernel
theorem dX5_mostFrom_15 : decode cX5_mostFrom 15 = .ok (.iload 5, 2) := by decide +kernel
theorem dX5_mostFrom_17 : decode cX5_mostFrom 17 = .ok (.aload_n 1, 1) := by decide +kernel
theorem dX5_mostFrom_18 : decode cX5_mostFrom 18 = .ok (.getfield 35, 3) := by decide +kernel
theorem dX5_mostFrom_21 : decode cX5_mostFrom 21 = .ok (.if_icmp .ge 37, 3) := by decide +kernel
theorem dX5_mostFrom_24 : decode cX5_mostFrom 24 = .ok (.aload_n 0, 1) := by decide +kernel
theorem dX5_mostFrom_25 : decode cX5_mostFrom 25 = .ok (.aload_n 1, 1) := by decide +kernel
theorem dX5_mostFrom_26 : decode cX5_mostFrom 26 = .ok (.iload 5, 2) := by decide +kernel
theorem dX5_mostFrom_28 : decode cX5_mostFrom 28 = .ok (.iload_n 2, 1) := by decide +kernel
theorem dX5_mostFrom_29 : decode cX5_mostFrom 29 = .ok (.iload_n 3, 1) := by decide +kernel
theorem dX5_mostFrom_30 : decode cX5_mostFrom 30 = .ok (.invokevirtual 71, 3) := by decide +kernel
theorem dX5_mostFrom_33 : decode cX5_mostFrom 33 = .ok (.ifCond .eq 19, 3) := by decide +kernel
theorem dX5_mostFrom_36 : decode cX5_mostFrom 36 = .ok (.iload 4, 2) := by decide +kernel
theorem dX5_mostFrom_38 : decode cX5_mostFrom 38 = .ok (.aload_n 0, 1) := by decide +kernel
theorem dX5_mostFrom_39 : decode cX5_mostFrom 39 = .ok (.aload_n 1, 1) := by decide +kernel
theorem dX5_mostFrom_40 : decode cX5_mostFrom 40 = .ok (.iload 5, 2) := by decide +kernel
theorem dX5_mostFrom_42 : decode cX5_mostFrom 42 = .ok (.iload_n 2, 1) := by decide +kernel
theorem dX5_mostFrom_43 : decode cX5_mostFrom 43 = .ok (.iload_n 3, 1) := by decide +kernel
theorem dX5_mostFrom_44 : decode cX5_mostFrom 44 = .ok (.invokevirtual 75, 3) := by decide +kernel
theorem dX5_mostFrom_47 : decode cX5_mostFrom 47 = .ok (.invokestatic 79, 3) := by decide +kernel
theorem dX5_mostFrom_50 : decode cX5_mostFrom 50 = .ok (.istore 4, 2) := by decide +kernel
theorem dX5_mostFrom_52 : decode cX5_mostFrom 52 = .ok (.iinc 5 1, 3) := by decide +kernel
theorem dX5_mostFrom_55 : decode cX5_mostFrom 55 = .ok (.goto (-40), 3) := by decide +kernel
theorem dX5_mostFrom_58 : decode cX5_mostFrom 58 = .ok (.iload 4, 2) := by decide +kernel
theorem dX5_mostFrom_60 : decode cX5_mostFrom 60 = .ok (.ireturn, 1) := by decide +kernel
theorem dX5_canClimb_0 : decode cX5_canClimb 0 = .ok (.aload_n 0, 1) := by decide +kernel
theorem dX5_canClimb_1 : decode cX5_canClimb 1 = .ok (.getfield 17, 3) := by decide +kernel
theorem dX5_canClimb_4 : decode cX5_canClimb 4 = .ok (.iload 4, 2) := by decide +kernel
theorem dX5_canClimb_6 : decode cX5_canClimb 6 = .ok (.aaload, 1) := by decide +kernel
theorem dX5_canClimb_7 : decode cX5_canClimb 7 = .ok (.iload_n 2, 1) := by decide +kernel
theorem dX5_canClimb_8 : decode cX5_canClimb 8 = .ok (.iaload, 1) := by decide +kernel
theorem dX5_canClimb_9 : decode cX5_canClimb 9 = .ok (.ifCond .le 18, 3) := by decide +kernel
theorem dX5_canClimb_12 : decode cX5_canClimb 12 = .ok (.iload_n 3, 1) := by decide +kernel
theorem dX5_canClimb_13 : decode cX5_canClimb 13 = .ok (.aload_n 1, 1) := by decide +kernel
theorem dX5_canClimb_14 : decode cX5_canClimb 14 = .ok (.getfield 85, 3) := by decide +kernel
theorem dX5_canClimb_17 : decode cX5_canClimb 17 = .ok (.iload_n 2, 1) := by decide +kernel
theorem dX5_canClimb_18 : decode cX5_canClimb 18 = .ok (.iaload, 1) := by decide +kernel
theorem dX5_canClimb_19 : decode cX5_canClimb 19 = .ok (.iand, 1) := by decide +kernel
theorem dX5_canClimb_20 : decode cX5_canClimb 20 = .ok (.ifCond .ne 7, 3) := by decide +kernel
theorem dX5_canClimb_23 : decode cX5_canClimb 23 = .ok (.iconst 1, 1) := by decide +kernel
theorem dX5_canClimb_24 : decode cX5_canClimb 24 = .ok (.goto 4, 3) := by decide +kernel
theorem dX5_canClimb_27 : decode cX5_canClimb 27 = .ok (.iconst 0, 1) := by decide +kernel
theorem dX5_canClimb_28 : decode cX5_canClimb 28 = .ok (.ireturn, 1) := by decide +kernel
theorem dX5_with_0 : decode cX5_with 0 = .ok (.aload_n 0, 1) := by decide +kernel
theorem dX5_with_1 : decode cX5_with 1 = .ok (.getfield 17, 3) := by decide +kernel
theorem dX5_with_4 : decode cX5_with 4 = .ok (.iload 4, 2) := by decide +kernel
theorem dX5_with_6 : decode cX5_with 6 = .ok (.aaload, 1) := by decide +kernel
theorem dX5_with_7 : decode cX5_with 7 = .ok (.iload_n 2, 1) := by decide +kernel
theorem dX5_with_8 : decode cX5_with 8 = .ok (.iaload, 1) := by decide +kernel
theorem dX5_with_9 : decode cX5_with 9 = .ok (.aload_n 0, 1) := by decide +kernel
theorem dX5_with_10 : decode cX5_with 10 = .ok (.getfield 20, 3) := by decide +kernel
theorem dX5_with_13 : decode cX5_with 13 = .ok (.iload 4, 2) := by decide +kernel
theorem dX5_with_15 : decode cX5_with 15 = .ok (.iconst 1, 1) := by decide +kernel
theorem dX5_with_16 : decode cX5_with 16 = .ok (.iadd, 1) := by decide +kernel
theorem dX5_with_17 : decode cX5_with 17 = .ok (.aaload, 1) := by decide +kernel
theorem dX5_with_18 : decode cX5_with 18 = .ok (.iload_n 3, 1) := by decide +kernel
theorem dX5_with_19 : decode cX5_with 19 = .ok (.aload_n 1, 1) := by decide +kernel
theorem dX5_with_20 : decode cX5_with 20 = .ok (.getfield 85, 3) := by decide +kernel
theorem dX5_with_23 : decode cX5_with 23 = .ok (.iload_n 2, 1) := by decide +kernel
theorem dX5_with_24 : decode cX5_with 24 = .ok (.iaload, 1) := by decide +kernel
theorem dX5_with_25 : decode cX5_with 25 = .ok (.ior, 1) := by decide +kernel
theorem dX5_with_26 : decode cX5_with 26 = .ok (.iaload, 1) := by decide +kernel
theorem dX5_with_27 : decode cX5_with 27 = .ok (.iadd, 1) := by decide +kernel
theorem dX5_with_28 : decode cX5_with 28 = .ok (.ireturn, 1) := by decide +kernel
set_option maxRecDepth 20000 in
theorem ggX5_choose_X5_firstOfBest : GoodIn wsX5_choose wsX5_firstOfBest := goodIn_r _ [8, 9, 10, 11, 12, 13, 7, 14, 15, 3, 16, 17, 18, 19, 30, 31, 32, 33, 34, 35, 36, 37, 38, 39, 40] (by decide +kernel) (by decide +kernel)
set_option maxRecDepth 20000 in
theorem gX5_choose_X5_firstOfBest : GoodIn wsX5_choose (wsV RX5 88 RX5 yX5_firstOfBest wsX5_firstOfBest) := goodIn_app (goodIn_of _ (by decide +kernel)) ggX5_choose_X5_firstOfBest
theorem dX5_choose_0 : decode cX5_choose 0 = .ok (.iconst 0, 1) := by decide +kernel
theorem dX5_choose_1 : decode cX5_choose 1 = .ok (.istore_n 3, 1) := by decide +kernel
theorem dX5_choose_2 : decode cX5_choose 2 = .ok (.iconst 0, 1) := by decide +kernel
theorem dX5_choose_3 : decode cX5_choose 3 = .ok (.istore 4, 2) := by decide +kernel
theorem dX5_choose_5 : decode cX5_choose 5 = .ok (.iload 4, 2) := by decide +kernel
theorem dX5_choose_7 : decode cX5_choose 7 = .ok (.aload_n 1, 1) := by decide +kernel
theorem dX5_choose_8 : decode cX5_choose 8 = .ok (.getfield 23, 3) := by decide +kernel
theorem dX5_choose_11 : decode cX5_choose 11 = .ok (.if_icmp .ge 50, 3) := by decide +kernel
theorem dX5_choose_14 : decode cX5_choose 14 = .ok (.aload_n 0, 1) := by decide +kernel
theorem dX5_choose_15 : decode cX5_choose 15 = .ok (.getfield 9, 3) := by decide +kernel
theorem dX5_choose_18 : decode cX5_choose 18 = .ok (.iload 4, 2) := by decide +kernel
theorem dX5_choose_20 : decode cX5_choose 20 = .ok (.aload_n 0, 1) := by decide +kernel
theorem dX5_choose_21 : decode cX5_choose 21 = .ok (.aload_n 2, 1) := by decide +kernel
theorem dX5_choose_22 : decode cX5_choose 22 = .ok (.iload_n 3, 1) := by decide +kernel
theorem dX5_choose_23 : decode cX5_choose 23 = .ok (.iload 4, 2) := by decide +kernel
theorem dX5_choose_25 : decode cX5_choose 25 = .ok (.invokevirtual 88, 3) := by decide +kernel
theorem dX5_choose_28 : decode cX5_choose 28 = .ok (.iastore, 1) := by decide +kernel
theorem dX5_choose_29 : decode cX5_choose 29 = .ok (.aload_n 0, 1) := by decide +kernel
theorem dX5_choose_30 : decode cX5_choose 30 = .ok (.getfield 9, 3) := by decide +kernel
theorem dX5_choose_33 : decode cX5_choose 33 = .ok (.iload 4, 2) := by decide +kernel
theorem dX5_choose_35 : decode cX5_choose 35 = .ok (.iaload, 1) := by decide +kernel
theorem dX5_choose_36 : decode cX5_choose 36 = .ok (.iconst (-1), 1) := by decide +kernel
theorem dX5_choose_37 : decode cX5_choose 37 = .ok (.if_icmp .eq 18, 3) := by decide +kernel
theorem dX5_choose_40 : decode cX5_choose 40 = .ok (.iload_n 3, 1) := by decide +kernel
theorem dX5_choose_41 : decode cX5_choose 41 = .ok (.aload_n 2, 1) := by decide +kernel
theorem dX5_choose_42 : decode cX5_choose 42 = .ok (.getfield 85, 3) := by decide +kernel
theorem dX5_choose_45 : decode cX5_choose 45 = .ok (.aload_n 0, 1) := by decide +kernel
theorem dX5_choose_46 : decode cX5_choose 46 = .ok (.getfield 9, 3) := by decide +kernel
theorem dX5_choose_49 : decode cX5_choose 49 = .ok (.iload 4, 2) := by decide +kernel
theorem dX5_choose_51 : decode cX5_choose 51 = .ok (.iaload, 1) := by decide +kernel
theorem dX5_choose_52 : decode cX5_choose 52 = .ok (.iaload, 1) := by decide +kernel
theorem dX5_choose_53 : decode cX5_choose 53 = .ok (.ior, 1) := by decide +kernel
theorem dX5_choose_54 : decode cX5_choose 54 = .ok (.istore_n 3, 1) := by decide +kernel
theorem dX5_choose_55 : decode cX5_choose 55 = .ok (.iinc 4 1, 3) := by decide +kernel
theorem dX5_choose_58 : decode cX5_choose 58 = .ok (.goto (-53), 3) := by decide +kernel
theorem dX5_choose_61 : decode cX5_choose 61 = .ok (.return_, 1) := by decide +kernel
set_option maxRecDepth 20000 in
theorem ggX5_firstOfBest_X5_canClimb : GoodIn wsX5_firstOfBest wsX5_canClimb := goodIn_r _ [7, 8, 9, 14, 15, 16, 17, 18, 19, 20, 21, 22, 23, 24] (by decide +kernel) (by decide +kernel)
set_option maxRecDepth 20000 in
theorem gX5_firstOfBest_X5_canClimb : GoodIn wsX5_firstOfBest (wsV RX5 71 RX5 yX5_canClimb wsX5_canClimb) := goodIn_app (goodIn_of _ (by decide +kernel)) ggX5_firstOfBest_X5_canClimb
set_option maxRecDepth 20000 in
theorem ggX5_firstOfBest_X5_with : GoodIn wsX5_firstOfBest wsX5_with := goodIn_r _ [13, 8, 1, 9, 14, 15, 16, 17, 18, 19, 20, 21, 22, 23, 24] (by decide +kernel) (by decide +kernel)
set_option maxRecDepth 20000 in
theorem gX5_firstOfBest_X5_with : GoodIn wsX5_firstOfBest (wsV RX5 75 RX5 yX5_with wsX5_with) := goodIn_app (goodIn_of _ (by decide +kernel)) ggX5_firstOfBest_X5_with
theorem dX5_firstOfBest_0 : decode cX5_firstOfBest 0 = .ok (.aload_n 0, 1) := by decide +kernel
theorem dX5_firstOfBest_1 : decode cX5_firstOfBest 1 = .ok (.getfield 20, 3) := by decide +kernel
theorem dX5_firstOfBest_4 : decode cX5_firstOfBest 4 = .ok (.iload_n 3, 1) := by decide +kernel
theorem dX5_firstOfBest_5 : decode cX5_firstOfBest 5 = .ok (.iconst 1, 1) := by decide +kernel
theorem dX5_firstOfBest_6 : decode cX5_firstOfBest 6 = .ok (.iadd, 1) := by decide +kernel
theorem dX5_firstOfBest_7 : decode cX5_firstOfBest 7 = .ok (.aaload, 1) := by decide +kernel
theorem dX5_firstOfBest_8 : decode cX5_firstOfBest 8 = .ok (.iload_n 2, 1) := by decide +kernel
theorem dX5_firstOfBest_9 : decode cX5_firstOfBest 9 = .ok (.iaload, 1) := by decide +kernel
theorem dX5_firstOfBest_10 : decode cX5_firstOfBest 10 = .ok (.aload_n 0, 1) := by decide +kernel
theorem dX5_firstOfBest_11 : decode cX5_firstOfBest 11 = .ok (.getfield 20, 3) := by decide +kernel
theorem dX5_firstOfBest_14 : decode cX5_firstOfBest 14 = .ok (.iload_n 3, 1) := by decide +kernel
theorem dX5_firstOfBest_15 : decode cX5_firstOfBest 15 = .ok (.aaload, 1) := by decide +kernel
theorem dX5_firstOfBest_16 : decode cX5_firstOfBest 16 = .ok (.iload_n 2, 1) := by decide +kernel
theorem dX5_firstOfBest_17 : decode cX5_firstOfBest 17 = .ok (.iaload, 1) := by decide +kernel
theorem dX5_firstOfBest_18 : decode cX5_firstOfBest 18 = .ok (.if_icmp .ne 5, 3) := by decide +kernel
theorem dX5_firstOfBest_21 : decode cX5_firstOfBest 21 = .ok (.iconst (-1), 1) := by decide +kernel
theorem dX5_firstOfBest_22 : decode cX5_firstOfBest 22 = .ok (.ireturn, 1) := by decide +kernel
theorem dX5_firstOfBest_23 : decode cX5_firstOfBest 23 = .ok (.iconst 0, 1) := by decide +kernel
theorem dX5_firstOfBest_24 : decode cX5_firstOfBest 24 = .ok (.istore 4, 2) := by decide +kernel
theorem dX5_firstOfBest_26 : decode cX5_firstOfBest 26 = .ok (.iload 4, 2) := by decide +kernel
theorem dX5_firstOfBest_28 : decode cX5_firstOfBest 28 = .ok (.aload_n 1, 1) := by decide +kernel
theorem dX5_firstOfBest_29 : decode cX5_firstOfBest 29 = .ok (.getfield 35, 3) := by decide +kernel
theorem dX5_firstOfBest_32 : decode cX5_firstOfBest 32 = .ok (.if_icmp .ge 44, 3) := by decide +kernel
theorem dX5_firstOfBest_35 : decode cX5_firstOfBest 35 = .ok (.aload_n 0, 1) := by decide +kernel
theorem dX5_firstOfBest_36 : decode cX5_firstOfBest 36 = .ok (.aload_n 1, 1) := by decide +kernel
theorem dX5_firstOfBest_37 : decode cX5_firstOfBest 37 = .ok (.iload 4, 2) := by decide +kernel
theorem dX5_firstOfBest_39 : decode cX5_firstOfBest 39 = .ok (.iload_n 2, 1) := by decide +kernel
theorem dX5_firstOfBest_40 : decode cX5_firstOfBest 40 = .ok (.iload_n 3, 1) := by decide +kernel
theorem dX5_firstOfBest_41 : decode cX5_firstOfBest 41 = .ok (.invokevirtual 71, 3) := by decide +kernel
theorem dX5_firstOfBest_44 : decode cX5_firstOfBest 44 = .ok (.ifCond .eq 26, 3) := by decide +kernel
theorem dX5_firstOfBest_47 : decode cX5_firstOfBest 47 = .ok (.aload_n 0, 1) := by decide +kernel
theorem dX5_firstOfBest_48 : decode cX5_firstOfBest 48 = .ok (.aload_n 1, 1) := by decide +kernel
theorem dX5_firstOfBest_49 : decode cX5_firstOfBest 49 = .ok (.iload 4, 2) := by decide +kernel
theorem dX5_firstOfBest_51 : decode cX5_firstOfBest 51 = .ok (.iload_n 2, 1) := by decide +kernel
theorem dX5_firstOfBest_52 : decode cX5_firstOfBest 52 = .ok (.iload_n 3, 1) := by decide +kernel
theorem dX5_firstOfBest_53 : decode cX5_firstOfBest 53 = .ok (.invokevirtual 75, 3) := by decide +kernel
theorem dX5_firstOfBest_56 : decode cX5_firstOfBest 56 = .ok (.aload_n 0, 1) := by decide +kernel
theorem dX5_firstOfBest_57 : decode cX5_firstOfBest 57 = .ok (.getfield 20, 3) := by decide +kernel
theorem dX5_firstOfBest_60 : decode cX5_firstOfBest 60 = .ok (.iload_n 3, 1) := by decide +kernel
theorem dX5_firstOfBest_61 : decode cX5_firstOfBest 61 = .ok (.aaload, 1) := by decide +kernel
theorem dX5_firstOfBest_62 : decode cX5_firstOfBest 62 = .ok (.iload_n 2, 1) := by decide +kernel
theorem dX5_firstOfBest_63 : decode cX5_firstOfBest 63 = .ok (.iaload, 1) := by decide +kernel
theorem dX5_firstOfBest_64 : decode cX5_firstOfBest 64 = .ok (.if_icmp .ne 6, 3) := by decide +kernel
theorem dX5_firstOfBest_67 : decode cX5_firstOfBest 67 = .ok (.iload 4, 2) := by decide +kernel
theorem dX5_firstOfBest_69 : decode cX5_firstOfBest 69 = .ok (.ireturn, 1) := by decide +kernel
theorem dX5_firstOfBest_70 : decode cX5_firstOfBest 70 = .ok (.iinc 4 1, 3) := by decide +kernel
theorem dX5_firstOfBest_73 : decode cX5_firstOfBest 73 = .ok (.goto (-47), 3) := by decide +kernel
theorem dX5_firstOfBest_76 : decode cX5_firstOfBest 76 = .ok (.iconst (-1), 1) := by decide +kernel
theorem dX5_firstOfBest_77 : decode cX5_firstOfBest 77 = .ok (.ireturn, 1) := by decide +kernel
set_option maxRecDepth 20000 in
theorem ggX5_carryOut_X2_pick : GoodIn wsX5_carryOut wsX2_pick := goodIn_r _ [9, 10, 11, 12, 13, 35, 36, 37, 38, 39, 40, 41] (by decide +kernel) (by decide +kernel)
set_option maxRecDepth 20000 in
theorem gX5_carryOut_X2_pick : GoodIn wsX5_carryOut (wsV RX5 91 RX2 yX2_pick wsX2_pick) := goodIn_app (goodIn_of _ (by decide +kernel)) ggX5_carryOut_X2_pick
theorem dX5_carryOut_0 : decode cX5_carryOut 0 = .ok (.iconst 0, 1) := by decide +kernel
theorem dX5_carryOut_1 : decode cX5_carryOut 1 = .ok (.istore 4, 2) := by decide +kernel
theorem dX5_carryOut_3 : decode cX5_carryOut 3 = .ok (.iload 4, 2) := by decide +kernel
theorem dX5_carryOut_5 : decode cX5_carryOut 5 = .ok (.aload_n 1, 1) := by decide +kernel
theorem dX5_carryOut_6 : decode cX5_carryOut 6 = .ok (.getfield 23, 3) := by decide +kernel
theorem dX5_carryOut_9 : decode cX5_carryOut 9 = .ok (.if_icmp .ge 47, 3) := by decide +kernel
theorem dX5_carryOut_12 : decode cX5_carryOut 12 = .ok (.aload_n 0, 1) := by decide +kernel
theorem dX5_carryOut_13 : decode cX5_carryOut 13 = .ok (.getfield 9, 3) := by decide +kernel
theorem dX5_carryOut_16 : decode cX5_carryOut 16 = .ok (.iload 4, 2) := by decide +kernel
theorem dX5_carryOut_18 : decode cX5_carryOut 18 = .ok (.iaload, 1) := by decide +kernel
theorem dX5_carryOut_19 : decode cX5_carryOut 19 = .ok (.istore 5, 2) := by decide +kernel
theorem dX5_carryOut_21 : decode cX5_carryOut 21 = .ok (.iload 5, 2) := by decide +kernel
theorem dX5_carryOut_23 : decode cX5_carryOut 23 = .ok (.iconst (-1), 1) := by decide +kernel
theorem dX5_carryOut_24 : decode cX5_carryOut 24 = .ok (.if_icmp .eq 26, 3) := by decide +kernel
theorem dX5_carryOut_27 : decode cX5_carryOut 27 = .ok (.aload_n 3, 1) := by decide +kernel
theorem dX5_carryOut_28 : decode cX5_carryOut 28 = .ok (.aload_n 2, 1) := by decide +kernel
theorem dX5_carryOut_29 : decode cX5_carryOut 29 = .ok (.getfield 85, 3) := by decide +kernel
theorem dX5_carryOut_32 : decode cX5_carryOut 32 = .ok (.iload 5, 2) := by decide +kernel
theorem dX5_carryOut_34 : decode cX5_carryOut 34 = .ok (.iaload, 1) := by decide +kernel
theorem dX5_carryOut_35 : decode cX5_carryOut 35 = .ok (.iload 4, 2) := by decide +kernel
theorem dX5_carryOut_37 : decode cX5_carryOut 37 = .ok (.aload_n 0, 1) := by decide +kernel
theorem dX5_carryOut_38 : decode cX5_carryOut 38 = .ok (.getfield 17, 3) := by decide +kernel
theorem dX5_carryOut_41 : decode cX5_carryOut 41 = .ok (.iload 4, 2) := by decide +kernel
theorem dX5_carryOut_43 : decode cX5_carryOut 43 = .ok (.aaload, 1) := by decide +kernel
theorem dX5_carryOut_44 : decode cX5_carryOut 44 = .ok (.iload 5, 2) := by decide +kernel
theorem dX5_carryOut_46 : decode cX5_carryOut 46 = .ok (.iaload, 1) := by decide +kernel
theorem dX5_carryOut_47 : decode cX5_carryOut 47 = .ok (.invokevirtual 91, 3) := by decide +kernel
theorem dX5_carryOut_50 : decode cX5_carryOut 50 = .ok (.iinc 4 1, 3) := by decide +kernel
theorem dX5_carryOut_53 : decode cX5_carryOut 53 = .ok (.goto (-50), 3) := by decide +kernel
theorem dX5_carryOut_56 : decode cX5_carryOut 56 = .ok (.return_, 1) := by decide +kernel
theorem dX6_init_0 : decode cX6_init 0 = .ok (.aload_n 0, 1) := by decide +kernel
theorem dX6_init_1 : decode cX6_init 1 = .ok (.invokespecial 3, 3) := by decide +kernel
theorem dX6_init_4 : decode cX6_init 4 = .ok (.aload_n 0, 1) := by decide +kernel
theorem dX6_init_5 : decode cX6_init 5 = .ok (.iconst 0, 1) := by decide +kernel
theorem dX6_init_6 : decode cX6_init 6 = .ok (.putfield 9, 3) := by decide +kernel
theorem dX6_init_9 : decode cX6_init 9 = .ok (.aload_n 0, 1) := by decide +kernel
theorem dX6_init_10 : decode cX6_init 10 = .ok (.bipush 6, 2) := by decide +kernel
theorem dX6_init_12 : decode cX6_init 12 = .ok (.putfield 15, 3) := by decide +kernel
theorem dX6_init_15 : decode cX6_init 15 = .ok (.aload_n 0, 1) := by decide +kernel
theorem dX6_init_16 : decode cX6_init 16 = .ok (.iconst 0, 1) := by decide +kernel
theorem dX6_init_17 : decode cX6_init 17 = .ok (.putfield 18, 3) := by decide +kernel
theorem dX6_init_20 : decode cX6_init 20 = .ok (.aload_n 0, 1) := by decide +kernel
theorem dX6_init_21 : decode cX6_init 21 = .ok (.aload_n 1, 1) := by decide +kernel
theorem dX6_init_22 : decode cX6_init 22 = .ok (.putfield 21, 3) := by decide +kernel
theorem dX6_init_25 : decode cX6_init 25 = .ok (.return_, 1) := by decide +kernel
set_option maxRecDepth 20000 in
theorem ggX6_readAll_X8_cutIntoTokens : GoodIn wsX6_readAll wsX8_cutIntoTokens := goodIn_r _ [9, 10, 11, 12, 13, 14, 15, 16, 17, 18, 19, 20, 8, 21, 22, 23, 24, 25, 26, 27, 28, 29, 30, 31, 32, 33, 34, 35, 36, 37, 38, 39, 40, 41, 42, 43, 44, 45, 46, 47, 48, 49, 50, 51, 52, 53, 54, 55, 56, 57, 58, 59, 60, 61, 62, 63, 64, 65, 66, 67, 68, 69, 70, 71, 72, 73, 74, 75, 76, 77, 78, 79, 80, 81, 82, 83, 84, 85, 86, 87, 88, 89, 90, 91, 92, 93, 170, 171, 172, 173, 174] (by decide +kernel) (by decide +kernel)
set_option maxRecDepth 20000 in
theorem gX6_readAll_X8_cutIntoTokens : GoodIn wsX6_readAll (wsV RX6 25 RX8 yX8_cutIntoTokens wsX8_cutIntoTokens) := goodIn_app (goodIn_of _ (by decide +kernel)) ggX6_readAll_X8_cutIntoTokens
set_option maxRecDepth 20000 in
theorem ggX6_readAll_X3_empty : GoodIn wsX6_readAll wsX3_empty := goodIn_r _ [98, 99, 100, 175, 176, 177, 178, 179, 180, 181, 182, 183, 184] (by decide +kernel) (by decide +kernel)
set_option maxRecDepth 20000 in
theorem gX6_readAll_X3_empty : GoodIn wsX6_readAll (wsV RX6 30 RX3 yX3_empty wsX3_empty) := goodIn_app (goodIn_of _ (by decide +kernel)) ggX6_readAll_X3_empty
set_option maxRecDepth 20000 in
theorem ggX6_readAll_X6_look : GoodIn wsX6_readAll wsX6_look := goodIn_r _ [105, 2, 106, 107, 16, 108, 1, 109, 3, 110, 111, 166, 167, 168, 169, 170, 171, 172, 173, 174] (by decide +kernel) (by decide +kernel)
set_option maxRecDepth 20000 in
theorem gX6_readAll_X6_look : GoodIn wsX6_readAll (wsV RX6 35 RX6 yX6_look wsX6_look) := goodIn_app (goodIn_of _ (by decide +kernel)) ggX6_readAll_X6_look
set_option maxRecDepth 20000 in
theorem ggX6_readAll_X6_readItem : GoodIn wsX6_readAll wsX6_readItem := goodIn_r _ [115, 3, 116, 117, 118, 104, 119, 120, 111, 121, 122, 123, 124, 125, 126, 127, 128, 2, 101, 102, 103, 105, 106, 107, 16, 108, 1, 109, 110, 129, 130, 131, 132, 133, 134, 135, 97, 136, 99, 137, 138, 139, 140, 141, 142, 143, 144, 145, 146, 147, 148, 149, 150, 151, 152, 153, 154, 155, 156, 157, 158, 159, 160, 161, 162, 100, 163, 164, 165, 166, 167, 168, 169, 175, 176, 177, 178, 179, 180, 181, 182, 183, 184, 170, 171, 172, 173, 174] (by decide +kernel) (by decide +kernel)
set_option maxRecDepth 20000 in
theorem gX6_readAll_X6_readItem : GoodIn wsX6_readAll (wsV RX6 38 RX6 yX6_readItem wsX6_readItem) := goodIn_app (goodIn_of _ (by decide +kernel)) ggX6_readAll_X6_readItem
theorem dX6_readAll_0 : decode cX6_readAll 0 = .ok (.aload_n 0, 1) := by decide +kernel
theorem dX6_readAll_1 : decode cX6_readAll 1 = .ok (.getfield 21, 3) := by decide +kernel
theorem dX6_readAll_4 : decode cX6_readAll 4 = .ok (.invokevirtual 25, 3) := by decide +kernel
theorem dX6_readAll_7 : decode cX6_readAll 7 = .ok (.aload_n 1, 1) := by decide +kernel
theorem dX6_readAll_8 : decode cX6_readAll 8 = .ok (.invokevirtual 30, 3) := by decide +kernel
theorem dX6_readAll_11 : decode cX6_readAll 11 = .ok (.aload_n 0, 1) := by decide +kernel
theorem dX6_readAll_12 : decode cX6_readAll 12 = .ok (.iconst 0, 1) := by decide +kernel
theorem dX6_readAll_13 : decode cX6_readAll 13 = .ok (.putfield 9, 3) := by decide +kernel
theorem dX6_readAll_16 : decode cX6_readAll 16 = .ok (.iconst 0, 1) := by decide +kernel
theorem dX6_readAll_17 : decode cX6_readAll 17 = .ok (.istore_n 2, 1) := by decide +kernel
theorem dX6_readAll_18 : decode cX6_readAll 18 = .ok (.iload_n 2, 1) := by decide +kernel
theorem dX6_readAll_19 : decode cX6_readAll 19 = .ok (.sipush 300, 3) := by decide +kernel
theorem dX6_readAll_22 : decode cX6_readAll 22 = .ok (.if_icmp .gt 45, 3) := by decide +kernel
theorem dX6_readAll_25 : decode cX6_readAll 25 = .ok (.aload_n 0, 1) := by decide +kernel
theorem dX6_readAll_26 : decode cX6_readAll 26 = .ok (.invokevirtual 35, 3) := by decide +kernel
theorem dX6_readAll_29 : decode cX6_readAll 29 = .ok (.aload_n 0, 1) := by decide +kernel
theorem dX6_readAll_30 : decode cX6_readAll 30 = .ok (.getfield 15, 3) := by decide +kernel
theorem dX6_readAll_33 : decode cX6_readAll 33 = .ok (.bipush 6, 2) := by decide +kernel
theorem dX6_readAll_35 : decode cX6_readAll 35 = .ok (.if_icmp .ne 5, 3) := by decide +kernel
theorem dX6_readAll_38 : decode cX6_readAll 38 = .ok (.iload_n 2, 1) := by decide +kernel
theorem dX6_readAll_39 : decode cX6_readAll 39 = .ok (.ireturn, 1) := by decide +kernel
theorem dX6_readAll_40 : decode cX6_readAll 40 = .ok (.aload_n 0, 1) := by decide +kernel
theorem dX6_readAll_41 : decode cX6_readAll 41 = .ok (.aload_n 1, 1) := by decide +kernel
theorem dX6_readAll_42 : decode cX6_readAll 42 = .ok (.invokevirtual 38, 3) := by decide +kernel
theorem dX6_readAll_45 : decode cX6_readAll 45 = .ok (.ifCond .ne 6, 3) := by decide +kernel
theorem dX6_readAll_48 : decode cX6_readAll 48 = .ok (.goto 19, 3) := by decide +kernel
theorem dX6_readAll_51 : decode cX6_readAll 51 = .ok (.aload_n 0, 1) := by decide +kernel
theorem dX6_readAll_52 : decode cX6_readAll 52 = .ok (.dup, 1) := by decide +kernel
theorem dX6_readAll_53 : decode cX6_readAll 53 = .ok (.getfield 9, 3) := by decide +kernel
theorem dX6_readAll_56 : decode cX6_readAll 56 = .ok (.iconst 1, 1) := by decide +kernel
theorem dX6_readAll_57 : decode cX6_readAll 57 = .ok (.iadd, 1) := by decide +kernel
theorem dX6_readAll_58 : decode cX6_readAll 58 = .ok (.putfield 9, 3) := by decide +kernel
theorem dX6_readAll_61 : decode cX6_readAll 61 = .ok (.iinc 2 1, 3) := by decide +kernel
theorem dX6_readAll_64 : decode cX6_readAll 64 = .ok (.goto (-46), 3) := by decide +kernel
theorem dX6_readAll_67 : decode cX6_readAll 67 = .ok (.bipush (-10), 2) := by decide +kernel
theorem dX6_readAll_69 : decode cX6_readAll 69 = .ok (.aload_n 0, 1) := by decide +kernel
theorem dX6_readAll_70 : decode cX6_readAll 70 = .ok (.getfield 21, 3) := by decide +kernel
theorem dX6_readAll_73 : decode cX6_readAll 73 = .ok (.getfield 42, 3) := by decide +kernel
theorem dX6_readAll_76 : decode cX6_readAll 76 = .ok (.aload_n 0, 1) := by decide +kernel
theorem dX6_readAll_77 : decode cX6_readAll 77 = .ok (.getfield 9, 3) := by decide +kernel
theorem dX6_readAll_80 : decode cX6_readAll 80 = .ok (.iaload, 1) := by decide +kernel
theorem dX6_readAll_81 : decode cX6_readAll 81 = .ok (.isub, 1) := by decide +kernel
theorem dX6_readAll_82 : decode cX6_readAll 82 = .ok (.ireturn, 1) := by decide +kernel
theorem dX6_look_0 : decode cX6_look 0 = .ok (.aload_n 0, 1) := by decide +kernel
theorem dX6_look_1 : decode cX6_look 1 = .ok (.aload_n 0, 1) := by decide +kernel
theorem dX6_look_2 : decode cX6_look 2 = .ok (.getfield 9, 3) := by decide +kernel
theorem dX6_look_5 : decode cX6_look 5 = .ok (.sipush 300, 3) := by decide +kernel
theorem dX6_look_8 : decode cX6_look 8 = .ok (.invokestatic 46, 3) := by decide +kernel
theorem dX6_look_11 : decode cX6_look 11 = .ok (.putfield 9, 3) := by decide +kernel
theorem dX6_look_14 : decode cX6_look 14 = .ok (.aload_n 0, 1) := by decide +kernel
theorem dX6_look_15 : decode cX6_look 15 = .ok (.aload_n 0, 1) := by decide +kernel
theorem dX6_look_16 : decode cX6_look 16 = .ok (.getfield 21, 3) := by decide +kernel
theorem dX6_look_19 : decode cX6_look 19 = .ok (.getfield 52, 3) := by decide +kernel
theorem dX6_look_22 : decode cX6_look 22 = .ok (.aload_n 0, 1) := by decide +kernel
theorem dX6_look_23 : decode cX6_look 23 = .ok (.getfield 9, 3) := by decide +kernel
theorem dX6_look_26 : decode cX6_look 26 = .ok (.iaload, 1) := by decide +kernel
theorem dX6_look_27 : decode cX6_look 27 = .ok (.putfield 15, 3) := by decide +kernel
theorem dX6_look_30 : decode cX6_look 30 = .ok (.aload_n 0, 1) := by decide +kernel
theorem dX6_look_31 : decode cX6_look 31 = .ok (.aload_n 0, 1) := by decide +kernel
theorem dX6_look_32 : decode cX6_look 32 = .ok (.getfield 21, 3) := by decide +kernel
theorem dX6_look_35 : decode cX6_look 35 = .ok (.getfield 55, 3) := by decide +kernel
theorem dX6_look_38 : decode cX6_look 38 = .ok (.aload_n 0, 1) := by decide +kernel
theorem dX6_look_39 : decode cX6_look 39 = .ok (.getfield 9, 3) := by decide +kernel
theorem dX6_look_42 : decode cX6_look 42 = .ok (.iaload, 1) := by decide +kernel
theorem dX6_look_43 : decode cX6_look 43 = .ok (.putfield 18, 3) := by decide +kernel
theorem dX6_look_46 : decode cX6_look 46 = .ok (.return_, 1) := by decide +kernel
set_option maxRecDepth 20000 in
theorem ggX6_advance_X6_look : GoodIn wsX6_advance wsX6_look := goodIn_r _ [6, 1, 7, 8, 9, 10, 11, 12, 13, 14, 15, 16, 17, 18, 19, 20, 21, 22, 23, 24] (by decide +kernel) (by decide +kernel)
set_option maxRecDepth 20000 in
theorem gX6_advance_X6_look : GoodIn wsX6_advance (wsV RX6 35 RX6 yX6_look wsX6_look) := goodIn_app (goodIn_of _ (by decide +kernel)) ggX6_advance_X6_look
theorem dX6_advance_0 : decode cX6_advance 0 = .ok (.aload_n 0, 1) := by decide +kernel
theorem dX6_advance_1 : decode cX6_advance 1 = .ok (.dup, 1) := by decide +kernel
theorem dX6_advance_2 : decode cX6_advance 2 = .ok (.getfield 9, 3) := by decide +kernel
theorem dX6_advance_5 : decode cX6_advance 5 = .ok (.iconst 1, 1) := by decide +kernel
theorem dX6_advance_6 : decode cX6_advance 6 = .ok (.iadd, 1) := by decide +kernel
theorem dX6_advance_7 : decode cX6_advance 7 = .ok (.putfield 9, 3) := by decide +kernel
theorem dX6_advance_10 : decode cX6_advance 10 = .ok (.aload_n 0, 1) := by decide +kernel
theorem dX6_advance_11 : decode cX6_advance 11 = .ok (.invokevirtual 35, 3) := by decide +kernel
theorem dX6_advance_14 : decode cX6_advance 14 = .ok (.return_, 1) := by decide +kernel
set_option maxRecDepth 20000 in
theorem ggX6_readItem_X6_readHalf : GoodIn wsX6_readItem wsX6_readHalf := goodIn_r _ [6, 7, 8, 9, 10, 11, 5, 12, 1, 13, 14, 15, 16, 17, 18, 19, 20, 21, 22, 23, 24, 25, 26, 27, 28, 29, 30, 31, 32, 33, 34, 35, 36, 37, 38, 39, 40, 41, 42, 43, 73, 74, 75, 76, 77, 78, 79, 80, 81, 82, 69, 70, 71, 72, 83, 84, 85, 86, 87] (by decide +kernel) (by decide +kernel)
set_option maxRecDepth 20000 in
theorem gX6_readItem_X6_readHalf : GoodIn wsX6_readItem (wsV RX6 58 RX6 yX6_readHalf wsX6_readHalf) := goodIn_app (goodIn_of _ (by decide +kernel)) ggX6_readItem_X6_readHalf
set_option maxRecDepth 20000 in
theorem ggX6_readItem_X6_readQuarrel : GoodIn wsX6_readItem wsX6_readQuarrel := goodIn_r _ [47, 7, 8, 9, 10, 11, 5, 12, 1, 13, 14, 15, 16, 17, 18, 19, 20, 21, 22, 23, 24, 25, 26, 27, 28, 29, 30, 31, 32, 48, 49, 50, 36, 51, 43, 52, 53, 54, 55, 38, 73, 74, 75, 76, 77, 78, 79, 80, 81, 82, 69, 70, 71, 72, 83, 84, 85, 86, 87] (by decide +kernel) (by decide +kernel)
set_option maxRecDepth 20000 in
theorem gX6_readItem_X6_readQuarrel : GoodIn wsX6_readItem (wsV RX6 62 RX6 yX6_readQuarrel wsX6_readQuarrel) := goodIn_app (goodIn_of _ (by decide +kernel)) ggX6_readItem_X6_readQuarrel
set_option maxRecDepth 20000 in
theorem ggX6_readItem_X6_readTree : GoodIn wsX6_readItem wsX6_readTree := goodIn_r _ [59, 60, 8, 9, 10, 11, 5, 12, 1, 13, 14, 15, 16, 17, 18, 19, 20, 21, 22, 23, 24, 25, 26, 27, 28, 29, 30, 31, 32, 61, 62, 63, 36, 64, 65, 66, 67, 68, 73, 74, 75, 76, 77, 78, 79, 80, 81, 82, 69, 70, 71, 72, 83, 84, 85, 86, 87] (by decide +kernel) (by decide +kernel)
set_option maxRecDepth 20000 in
theorem gX6_readItem_X6_readTree : GoodIn wsX6_readItem (wsV RX6 65 RX6 yX6_readTree wsX6_readTree) := goodIn_app (goodIn_of _ (by decide +kernel)) ggX6_readItem_X6_readTree
theorem dX6_readItem_0 : decode cX6_readItem 0 = .ok (.aload_n 0, 1) := by decide +kernel
theorem dX6_readItem_1 : decode cX6_readItem 1 = .ok (.getfield 15, 3) := by decide +kernel
theorem dX6_readItem_4 : decode cX6_readItem 4 = .ok (.tableswitch 58 0 3 #[32, 39, 46, 52], 32) := by decide +kernel
theorem dX6_readItem_36 : decode cX6_readItem 36 = .ok (.aload_n 0, 1) := by decide +kernel
theorem dX6_readItem_37 : decode cX6_readItem 37 = .ok (.aload_n 1, 1) := by decide +kernel
theorem dX6_readItem_38 : decode cX6_readItem 38 = .ok (.iconst 0, 1) := by decide +kernel
theorem dX6_readItem_39 : decode cX6_readItem 39 = .ok (.invokevirtual 58, 3) := by decide +kernel
theorem dX6_readItem_42 : decode cX6_readItem 42 = .ok (.ireturn, 1) := by decide +kernel
theorem dX6_readItem_43 : decode cX6_readItem 43 = .ok (.aload_n 0, 1) := by decide +kernel
theorem dX6_readItem_44 : decode cX6_readItem 44 = .ok (.aload_n 1, 1) := by decide +kernel
theorem dX6_readItem_45 : decode cX6_readItem 45 = .ok (.iconst 1, 1) := by decide +kernel
theorem dX6_readItem_46 : decode cX6_readItem 46 = .ok (.invokevirtual 58, 3) := by decide +kernel
theorem dX6_readItem_49 : decode cX6_readItem 49 = .ok (.ireturn, 1) := by decide +kernel
theorem dX6_readItem_50 : decode cX6_readItem 50 = .ok (.aload_n 0, 1) := by decide +kernel
theorem dX6_readItem_51 : decode cX6_readItem 51 = .ok (.aload_n 1, 1) := by decide +kernel
theorem dX6_readItem_52 : decode cX6_readItem 52 = .ok (.invokevirtual 62, 3) := by decide +kernel
theorem dX6_readItem_55 : decode cX6_readItem 55 = .ok (.ireturn, 1) := by decide +kernel
theorem dX6_readItem_56 : decode cX6_readItem 56 = .ok (.aload_n 0, 1) := by decide +kernel
theorem dX6_readItem_57 : decode cX6_readItem 57 = .ok (.aload_n 1, 1) := by decide +kernel
theorem dX6_readItem_58 : decode cX6_readItem 58 = .ok (.invokevirtual 65, 3) := by decide +kernel
theorem dX6_readItem_61 : decode cX6_readItem 61 = .ok (.ireturn, 1) := by decide +kernel
theorem dX6_readItem_62 : decode cX6_readItem 62 = .ok (.iconst 0, 1) := by decide +kernel
theorem dX6_readItem_63 : decode cX6_readItem 63 = .ok (.ireturn, 1) := by decide +kernel
set_option maxRecDepth 20000 in
theorem ggX6_readHalf_X6_readNumber : GoodIn wsX6_readHalf wsX6_readNumber := goodIn_r _ [7, 8, 2, 9, 10, 11, 6, 12, 13, 14, 15, 16, 17, 18, 19, 20, 21, 22, 23, 24, 50, 51, 52, 53, 54, 55, 56, 57, 58] (by decide +kernel) (by decide +kernel)
set_option maxRecDepth 20000 in
theorem gX6_readHalf_X6_readNumber : GoodIn wsX6_readHalf (wsV RX6 71 RX6 yX6_readNumber wsX6_readNumber) := goodIn_app (goodIn_of _ (by decide +kernel)) ggX6_readHalf_X6_readNumber
set_option maxRecDepth 20000 in
theorem ggX6_readHalf_X6_readSemicolon : GoodIn wsX6_readHalf wsX6_readSemicolon := goodIn_r _ [28, 8, 9, 10, 11, 6, 12, 13, 14, 15, 16, 17, 18, 19, 20, 21, 22, 23, 24, 2, 50, 51, 52, 53, 54, 55, 56, 57, 58] (by decide +kernel) (by decide +kernel)
set_option maxRecDepth 20000 in
theorem gX6_readHalf_X6_readSemicolon : GoodIn wsX6_readHalf (wsV RX6 75 RX6 yX6_readSemicolon wsX6_readSemicolon) := goodIn_app (goodIn_of _ (by decide +kernel)) ggX6_readHalf_X6_readSemicolon
set_option maxRecDepth 20000 in
theorem ggX6_readHalf_X3_addHalf : GoodIn wsX6_readHalf wsX3_addHalf := goodIn_r _ [33, 34, 35, 36, 37, 38, 39, 40, 41, 42, 43, 44, 45, 46, 47, 48, 49] (by decide +kernel) (by decide +kernel)
set_option maxRecDepth 20000 in
theorem gX6_readHalf_X3_addHalf : GoodIn wsX6_readHalf (wsV RX6 79 RX3 yX3_addHalf wsX3_addHalf) := goodIn_app (goodIn_of _ (by decide +kernel)) ggX6_readHalf_X3_addHalf
theorem dX6_readHalf_0 : decode cX6_readHalf 0 = .ok (.aload_n 1, 1) := by decide +kernel
theorem dX6_readHalf_1 : decode cX6_readHalf 1 = .ok (.getfield 68, 3) := by decide +kernel
theorem dX6_readHalf_4 : decode cX6_readHalf 4 = .ok (.bipush 8, 2) := by decide +kernel
theorem dX6_readHalf_6 : decode cX6_readHalf 6 = .ok (.if_icmp .ge 13, 3) := by decide +kernel
theorem dX6_readHalf_9 : decode cX6_readHalf 9 = .ok (.aload_n 0, 1) := by decide +kernel
theorem dX6_readHalf_10 : decode cX6_readHalf 10 = .ok (.iconst 1, 1) := by decide +kernel
theorem dX6_readHalf_11 : decode cX6_readHalf 11 = .ok (.bipush 9, 2) := by decide +kernel
theorem dX6_readHalf_13 : decode cX6_readHalf 13 = .ok (.invokevirtual 71, 3) := by decide +kernel
theorem dX6_readHalf_16 : decode cX6_readHalf 16 = .ok (.ifCond .ne 5, 3) := by decide +kernel
theorem dX6_readHalf_19 : decode cX6_readHalf 19 = .ok (.iconst 0, 1) := by decide +kernel
theorem dX6_readHalf_20 : decode cX6_readHalf 20 = .ok (.ireturn, 1) := by decide +kernel
theorem dX6_readHalf_21 : decode cX6_readHalf 21 = .ok (.aload_n 0, 1) := by decide +kernel
theorem dX6_readHalf_22 : decode cX6_readHalf 22 = .ok (.getfield 18, 3) := by decide +kernel
theorem dX6_readHalf_25 : decode cX6_readHalf 25 = .ok (.istore_n 3, 1) := by decide +kernel
theorem dX6_readHalf_26 : decode cX6_readHalf 26 = .ok (.aload_n 0, 1) := by decide +kernel
theorem dX6_readHalf_27 : decode cX6_readHalf 27 = .ok (.iconst 1, 1) := by decide +kernel
theorem dX6_readHalf_28 : decode cX6_readHalf 28 = .ok (.bipush 9, 2) := by decide +kernel
theorem dX6_readHalf_30 : decode cX6_readHalf 30 = .ok (.invokevirtual 71, 3) := by decide +kernel
theorem dX6_readHalf_33 : decode cX6_readHalf 33 = .ok (.ifCond .ne 5, 3) := by decide +kernel
theorem dX6_readHalf_36 : decode cX6_readHalf 36 = .ok (.iconst 0, 1) := by decide +kernel
theorem dX6_readHalf_37 : decode cX6_readHalf 37 = .ok (.ireturn, 1) := by decide +kernel
theorem dX6_readHalf_38 : decode cX6_readHalf 38 = .ok (.aload_n 0, 1) := by decide +kernel
theorem dX6_readHalf_39 : decode cX6_readHalf 39 = .ok (.getfield 18, 3) := by decide +kernel
theorem dX6_readHalf_42 : decode cX6_readHalf 42 = .ok (.istore 4, 2) := by decide +kernel
theorem dX6_readHalf_44 : decode cX6_readHalf 44 = .ok (.aload_n 0, 1) := by decide +kernel
theorem dX6_readHalf_45 : decode cX6_readHalf 45 = .ok (.iconst 1, 1) := by decide +kernel
theorem dX6_readHalf_46 : decode cX6_readHalf 46 = .ok (.bipush 9, 2) := by decide +kernel
theorem dX6_readHalf_48 : decode cX6_readHalf 48 = .ok (.invokevirtual 71, 3) := by decide +kernel
theorem dX6_readHalf_51 : decode cX6_readHalf 51 = .ok (.ifCond .ne 5, 3) := by decide +kernel
theorem dX6_readHalf_54 : decode cX6_readHalf 54 = .ok (.iconst 0, 1) := by decide +kernel
theorem dX6_readHalf_55 : decode cX6_readHalf 55 = .ok (.ireturn, 1) := by decide +kernel
theorem dX6_readHalf_56 : decode cX6_readHalf 56 = .ok (.aload_n 0, 1) := by decide +kernel
theorem dX6_readHalf_57 : decode cX6_readHalf 57 = .ok (.getfield 18, 3) := by decide +kernel
theorem dX6_readHalf_60 : decode cX6_readHalf 60 = .ok (.istore 5, 2) := by decide +kernel
theorem dX6_readHalf_62 : decode cX6_readHalf 62 = .ok (.aload_n 0, 1) := by decide +kernel
theorem dX6_readHalf_63 : decode cX6_readHalf 63 = .ok (.invokevirtual 75, 3) := by decide +kernel
theorem dX6_readHalf_66 : decode cX6_readHalf 66 = .ok (.ifCond .ne 5, 3) := by decide +kernel
theorem dX6_readHalf_69 : decode cX6_readHalf 69 = .ok (.iconst 0, 1) := by decide +kernel
theorem dX6_readHalf_70 : decode cX6_readHalf 70 = .ok (.ireturn, 1) := by decide +kernel
theorem dX6_readHalf_71 : decode cX6_readHalf 71 = .ok (.aload_n 1, 1) := by decide +kernel
theorem dX6_readHalf_72 : decode cX6_readHalf 72 = .ok (.iload_n 2, 1) := by decide +kernel
theorem dX6_readHalf_73 : decode cX6_readHalf 73 = .ok (.iload_n 3, 1) := by decide +kernel
theorem dX6_readHalf_74 : decode cX6_readHalf 74 = .ok (.iload 4, 2) := by decide +kernel
theorem dX6_readHalf_76 : decode cX6_readHalf 76 = .ok (.iload 5, 2) := by decide +kernel
theorem dX6_readHalf_78 : decode cX6_readHalf 78 = .ok (.invokevirtual 79, 3) := by decide +kernel
theorem dX6_readHalf_81 : decode cX6_readHalf 81 = .ok (.iconst 1, 1) := by decide +kernel
theorem dX6_readHalf_82 : decode cX6_readHalf 82 = .ok (.ireturn, 1) := by decide +kernel
set_option maxRecDepth 20000 in
theorem ggX6_readQuarrel_X6_readNumber : GoodIn wsX6_readQuarrel wsX6_readNumber := goodIn_r _ [7, 8, 2, 9, 10, 11, 6, 12, 13, 14, 15, 16, 17, 18, 19, 20, 21, 22, 23, 24, 50, 51, 52, 53, 54, 55, 56, 57, 58] (by decide +kernel) (by decide +kernel)
set_option maxRecDepth 20000 in
theorem gX6_readQuarrel_X6_readNumber : GoodIn wsX6_readQuarrel (wsV RX6 71 RX6 yX6_readNumber wsX6_readNumber) := goodIn_app (goodIn_of _ (by decide +kernel)) ggX6_readQuarrel_X6_readNumber
set_option maxRecDepth 20000 in
theorem ggX6_readQuarrel_X6_readSemicolon : GoodIn wsX6_readQuarrel wsX6_readSemicolon := goodIn_r _ [28, 8, 9, 10, 11, 6, 12, 13, 14, 15, 16, 17, 18, 19, 20, 21, 22, 23, 24, 2, 50, 51, 52, 53, 54, 55, 56, 57, 58] (by decide +kernel) (by decide +kernel)
set_option maxRecDepth 20000 in
theorem gX6_readQuarrel_X6_readSemicolon : GoodIn wsX6_readQuarrel (wsV RX6 75 RX6 yX6_readSemicolon wsX6_readSemicolon) := goodIn_app (goodIn_of _ (by decide +kernel)) ggX6_readQuarrel_X6_readSemicolon
set_option maxRecDepth 20000 in
theorem ggX6_readQuarrel_X3_addQuarrel : GoodIn wsX6_readQuarrel wsX3_addQuarrel := goodIn_r _ [33, 34, 35, 36, 37, 32, 38, 39, 40, 41, 42, 43, 44, 45, 46, 47, 48, 49] (by decide +kernel) (by decide +kernel)
set_option maxRecDepth 20000 in
theorem gX6_readQuarrel_X3_addQuarrel : GoodIn wsX6_readQuarrel (wsV RX6 83 RX3 yX3_addQuarrel wsX3_addQuarrel) := goodIn_app (goodIn_of _ (by decide +kernel)) ggX6_readQuarrel_X3_addQuarrel
theorem dX6_readQuarrel_0 : decode cX6_readQuarrel 0 = .ok (.aload_n 0, 1) := by decide +kernel
theorem dX6_readQuarrel_1 : decode cX6_readQuarrel 1 = .ok (.iconst 0, 1) := by decide +kernel
theorem dX6_readQuarrel_2 : decode cX6_readQuarrel 2 = .ok (.aload_n 1, 1) := by decide +kernel
theorem dX6_readQuarrel_3 : decode cX6_readQuarrel 3 = .ok (.getfield 68, 3) := by decide +kernel
theorem dX6_readQuarrel_6 : decode cX6_readQuarrel 6 = .ok (.iconst 1, 1) := by decide +kernel
theorem dX6_readQuarrel_7 : decode cX6_readQuarrel 7 = .ok (.isub, 1) := by decide +kernel
theorem dX6_readQuarrel_8 : decode cX6_readQuarrel 8 = .ok (.invokevirtual 71, 3) := by decide +kernel
theorem dX6_readQuarrel_11 : decode cX6_readQuarrel 11 = .ok (.ifCond .ne 5, 3) := by decide +kernel
theorem dX6_readQuarrel_14 : decode cX6_readQuarrel 14 = .ok (.iconst 0, 1) := by decide +kernel
theorem dX6_readQuarrel_15 : decode cX6_readQuarrel 15 = .ok (.ireturn, 1) := by decide +kernel
theorem dX6_readQuarrel_16 : decode cX6_readQuarrel 16 = .ok (.aload_n 0, 1) := by decide +kernel
theorem dX6_readQuarrel_17 : decode cX6_readQuarrel 17 = .ok (.getfield 18, 3) := by decide +kernel
theorem dX6_readQuarrel_20 : decode cX6_readQuarrel 20 = .ok (.istore_n 2, 1) := by decide +kernel
theorem dX6_readQuarrel_21 : decode cX6_readQuarrel 21 = .ok (.aload_n 0, 1) := by decide +kernel
theorem dX6_readQuarrel_22 : decode cX6_readQuarrel 22 = .ok (.iconst 0, 1) := by decide +kernel
theorem dX6_readQuarrel_23 : decode cX6_readQuarrel 23 = .ok (.aload_n 1, 1) := by decide +kernel
theorem dX6_readQuarrel_24 : decode cX6_readQuarrel 24 = .ok (.getfield 68, 3) := by decide +kernel
theorem dX6_readQuarrel_27 : decode cX6_readQuarrel 27 = .ok (.iconst 1, 1) := by decide +kernel
theorem dX6_readQuarrel_28 : decode cX6_readQuarrel 28 = .ok (.isub, 1) := by decide +kernel
theorem dX6_readQuarrel_29 : decode cX6_readQuarrel 29 = .ok (.invokevirtual 71, 3) := by decide +kernel
theorem dX6_readQuarrel_32 : decode cX6_readQuarrel 32 = .ok (.ifCond .eq 11, 3) := by decide +kernel
theorem dX6_readQuarrel_35 : decode cX6_readQuarrel 35 = .ok (.aload_n 0, 1) := by decide +kernel
theorem dX6_readQuarrel_36 : decode cX6_readQuarrel 36 = .ok (.getfield 18, 3) := by decide +kernel
theorem dX6_readQuarrel_39 : decode cX6_readQuarrel 39 = .ok (.iload_n 2, 1) := by decide +kernel
theorem dX6_readQuarrel_40 : decode cX6_readQuarrel 40 = .ok (.if_icmp .ne 5, 3) := by decide +kernel
theorem dX6_readQuarrel_43 : decode cX6_readQuarrel 43 = .ok (.iconst 0, 1) := by decide +kernel
theorem dX6_readQuarrel_44 : decode cX6_readQuarrel 44 = .ok (.ireturn, 1) := by decide +kernel
theorem dX6_readQuarrel_45 : decode cX6_readQuarrel 45 = .ok (.aload_n 0, 1) := by decide +kernel
theorem dX6_readQuarrel_46 : decode cX6_readQuarrel 46 = .ok (.getfield 18, 3) := by decide +kernel
theorem dX6_readQuarrel_49 : decode cX6_readQuarrel 49 = .ok (.istore_n 3, 1) := by decide +kernel
theorem dX6_readQuarrel_50 : decode cX6_readQuarrel 50 = .ok (.aload_n 0, 1) := by decide +kernel
theorem dX6_readQuarrel_51 : decode cX6_readQuarrel 51 = .ok (.invokevirtual 75, 3) := by decide +kernel
theorem dX6_readQuarrel_54 : decode cX6_readQuarrel 54 = .ok (.ifCond .ne 5, 3) := by decide +kernel
theorem dX6_readQuarrel_57 : decode cX6_readQuarrel 57 = .ok (.iconst 0, 1) := by decide +kernel
theorem dX6_readQuarrel_58 : decode cX6_readQuarrel 58 = .ok (.ireturn, 1) := by decide +kernel
theorem dX6_readQuarrel_59 : decode cX6_readQuarrel 59 = .ok (.aload_n 1, 1) := by decide +kernel
theorem dX6_readQuarrel_60 : decode cX6_readQuarrel 60 = .ok (.iload_n 2, 1) := by decide +kernel
theorem dX6_readQuarrel_61 : decode cX6_readQuarrel 61 = .ok (.iload_n 3, 1) := by decide +kernel
theorem dX6_readQuarrel_62 : decode cX6_readQuarrel 62 = .ok (.invokevirtual 83, 3) := by decide +kernel
theorem dX6_readQuarrel_65 : decode cX6_readQuarrel 65 = .ok (.iconst 1, 1) := by decide +kernel
theorem dX6_readQuarrel_66 : decode cX6_readQuarrel 66 = .ok (.ireturn, 1) := by decide +kernel
set_option maxRecDepth 20000 in
theorem ggX6_readTree_X6_readNumber : GoodIn wsX6_readTree wsX6_readNumber := goodIn_r _ [7, 8, 2, 9, 10, 11, 6, 12, 13, 14, 15, 16, 17, 18, 19, 20, 21, 22, 23, 24, 48, 49, 50, 51, 52, 53, 54, 55, 56] (by decide +kernel) (by decide +kernel)
set_option maxRecDepth 20000 in
theorem gX6_readTree_X6_readNumber : GoodIn wsX6_readTree (wsV RX6 71 RX6 yX6_readNumber wsX6_readNumber) := goodIn_app (goodIn_of _ (by decide +kernel)) ggX6_readTree_X6_readNumber
set_option maxRecDepth 20000 in
theorem ggX6_readTree_X6_readSemicolon : GoodIn wsX6_readTree wsX6_readSemicolon := goodIn_r _ [28, 8, 9, 10, 11, 6, 12, 13, 14, 15, 16, 17, 18, 19, 20, 21, 22, 23, 24, 2, 48, 49, 50, 51, 52, 53, 54, 55, 56] (by decide +kernel) (by decide +kernel)
set_option maxRecDepth 20000 in
theorem gX6_readTree_X6_readSemicolon : GoodIn wsX6_readTree (wsV RX6 75 RX6 yX6_readSemicolon wsX6_readSemicolon) := goodIn_app (goodIn_of _ (by decide +kernel)) ggX6_readTree_X6_readSemicolon
set_option maxRecDepth 20000 in
theorem ggX6_readTree_X3_addTree : GoodIn wsX6_readTree wsX3_addTree := goodIn_r _ [33, 34, 35, 36, 37, 38, 39, 40, 41, 42, 43, 44, 45, 46, 47] (by decide +kernel) (by decide +kernel)
set_option maxRecDepth 20000 in
theorem gX6_readTree_X3_addTree : GoodIn wsX6_readTree (wsV RX6 90 RX3 yX3_addTree wsX3_addTree) := goodIn_app (goodIn_of _ (by decide +kernel)) ggX6_readTree_X3_addTree
theorem dX6_readTree_0 : decode cX6_readTree 0 = .ok (.aload_n 1, 1) := by decide +kernel
theorem dX6_readTree_1 : decode cX6_readTree 1 = .ok (.getfield 87, 3) := by decide +kernel
theorem dX6_readTree_4 : decode cX6_readTree 4 = .ok (.iconst 5, 1) := by decide +kernel
theorem dX6_readTree_5 : decode cX6_readTree 5 = .ok (.if_icmp .ge 13, 3) := by decide +kernel
theorem dX6_readTree_8 : decode cX6_readTree 8 = .ok (.aload_n 0, 1) := by decide +kernel
theorem dX6_readTree_9 : decode cX6_readTree 9 = .ok (.iconst 1, 1) := by decide +kernel
theorem dX6_readTree_10 : decode cX6_readTree 10 = .ok (.bipush 9, 2) := by decide +kernel
theorem dX6_readTree_12 : decode cX6_readTree 12 = .ok (.invokevirtual 71, 3) := by decide +kernel
theorem dX6_readTree_15 : decode cX6_readTree 15 = .ok (.ifCond .ne 5, 3) := by decide +kernel
theorem dX6_readTree_18 : decode cX6_readTree 18 = .ok (.iconst 0, 1) := by decide +kernel
theorem dX6_readTree_19 : decode cX6_readTree 19 = .ok (.ireturn, 1) := by decide +kernel
theorem dX6_readTree_20 : decode cX6_readTree 20 = .ok (.aload_n 0, 1) := by decide +kernel
theorem dX6_readTree_21 : decode cX6_readTree 21 = .ok (.getfield 18, 3) := by decide +kernel
theorem dX6_readTree_24 : decode cX6_readTree 24 = .ok (.istore_n 2, 1) := by decide +kernel
theorem dX6_readTree_25 : decode cX6_readTree 25 = .ok (.aload_n 0, 1) := by decide +kernel
theorem dX6_readTree_26 : decode cX6_readTree 26 = .ok (.iconst 0, 1) := by decide +kernel
theorem dX6_readTree_27 : decode cX6_readTree 27 = .ok (.bipush 20, 2) := by decide +kernel
theorem dX6_readTree_29 : decode cX6_readTree 29 = .ok (.invokevirtual 71, 3) := by decide +kernel
theorem dX6_readTree_32 : decode cX6_readTree 32 = .ok (.ifCond .ne 5, 3) := by decide +kernel
theorem dX6_readTree_35 : decode cX6_readTree 35 = .ok (.iconst 0, 1) := by decide +kernel
theorem dX6_readTree_36 : decode cX6_readTree 36 = .ok (.ireturn, 1) := by decide +kernel
theorem dX6_readTree_37 : decode cX6_readTree 37 = .ok (.aload_n 0, 1) := by decide +kernel
theorem dX6_readTree_38 : decode cX6_readTree 38 = .ok (.getfield 18, 3) := by decide +kernel
theorem dX6_readTree_41 : decode cX6_readTree 41 = .ok (.istore_n 3, 1) := by decide +kernel
theorem dX6_readTree_42 : decode cX6_readTree 42 = .ok (.aload_n 0, 1) := by decide +kernel
theorem dX6_readTree_43 : decode cX6_readTree 43 = .ok (.iconst 0, 1) := by decide +kernel
theorem dX6_readTree_44 : decode cX6_readTree 44 = .ok (.bipush 99, 2) := by decide +kernel
theorem dX6_readTree_46 : decode cX6_readTree 46 = .ok (.invokevirtual 71, 3) := by decide +kernel
theorem dX6_readTree_49 : decode cX6_readTree 49 = .ok (.ifCond .ne 5, 3) := by decide +kernel
theorem dX6_readTree_52 : decode cX6_readTree 52 = .ok (.iconst 0, 1) := by decide +kernel
theorem dX6_readTree_53 : decode cX6_readTree 53 = .ok (.ireturn, 1) := by decide +kernel
theorem dX6_readTree_54 : decode cX6_readTree 54 = .ok (.aload_n 0, 1) := by decide +kernel
theorem dX6_readTree_55 : decode cX6_readTree 55 = .ok (.getfield 18, 3) := by decide +kernel
theorem dX6_readTree_58 : decode cX6_readTree 58 = .ok (.istore 4, 2) := by decide +kernel
theorem dX6_readTree_60 : decode cX6_readTree 60 = .ok (.aload_n 0, 1) := by decide +kernel
theorem dX6_readTree_61 : decode cX6_readTree 61 = .ok (.invokevirtual 75, 3) := by decide +kernel
theorem dX6_readTree_64 : decode cX6_readTree 64 = .ok (.ifCond .ne 5, 3) := by decide +kernel
theorem dX6_readTree_67 : decode cX6_readTree 67 = .ok (.iconst 0, 1) := by decide +kernel
theorem dX6_readTree_68 : decode cX6_readTree 68 = .ok (.ireturn, 1) := by decide +kernel
theorem dX6_readTree_69 : decode cX6_readTree 69 = .ok (.aload_n 1, 1) := by decide +kernel
theorem dX6_readTree_70 : decode cX6_readTree 70 = .ok (.iload_n 2, 1) := by decide +kernel
theorem dX6_readTree_71 : decode cX6_readTree 71 = .ok (.iload_n 3, 1) := by decide +kernel
theorem dX6_readTree_72 : decode cX6_readTree 72 = .ok (.iload 4, 2) := by decide +kernel
theorem dX6_readTree_74 : decode cX6_readTree 74 = .ok (.invokevirtual 90, 3) := by decide +kernel
theorem dX6_readTree_77 : decode cX6_readTree 77 = .ok (.iconst 1, 1) := by decide +kernel
theorem dX6_readTree_78 : decode cX6_readTree 78 = .ok (.ireturn, 1) := by decide +kernel
set_option maxRecDepth 20000 in
theorem ggX6_readNumber_X6_advance : GoodIn wsX6_readNumber wsX6_advance := goodIn_r _ [7, 8, 9, 10, 11, 6, 12, 13, 14, 15, 16, 17, 18, 1, 19, 2, 20, 21, 22, 23, 24, 25, 26, 27, 28] (by decide +kernel) (by decide +kernel)
set_option maxRecDepth 20000 in
theorem gX6_readNumber_X6_advance : GoodIn wsX6_readNumber (wsV RX6 94 RX6 yX6_advance wsX6_advance) := goodIn_app (goodIn_of _ (by decide +kernel)) ggX6_readNumber_X6_advance
theorem dX6_readNumber_0 : decode cX6_readNumber 0 = .ok (.aload_n 0, 1) := by decide +kernel
theorem dX6_readNumber_1 : decode cX6_readNumber 1 = .ok (.invokevirtual 94, 3) := by decide +kernel
theorem dX6_readNumber_4 : decode cX6_readNumber 4 = .ok (.aload_n 0, 1) := by decide +kernel
theorem dX6_readNumber_5 : decode cX6_readNumber 5 = .ok (.getfield 15, 3) := by decide +kernel
theorem dX6_readNumber_8 : decode cX6_readNumber 8 = .ok (.iconst 4, 1) := by decide +kernel
theorem dX6_readNumber_9 : decode cX6_readNumber 9 = .ok (.if_icmp .ne 23, 3) := by decide +kernel
theorem dX6_readNumber_12 : decode cX6_readNumber 12 = .ok (.aload_n 0, 1) := by decide +kernel
theorem dX6_readNumber_13 : decode cX6_readNumber 13 = .ok (.getfield 18, 3) := by decide +kernel
theorem dX6_readNumber_16 : decode cX6_readNumber 16 = .ok (.iload_n 1, 1) := by decide +kernel
theorem dX6_readNumber_17 : decode cX6_readNumber 17 = .ok (.if_icmp .lt 15, 3) := by decide +kernel
theorem dX6_readNumber_20 : decode cX6_readNumber 20 = .ok (.aload_n 0, 1) := by decide +kernel
theorem dX6_readNumber_21 : decode cX6_readNumber 21 = .ok (.getfield 18, 3) := by decide +kernel
theorem dX6_readNumber_24 : decode cX6_readNumber 24 = .ok (.iload_n 2, 1) := by decide +kernel
theorem dX6_readNumber_25 : decode cX6_readNumber 25 = .ok (.if_icmp .gt 7, 3) := by decide +kernel
theorem dX6_readNumber_28 : decode cX6_readNumber 28 = .ok (.iconst 1, 1) := by decide +kernel
theorem dX6_readNumber_29 : decode cX6_readNumber 29 = .ok (.goto 4, 3) := by decide +kernel
theorem dX6_readNumber_32 : decode cX6_readNumber 32 = .ok (.iconst 0, 1) := by decide +kernel
theorem dX6_readNumber_33 : decode cX6_readNumber 33 = .ok (.ireturn, 1) := by decide +kernel
set_option maxRecDepth 20000 in
theorem ggX6_readSemicolon_X6_advance : GoodIn wsX6_readSemicolon wsX6_advance := goodIn_r _ [6, 7, 8, 9, 10, 5, 11, 12, 13, 14, 15, 16, 17, 1, 18, 19, 20, 21, 22, 23, 24, 25, 26, 27, 28] (by decide +kernel) (by decide +kernel)
set_option maxRecDepth 20000 in
theorem gX6_readSemicolon_X6_advance : GoodIn wsX6_readSemicolon (wsV RX6 94 RX6 yX6_advance wsX6_advance) := goodIn_app (goodIn_of _ (by decide +kernel)) ggX6_readSemicolon_X6_advance
theorem dX6_readSemicolon_0 : decode cX6_readSemicolon 0 = .ok (.aload_n 0, 1) := by decide +kernel
theorem dX6_readSemicolon_1 : decode cX6_readSemicolon 1 = .ok (.invokevirtual 94, 3) := by decide +kernel
theorem dX6_readSemicolon_4 : decode cX6_readSemicolon 4 = .ok (.aload_n 0, 1) := by decide +kernel
theorem dX6_readSemicolon_5 : decode cX6_readSemicolon 5 = .ok (.getfield 15, 3) := by decide +kernel
theorem dX6_readSemicolon_8 : decode cX6_readSemicolon 8 = .ok (.iconst 5, 1) := by decide +kernel
theorem dX6_readSemicolon_9 : decode cX6_readSemicolon 9 = .ok (.if_icmp .ne 7, 3) := by decide +kernel
theorem dX6_readSemicolon_12 : decode cX6_readSemicolon 12 = .ok (.iconst 1, 1) := by decide +kernel
theorem dX6_readSemicolon_13 : decode cX6_readSemicolon 13 = .ok (.goto 4, 3) := by decide +kernel
theorem dX6_readSemicolon_16 : decode cX6_readSemicolon 16 = .ok (.iconst 0, 1) := by decide +kernel
theorem dX6_readSemicolon_17 : decode cX6_readSemicolon 17 = .ok (.ireturn, 1) := by decide +kernel
theorem dX7_init_0 : decode cX7_init 0 = .ok (.aload_n 0, 1) := by decide +kernel
theorem dX7_init_1 : decode cX7_init 1 = .ok (.invokespecial 3, 3) := by decide +kernel
theorem dX7_init_4 : decode cX7_init 4 = .ok (.aload_n 0, 1) := by decide +kernel
theorem dX7_init_5 : decode cX7_init 5 = .ok (.sipush 256, 3) := by decide +kernel
theorem dX7_init_8 : decode cX7_init 8 = .ok (.newarray .int, 2) := by decide +kernel
theorem dX7_init_10 : decode cX7_init 10 = .ok (.putfield 9, 3) := by decide +kernel
theorem dX7_init_13 : decode cX7_init 13 = .ok (.return_, 1) := by decide +kernel
set_option maxRecDepth 20000 in
theorem ggX7_reckon_X3_everybody : GoodIn wsX7_reckon wsX3_everybody := goodIn_r _ [6, 7, 21, 22, 23, 24, 25, 26, 27, 28, 29, 30] (by decide +kernel) (by decide +kernel)
set_option maxRecDepth 20000 in
theorem gX7_reckon_X3_everybody : GoodIn wsX7_reckon (wsV RX7 15 RX3 yX3_everybody wsX3_everybody) := goodIn_app (goodIn_of _ (by decide +kernel)) ggX7_reckon_X3_everybody
set_option maxRecDepth 20000 in
theorem ggX7_reckon_X7_wholeOf : GoodIn wsX7_reckon wsX7_wholeOf := goodIn_r _ [12, 1, 13, 14, 15, 16, 17, 18, 19, 20, 31, 32, 33, 34, 35, 36, 37, 38] (by decide +kernel) (by decide +kernel)
set_option maxRecDepth 20000 in
theorem gX7_reckon_X7_wholeOf : GoodIn wsX7_reckon (wsV RX7 21 RX7 yX7_wholeOf wsX7_wholeOf) := goodIn_app (goodIn_of _ (by decide +kernel)) ggX7_reckon_X7_wholeOf
theorem dX7_reckon_0 : decode cX7_reckon 0 = .ok (.aload_n 0, 1) := by decide +kernel
theorem dX7_reckon_1 : decode cX7_reckon 1 = .ok (.getfield 9, 3) := by decide +kernel
theorem dX7_reckon_4 : decode cX7_reckon 4 = .ok (.iconst 0, 1) := by decide +kernel
theorem dX7_reckon_5 : decode cX7_reckon 5 = .ok (.iconst 0, 1) := by decide +kernel
theorem dX7_reckon_6 : decode cX7_reckon 6 = .ok (.iastore, 1) := by decide +kernel
theorem dX7_reckon_7 : decode cX7_reckon 7 = .ok (.iconst 1, 1) := by decide +kernel
theorem dX7_reckon_8 : decode cX7_reckon 8 = .ok (.istore_n 3, 1) := by decide +kernel
theorem dX7_reckon_9 : decode cX7_reckon 9 = .ok (.iload_n 3, 1) := by decide +kernel
theorem dX7_reckon_10 : decode cX7_reckon 10 = .ok (.aload_n 1, 1) := by decide +kernel
theorem dX7_reckon_11 : decode cX7_reckon 11 = .ok (.invokevirtual 15, 3) := by decide +kernel
theorem dX7_reckon_14 : decode cX7_reckon 14 = .ok (.if_icmp .gt 21, 3) := by decide +kernel
theorem dX7_reckon_17 : decode cX7_reckon 17 = .ok (.aload_n 0, 1) := by decide +kernel
theorem dX7_reckon_18 : decode cX7_reckon 18 = .ok (.getfield 9, 3) := by decide +kernel
theorem dX7_reckon_21 : decode cX7_reckon 21 = .ok (.iload_n 3, 1) := by decide +kernel
theorem dX7_reckon_22 : decode cX7_reckon 22 = .ok (.aload_n 0, 1) := by decide +kernel
theorem dX7_reckon_23 : decode cX7_reckon 23 = .ok (.aload_n 2, 1) := by decide +kernel
theorem dX7_reckon_24 : decode cX7_reckon 24 = .ok (.iload_n 3, 1) := by decide +kernel
theorem dX7_reckon_25 : decode cX7_reckon 25 = .ok (.invokevirtual 21, 3) := by decide +kernel
theorem dX7_reckon_28 : decode cX7_reckon 28 = .ok (.iastore, 1) := by decide +kernel
theorem dX7_reckon_29 : decode cX7_reckon 29 = .ok (.iinc 3 1, 3) := by decide +kernel
theorem dX7_reckon_32 : decode cX7_reckon 32 = .ok (.goto (-23), 3) := by decide +kernel
theorem dX7_reckon_35 : decode cX7_reckon 35 = .ok (.return_, 1) := by decide +kernel
end
section
theorem dX7_wholeOf_0 : decode cX7_wholeOf 0 = .ok (.iload_n 2, 1) := by decide +kernel
theorem dX7_wholeOf_1 : decode cX7_wholeOf 1 = .ok (.iload_n 2, 1) := by decide +kernel
theorem dX7_wholeOf_2 : decode cX7_wholeOf 2 = .ok (.ineg, 1) := by decide +kernel
theorem dX7_wholeOf_3 : decode cX7_wholeOf 3 = .ok (.iand, 1) := by decide +kernel
theorem dX7_wholeOf_4 : decode cX7_wholeOf 4 = .ok (.istore_n 3, 1) := by decide +kernel
theorem dX7_wholeOf_5 : decode cX7_wholeOf 5 = .ok (.aload_n 0, 1) := by decide +kernel
theorem dX7_wholeOf_6 : decode cX7_wholeOf 6 = .ok (.getfield 9, 3) := by decide +kernel
theorem dX7_wholeOf_9 : decode cX7_wholeOf 9 = .ok (.iload_n 2, 1) := by decide +kernel
theorem dX7_wholeOf_10 : decode cX7_wholeOf 10 = .ok (.iload_n 3, 1) := by decide +kernel
theorem dX7_wholeOf_11 : decode cX7_wholeOf 11 = .ok (.iconst (-1), 1) := by decide +kernel
theorem dX7_wholeOf_12 : decode cX7_wholeOf 12 = .ok (.ixor, 1) := by decide +kernel
theorem dX7_wholeOf_13 : decode cX7_wholeOf 13 = .ok (.iand, 1) := by decide +kernel
theorem dX7_wholeOf_14 : decode cX7_wholeOf 14 = .ok (.iaload, 1) := by decide +kernel
theorem dX7_wholeOf_15 : decode cX7_wholeOf 15 = .ok (.istore 4, 2) := by decide +kernel
theorem dX7_wholeOf_17 : decode cX7_wholeOf 17 = .ok (.iconst 0, 1) := by decide +kernel
theorem dX7_wholeOf_18 : decode cX7_wholeOf 18 = .ok (.istore 5, 2) := by decide +kernel
theorem dX7_wholeOf_20 : decode cX7_wholeOf 20 = .ok (.iload 5, 2) := by decide +kernel
theorem dX7_wholeOf_22 : decode cX7_wholeOf 22 = .ok (.aload_n 1, 1) := by decide +kernel
theorem dX7_wholeOf_23 : decode cX7_wholeOf 23 = .ok (.getfield 25, 3) := by decide +kernel
theorem dX7_wholeOf_26 : decode cX7_wholeOf 26 = .ok (.if_icmp .ge 60, 3) := by decide +kernel
theorem dX7_wholeOf_29 : decode cX7_wholeOf 29 = .ok (.aload_n 1, 1) := by decide +kernel
theorem dX7_wholeOf_30 : decode cX7_wholeOf 30 = .ok (.getfield 31, 3) := by decide +kernel
theorem dX7_wholeOf_33 : decode cX7_wholeOf 33 = .ok (.iload 5, 2) := by decide +kernel
theorem dX7_wholeOf_35 : decode cX7_wholeOf 35 = .ok (.iaload, 1) := by decide +kernel
theorem dX7_wholeOf_36 : decode cX7_wholeOf 36 = .ok (.istore 6, 2) := by decide +kernel
theorem dX7_wholeOf_38 : decode cX7_wholeOf 38 = .ok (.iload 6, 2) := by decide +kernel
theorem dX7_wholeOf_40 : decode cX7_wholeOf 40 = .ok (.iload_n 3, 1) := by decide +kernel
theorem dX7_wholeOf_41 : decode cX7_wholeOf 41 = .ok (.iand, 1) := by decide +kernel
theorem dX7_wholeOf_42 : decode cX7_wholeOf 42 = .ok (.ifCond .eq 38, 3) := by decide +kernel
theorem dX7_wholeOf_45 : decode cX7_wholeOf 45 = .ok (.iload 6, 2) := by decide +kernel
theorem dX7_wholeOf_47 : decode cX7_wholeOf 47 = .ok (.iload_n 2, 1) := by decide +kernel
theorem dX7_wholeOf_48 : decode cX7_wholeOf 48 = .ok (.iand, 1) := by decide +kernel
theorem dX7_wholeOf_49 : decode cX7_wholeOf 49 = .ok (.iload 6, 2) := by decide +kernel
theorem dX7_wholeOf_51 : decode cX7_wholeOf 51 = .ok (.if_icmp .ne 29, 3) := by decide +kernel
theorem dX7_wholeOf_54 : decode cX7_wholeOf 54 = .ok (.iload 4, 2) := by decide +kernel
theorem dX7_wholeOf_56 : decode cX7_wholeOf 56 = .ok (.aload_n 1, 1) := by decide +kernel
theorem dX7_wholeOf_57 : decode cX7_wholeOf 57 = .ok (.getfield 34, 3) := by decide +kernel
theorem dX7_wholeOf_60 : decode cX7_wholeOf 60 = .ok (.iload 5, 2) := by decide +kernel
theorem dX7_wholeOf_62 : decode cX7_wholeOf 62 = .ok (.iaload, 1) := by decide +kernel
theorem dX7_wholeOf_63 : decode cX7_wholeOf 63 = .ok (.aload_n 0, 1) := by decide +kernel
theorem dX7_wholeOf_64 : decode cX7_wholeOf 64 = .ok (.getfield 9, 3) := by decide +kernel
theorem dX7_wholeOf_67 : decode cX7_wholeOf 67 = .ok (.iload_n 2, 1) := by decide +kernel
theorem dX7_wholeOf_68 : decode cX7_wholeOf 68 = .ok (.iload 6, 2) := by decide +kernel
theorem dX7_wholeOf_70 : decode cX7_wholeOf 70 = .ok (.iconst (-1), 1) := by decide +kernel
theorem dX7_wholeOf_71 : decode cX7_wholeOf 71 = .ok (.ixor, 1) := by decide +kernel
theorem dX7_wholeOf_72 : decode cX7_wholeOf 72 = .ok (.iand, 1) := by decide +kernel
theorem dX7_wholeOf_73 : decode cX7_wholeOf 73 = .ok (.iaload, 1) := by decide +kernel
theorem dX7_wholeOf_74 : decode cX7_wholeOf 74 = .ok (.iadd, 1) := by decide +kernel
theorem dX7_wholeOf_75 : decode cX7_wholeOf 75 = .ok (.invokestatic 37, 3) := by decide +kernel
theorem dX7_wholeOf_78 : decode cX7_wholeOf 78 = .ok (.istore 4, 2) := by decide +kernel
theorem dX7_wholeOf_80 : decode cX7_wholeOf 80 = .ok (.iinc 5 1, 3) := by decide +kernel
theorem dX7_wholeOf_83 : decode cX7_wholeOf 83 = .ok (.goto (-63), 3) := by decide +kernel
theorem dX7_wholeOf_86 : decode cX7_wholeOf 86 = .ok (.iload 4, 2) := by decide +kernel
theorem dX7_wholeOf_88 : decode cX7_wholeOf 88 = .ok (.ireturn, 1) := by decide +kernel
set_option maxRecDepth 20000 in
theorem ggX7_grownOverOrders_J6_bitCount_0f7a4 : GoodIn wsX7_grownOverOrders wsJ6_bitCount_0f7a4 := goodIn_r _ [5, 6, 7, 8] (by decide +kernel) (by decide +kernel)
set_option maxRecDepth 20000 in
theorem gX7_grownOverOrders_J6_bitCount_0f7a4 : GoodIn wsX7_grownOverOrders (va_wsS RX7 43 yJ6_bitCount_0f7a4 wsJ6_bitCount_0f7a4) := goodIn_app (goodIn_of _ (by decide +kernel)) ggX7_grownOverOrders_J6_bitCount_0f7a4
theorem dX7_grownOverOrders_0 : decode cX7_grownOverOrders 0 = .ok (.iconst 0, 1) := by decide +kernel
theorem dX7_grownOverOrders_1 : decode cX7_grownOverOrders 1 = .ok (.istore_n 3, 1) := by decide +kernel
theorem dX7_grownOverOrders_2 : decode cX7_grownOverOrders 2 = .ok (.iconst 1, 1) := by decide +kernel
theorem dX7_grownOverOrders_3 : decode cX7_grownOverOrders 3 = .ok (.iload_n 1, 1) := by decide +kernel
theorem dX7_grownOverOrders_4 : decode cX7_grownOverOrders 4 = .ok (.ishl, 1) := by decide +kernel
theorem dX7_grownOverOrders_5 : decode cX7_grownOverOrders 5 = .ok (.istore 4, 2) := by decide +kernel
theorem dX7_grownOverOrders_7 : decode cX7_grownOverOrders 7 = .ok (.iconst 0, 1) := by decide +kernel
theorem dX7_grownOverOrders_8 : decode cX7_grownOverOrders 8 = .ok (.istore 5, 2) := by decide +kernel
theorem dX7_grownOverOrders_10 : decode cX7_grownOverOrders 10 = .ok (.iload 5, 2) := by decide +kernel
theorem dX7_grownOverOrders_12 : decode cX7_grownOverOrders 12 = .ok (.iconst 1, 1) := by decide +kernel
theorem dX7_grownOverOrders_13 : decode cX7_grownOverOrders 13 = .ok (.iload_n 2, 1) := by decide +kernel
theorem dX7_grownOverOrders_14 : decode cX7_grownOverOrders 14 = .ok (.ishl, 1) := by decide +kernel
theorem dX7_grownOverOrders_15 : decode cX7_grownOverOrders 15 = .ok (.if_icmp .ge 67, 3) := by decide +kernel
theorem dX7_grownOverOrders_18 : decode cX7_grownOverOrders 18 = .ok (.iload 5, 2) := by decide +kernel
theorem dX7_grownOverOrders_20 : decode cX7_grownOverOrders 20 = .ok (.iload 4, 2) := by decide +kernel
theorem dX7_grownOverOrders_22 : decode cX7_grownOverOrders 22 = .ok (.iand, 1) := by decide +kernel
theorem dX7_grownOverOrders_23 : decode cX7_grownOverOrders 23 = .ok (.ifCond .ne 53, 3) := by decide +kernel
theorem dX7_grownOverOrders_26 : decode cX7_grownOverOrders 26 = .ok (.iload 5, 2) := by decide +kernel
theorem dX7_grownOverOrders_28 : decode cX7_grownOverOrders 28 = .ok (.invokestatic 43, 3) := by decide +kernel
theorem dX7_grownOverOrders_31 : decode cX7_grownOverOrders 31 = .ok (.istore 6, 2) := by decide +kernel
theorem dX7_grownOverOrders_33 : decode cX7_grownOverOrders 33 = .ok (.getstatic 49, 3) := by decide +kernel
theorem dX7_grownOverOrders_36 : decode cX7_grownOverOrders 36 = .ok (.iload 6, 2) := by decide +kernel
theorem dX7_grownOverOrders_38 : decode cX7_grownOverOrders 38 = .ok (.iaload, 1) := by decide +kernel
theorem dX7_grownOverOrders_39 : decode cX7_grownOverOrders 39 = .ok (.getstatic 49, 3) := by decide +kernel
theorem dX7_grownOverOrders_42 : decode cX7_grownOverOrders 42 = .ok (.iload_n 2, 1) := by decide +kernel
theorem dX7_grownOverOrders_43 : decode cX7_grownOverOrders 43 = .ok (.iconst 1, 1) := by decide +kernel
theorem dX7_grownOverOrders_44 : decode cX7_grownOverOrders 44 = .ok (.isub, 1) := by decide +kernel
theorem dX7_grownOverOrders_45 : decode cX7_grownOverOrders 45 = .ok (.iload 6, 2) := by decide +kernel
theorem dX7_grownOverOrders_47 : decode cX7_grownOverOrders 47 = .ok (.isub, 1) := by decide +kernel
theorem dX7_grownOverOrders_48 : decode cX7_grownOverOrders 48 = .ok (.iaload, 1) := by decide +kernel
theorem dX7_grownOverOrders_49 : decode cX7_grownOverOrders 49 = .ok (.imul, 1) := by decide +kernel
theorem dX7_grownOverOrders_50 : decode cX7_grownOverOrders 50 = .ok (.istore 7, 2) := by decide +kernel
theorem dX7_grownOverOrders_52 : decode cX7_grownOverOrders 52 = .ok (.iload_n 3, 1) := by decide +kernel
theorem dX7_grownOverOrders_53 : decode cX7_grownOverOrders 53 = .ok (.iload 7, 2) := by decide +kernel
theorem dX7_grownOverOrders_55 : decode cX7_grownOverOrders 55 = .ok (.aload_n 0, 1) := by decide +kernel
theorem dX7_grownOverOrders_56 : decode cX7_grownOverOrders 56 = .ok (.getfield 9, 3) := by decide +kernel
theorem dX7_grownOverOrders_59 : decode cX7_grownOverOrders 59 = .ok (.iload 5, 2) := by decide +kernel
theorem dX7_grownOverOrders_61 : decode cX7_grownOverOrders 61 = .ok (.iload 4, 2) := by decide +kernel
theorem dX7_grownOverOrders_63 : decode cX7_grownOverOrders 63 = .ok (.ior, 1) := by decide +kernel
theorem dX7_grownOverOrders_64 : decode cX7_grownOverOrders 64 = .ok (.iaload, 1) := by decide +kernel
theorem dX7_grownOverOrders_65 : decode cX7_grownOverOrders 65 = .ok (.aload_n 0, 1) := by decide +kernel
theorem dX7_grownOverOrders_66 : decode cX7_grownOverOrders 66 = .ok (.getfield 9, 3) := by decide +kernel
theorem dX7_grownOverOrders_69 : decode cX7_grownOverOrders 69 = .ok (.iload 5, 2) := by decide +kernel
theorem dX7_grownOverOrders_71 : decode cX7_grownOverOrders 71 = .ok (.iaload, 1) := by decide +kernel
theorem dX7_grownOverOrders_72 : decode cX7_grownOverOrders 72 = .ok (.isub, 1) := by decide +kernel
theorem dX7_grownOverOrders_73 : decode cX7_grownOverOrders 73 = .ok (.imul, 1) := by decide +kernel
theorem dX7_grownOverOrders_74 : decode cX7_grownOverOrders 74 = .ok (.iadd, 1) := by decide +kernel
theorem dX7_grownOverOrders_75 : decode cX7_grownOverOrders 75 = .ok (.istore_n 3, 1) := by decide +kernel
theorem dX7_grownOverOrders_76 : decode cX7_grownOverOrders 76 = .ok (.iinc 5 1, 3) := by decide +kernel
theorem dX7_grownOverOrders_79 : decode cX7_grownOverOrders 79 = .ok (.goto (-69), 3) := by decide +kernel
theorem dX7_grownOverOrders_82 : decode cX7_grownOverOrders 82 = .ok (.iload_n 3, 1) := by decide +kernel
theorem dX7_grownOverOrders_83 : decode cX7_grownOverOrders 83 = .ok (.ireturn, 1) := by decide +kernel
theorem dX8_init_0 : decode cX8_init 0 = .ok (.aload_n 0, 1) := by decide +kernel
theorem dX8_init_1 : decode cX8_init 1 = .ok (.invokespecial 3, 3) := by decide +kernel
theorem dX8_init_4 : decode cX8_init 4 = .ok (.aload_n 0, 1) := by decide +kernel
theorem dX8_init_5 : decode cX8_init 5 = .ok (.sipush 300, 3) := by decide +kernel
theorem dX8_init_8 : decode cX8_init 8 = .ok (.newarray .byte, 2) := by decide +kernel
theorem dX8_init_10 : decode cX8_init 10 = .ok (.putfield 9, 3) := by decide +kernel
theorem dX8_init_13 : decode cX8_init 13 = .ok (.aload_n 0, 1) := by decide +kernel
theorem dX8_init_14 : decode cX8_init 14 = .ok (.iconst 0, 1) := by decide +kernel
theorem dX8_init_15 : decode cX8_init 15 = .ok (.putfield 15, 3) := by decide +kernel
theorem dX8_init_18 : decode cX8_init 18 = .ok (.aload_n 0, 1) := by decide +kernel
theorem dX8_init_19 : decode cX8_init 19 = .ok (.sipush 301, 3) := by decide +kernel
theorem dX8_init_22 : decode cX8_init 22 = .ok (.newarray .int, 2) := by decide +kernel
theorem dX8_init_24 : decode cX8_init 24 = .ok (.putfield 19, 3) := by decide +kernel
theorem dX8_init_27 : decode cX8_init 27 = .ok (.aload_n 0, 1) := by decide +kernel
theorem dX8_init_28 : decode cX8_init 28 = .ok (.sipush 301, 3) := by decide +kernel
theorem dX8_init_31 : decode cX8_init 31 = .ok (.newarray .int, 2) := by decide +kernel
theorem dX8_init_33 : decode cX8_init 33 = .ok (.putfield 23, 3) := by decide +kernel
theorem dX8_init_36 : decode cX8_init 36 = .ok (.aload_n 0, 1) := by decide +kernel
theorem dX8_init_37 : decode cX8_init 37 = .ok (.sipush 301, 3) := by decide +kernel
theorem dX8_init_40 : decode cX8_init 40 = .ok (.newarray .int, 2) := by decide +kernel
theorem dX8_init_42 : decode cX8_init 42 = .ok (.putfield 26, 3) := by decide +kernel
theorem dX8_init_45 : decode cX8_init 45 = .ok (.return_, 1) := by decide +kernel
theorem dX8_room_0 : decode cX8_room 0 = .ok (.sipush 300, 3) := by decide +kernel
theorem dX8_room_3 : decode cX8_room 3 = .ok (.aload_n 0, 1) := by decide +kernel
theorem dX8_room_4 : decode cX8_room 4 = .ok (.getfield 15, 3) := by decide +kernel
theorem dX8_room_7 : decode cX8_room 7 = .ok (.isub, 1) := by decide +kernel
theorem dX8_room_8 : decode cX8_room 8 = .ok (.ireturn, 1) := by decide +kernel
theorem dX8_add_0 : decode cX8_add 0 = .ok (.aload_n 0, 1) := by decide +kernel
theorem dX8_add_1 : decode cX8_add 1 = .ok (.getfield 15, 3) := by decide +kernel
theorem dX8_add_4 : decode cX8_add 4 = .ok (.sipush 300, 3) := by decide +kernel
theorem dX8_add_7 : decode cX8_add 7 = .ok (.if_icmp .ge 23, 3) := by decide +kernel
theorem dX8_add_10 : decode cX8_add 10 = .ok (.aload_n 0, 1) := by decide +kernel
theorem dX8_add_11 : decode cX8_add 11 = .ok (.getfield 9, 3) := by decide +kernel
theorem dX8_add_14 : decode cX8_add 14 = .ok (.aload_n 0, 1) := by decide +kernel
theorem dX8_add_15 : decode cX8_add 15 = .ok (.getfield 15, 3) := by decide +kernel
theorem dX8_add_18 : decode cX8_add 18 = .ok (.iload_n 1, 1) := by decide +kernel
theorem dX8_add_19 : decode cX8_add 19 = .ok (.bastore, 1) := by decide +kernel
theorem dX8_add_20 : decode cX8_add 20 = .ok (.aload_n 0, 1) := by decide +kernel
theorem dX8_add_21 : decode cX8_add 21 = .ok (.dup, 1) := by decide +kernel
theorem dX8_add_22 : decode cX8_add 22 = .ok (.getfield 15, 3) := by decide +kernel
theorem dX8_add_25 : decode cX8_add 25 = .ok (.iconst 1, 1) := by decide +kernel
theorem dX8_add_26 : decode cX8_add 26 = .ok (.iadd, 1) := by decide +kernel
theorem dX8_add_27 : decode cX8_add 27 = .ok (.putfield 15, 3) := by decide +kernel
theorem dX8_add_30 : decode cX8_add 30 = .ok (.return_, 1) := by decide +kernel
theorem dX8_at_0 : decode cX8_at 0 = .ok (.iload_n 1, 1) := by decide +kernel
theorem dX8_at_1 : decode cX8_at 1 = .ok (.ifCond .lt 24, 3) := by decide +kernel
theorem dX8_at_4 : decode cX8_at 4 = .ok (.iload_n 1, 1) := by decide +kernel
theorem dX8_at_5 : decode cX8_at 5 = .ok (.aload_n 0, 1) := by decide +kernel
theorem dX8_at_6 : decode cX8_at 6 = .ok (.getfield 15, 3) := by decide +kernel
theorem dX8_at_9 : decode cX8_at 9 = .ok (.if_icmp .ge 16, 3) := by decide +kernel
theorem dX8_at_12 : decode cX8_at 12 = .ok (.aload_n 0, 1) := by decide +kernel
theorem dX8_at_13 : decode cX8_at 13 = .ok (.getfield 9, 3) := by decide +kernel
theorem dX8_at_16 : decode cX8_at 16 = .ok (.iload_n 1, 1) := by decide +kernel
theorem dX8_at_17 : decode cX8_at 17 = .ok (.baload, 1) := by decide +kernel
theorem dX8_at_18 : decode cX8_at 18 = .ok (.sipush 255, 3) := by decide +kernel
theorem dX8_at_21 : decode cX8_at 21 = .ok (.iand, 1) := by decide +kernel
theorem dX8_at_22 : decode cX8_at 22 = .ok (.goto 4, 3) := by decide +kernel
theorem dX8_at_25 : decode cX8_at 25 = .ok (.iconst (-1), 1) := by decide +kernel
theorem dX8_at_26 : decode cX8_at 26 = .ok (.ireturn, 1) := by decide +kernel
set_option maxRecDepth 20000 in
theorem ggX8_cutIntoTokens_X8_at : GoodIn wsX8_cutIntoTokens wsX8_at := goodIn_r _ [13, 1, 14, 86, 87, 88, 89, 90] (by decide +kernel) (by decide +kernel)
set_option maxRecDepth 20000 in
theorem gX8_cutIntoTokens_X8_at : GoodIn wsX8_cutIntoTokens (wsV RX8 29 RX8 yX8_at wsX8_at) := goodIn_app (goodIn_of _ (by decide +kernel)) ggX8_cutIntoTokens_X8_at
set_option maxRecDepth 20000 in
theorem ggX8_cutIntoTokens_X8_endOfToken : GoodIn wsX8_cutIntoTokens wsX8_endOfToken := goodIn_r _ [18, 1, 9, 10, 11, 12, 13, 14, 19, 20, 21, 22, 23, 24, 86, 87, 88, 89, 90] (by decide +kernel) (by decide +kernel)
set_option maxRecDepth 20000 in
theorem gX8_cutIntoTokens_X8_endOfToken : GoodIn wsX8_cutIntoTokens (wsV RX8 33 RX8 yX8_endOfToken wsX8_endOfToken) := goodIn_app (goodIn_of _ (by decide +kernel)) ggX8_cutIntoTokens_X8_endOfToken
set_option maxRecDepth 20000 in
theorem ggX8_cutIntoTokens_X8_tokenOf : GoodIn wsX8_cutIntoTokens wsX8_tokenOf := goodIn_r _ [28, 9, 10, 11, 12, 13, 1, 14, 22, 23, 24, 29, 30, 31, 32, 33, 34, 35, 36, 37, 38, 39, 40, 41, 42, 43, 44, 45, 46, 47, 48, 49, 50, 51, 52, 53, 54, 55, 56, 57, 58, 59, 60, 61, 62, 63, 64, 65, 66, 67, 68, 69, 70, 71, 72, 73, 74, 75, 76, 77, 78, 79, 80, 81, 86, 87, 88, 89, 90] (by decide +kernel) (by decide +kernel)
set_option maxRecDepth 20000 in
theorem gX8_cutIntoTokens_X8_tokenOf : GoodIn wsX8_cutIntoTokens (wsV RX8 36 RX8 yX8_tokenOf wsX8_tokenOf) := goodIn_app (goodIn_of _ (by decide +kernel)) ggX8_cutIntoTokens_X8_tokenOf
set_option maxRecDepth 20000 in
theorem ggX8_cutIntoTokens_X8_numberAt : GoodIn wsX8_cutIntoTokens wsX8_numberAt := goodIn_r _ [85, 9, 10, 11, 12, 13, 1, 14, 86, 87, 88, 89, 90] (by decide +kernel) (by decide +kernel)
set_option maxRecDepth 20000 in
theorem gX8_cutIntoTokens_X8_numberAt : GoodIn wsX8_cutIntoTokens (wsV RX8 40 RX8 yX8_numberAt wsX8_numberAt) := goodIn_app (goodIn_of _ (by decide +kernel)) ggX8_cutIntoTokens_X8_numberAt
theorem dX8_cutIntoTokens_0 : decode cX8_cutIntoTokens 0 = .ok (.iconst 0, 1) := by decide +kernel
theorem dX8_cutIntoTokens_1 : decode cX8_cutIntoTokens 1 = .ok (.istore_n 1, 1) := by decide +kernel
theorem dX8_cutIntoTokens_2 : decode cX8_cutIntoTokens 2 = .ok (.iconst 0, 1) := by decide +kernel
theorem dX8_cutIntoTokens_3 : decode cX8_cutIntoTokens 3 = .ok (.istore_n 2, 1) := by decide +kernel
theorem dX8_cutIntoTokens_4 : decode cX8_cutIntoTokens 4 = .ok (.iload_n 2, 1) := by decide +kernel
theorem dX8_cutIntoTokens_5 : decode cX8_cutIntoTokens 5 = .ok (.aload_n 0, 1) := by decide +kernel
theorem dX8_cutIntoTokens_6 : decode cX8_cutIntoTokens 6 = .ok (.getfield 15, 3) := by decide +kernel
theorem dX8_cutIntoTokens_9 : decode cX8_cutIntoTokens 9 = .ok (.if_icmp .ge 84, 3) := by decide +kernel
theorem dX8_cutIntoTokens_12 : decode cX8_cutIntoTokens 12 = .ok (.aload_n 0, 1) := by decide +kernel
theorem dX8_cutIntoTokens_13 : decode cX8_cutIntoTokens 13 = .ok (.iload_n 2, 1) := by decide +kernel
theorem dX8_cutIntoTokens_14 : decode cX8_cutIntoTokens 14 = .ok (.invokevirtual 29, 3) := by decide +kernel
theorem dX8_cutIntoTokens_17 : decode cX8_cutIntoTokens 17 = .ok (.bipush 32, 2) := by decide +kernel
theorem dX8_cutIntoTokens_19 : decode cX8_cutIntoTokens 19 = .ok (.if_icmp .ne 9, 3) := by decide +kernel
theorem dX8_cutIntoTokens_22 : decode cX8_cutIntoTokens 22 = .ok (.iinc 2 1, 3) := by decide +kernel
theorem dX8_cutIntoTokens_25 : decode cX8_cutIntoTokens 25 = .ok (.goto (-21), 3) := by decide +kernel
theorem dX8_cutIntoTokens_28 : decode cX8_cutIntoTokens 28 = .ok (.aload_n 0, 1) := by decide +kernel
theorem dX8_cutIntoTokens_29 : decode cX8_cutIntoTokens 29 = .ok (.iload_n 2, 1) := by decide +kernel
theorem dX8_cutIntoTokens_30 : decode cX8_cutIntoTokens 30 = .ok (.invokevirtual 33, 3) := by decide +kernel
theorem dX8_cutIntoTokens_33 : decode cX8_cutIntoTokens 33 = .ok (.istore_n 3, 1) := by decide +kernel
theorem dX8_cutIntoTokens_34 : decode cX8_cutIntoTokens 34 = .ok (.aload_n 0, 1) := by decide +kernel
theorem dX8_cutIntoTokens_35 : decode cX8_cutIntoTokens 35 = .ok (.getfield 23, 3) := by decide +kernel
theorem dX8_cutIntoTokens_38 : decode cX8_cutIntoTokens 38 = .ok (.iload_n 1, 1) := by decide +kernel
theorem dX8_cutIntoTokens_39 : decode cX8_cutIntoTokens 39 = .ok (.iload_n 2, 1) := by decide +kernel
theorem dX8_cutIntoTokens_40 : decode cX8_cutIntoTokens 40 = .ok (.iastore, 1) := by decide +kernel
theorem dX8_cutIntoTokens_41 : decode cX8_cutIntoTokens 41 = .ok (.aload_n 0, 1) := by decide +kernel
theorem dX8_cutIntoTokens_42 : decode cX8_cutIntoTokens 42 = .ok (.getfield 19, 3) := by decide +kernel
theorem dX8_cutIntoTokens_45 : decode cX8_cutIntoTokens 45 = .ok (.iload_n 1, 1) := by decide +kernel
theorem dX8_cutIntoTokens_46 : decode cX8_cutIntoTokens 46 = .ok (.aload_n 0, 1) := by decide +kernel
theorem dX8_cutIntoTokens_47 : decode cX8_cutIntoTokens 47 = .ok (.iload_n 2, 1) := by decide +kernel
theorem dX8_cutIntoTokens_48 : decode cX8_cutIntoTokens 48 = .ok (.iload_n 3, 1) := by decide +kernel
theorem dX8_cutIntoTokens_49 : decode cX8_cutIntoTokens 49 = .ok (.invokevirtual 36, 3) := by decide +kernel
theorem dX8_cutIntoTokens_52 : decode cX8_cutIntoTokens 52 = .ok (.iastore, 1) := by decide +kernel
theorem dX8_cutIntoTokens_53 : decode cX8_cutIntoTokens 53 = .ok (.aload_n 0, 1) := by decide +kernel
theorem dX8_cutIntoTokens_54 : decode cX8_cutIntoTokens 54 = .ok (.getfield 26, 3) := by decide +kernel
theorem dX8_cutIntoTokens_57 : decode cX8_cutIntoTokens 57 = .ok (.iload_n 1, 1) := by decide +kernel
theorem dX8_cutIntoTokens_58 : decode cX8_cutIntoTokens 58 = .ok (.aload_n 0, 1) := by decide +kernel
theorem dX8_cutIntoTokens_59 : decode cX8_cutIntoTokens 59 = .ok (.getfield 19, 3) := by decide +kernel
theorem dX8_cutIntoTokens_62 : decode cX8_cutIntoTokens 62 = .ok (.iload_n 1, 1) := by decide +kernel
theorem dX8_cutIntoTokens_63 : decode cX8_cutIntoTokens 63 = .ok (.iaload, 1) := by decide +kernel
theorem dX8_cutIntoTokens_64 : decode cX8_cutIntoTokens 64 = .ok (.iconst 4, 1) := by decide +kernel
theorem dX8_cutIntoTokens_65 : decode cX8_cutIntoTokens 65 = .ok (.if_icmp .ne 12, 3) := by decide +kernel
theorem dX8_cutIntoTokens_68 : decode cX8_cutIntoTokens 68 = .ok (.aload_n 0, 1) := by decide +kernel
theorem dX8_cutIntoTokens_69 : decode cX8_cutIntoTokens 69 = .ok (.iload_n 2, 1) := by decide +kernel
theorem dX8_cutIntoTokens_70 : decode cX8_cutIntoTokens 70 = .ok (.iload_n 3, 1) := by decide +kernel
theorem dX8_cutIntoTokens_71 : decode cX8_cutIntoTokens 71 = .ok (.invokevirtual 40, 3) := by decide +kernel
theorem dX8_cutIntoTokens_74 : decode cX8_cutIntoTokens 74 = .ok (.goto 4, 3) := by decide +kernel
theorem dX8_cutIntoTokens_77 : decode cX8_cutIntoTokens 77 = .ok (.iconst 0, 1) := by decide +kernel
theorem dX8_cutIntoTokens_78 : decode cX8_cutIntoTokens 78 = .ok (.iastore, 1) := by decide +kernel
theorem dX8_cutIntoTokens_79 : decode cX8_cutIntoTokens 79 = .ok (.iinc 1 1, 3) := by decide +kernel
theorem dX8_cutIntoTokens_82 : decode cX8_cutIntoTokens 82 = .ok (.iload_n 3, 1) := by decide +kernel
theorem dX8_cutIntoTokens_83 : decode cX8_cutIntoTokens 83 = .ok (.iload_n 2, 1) := by decide +kernel
theorem dX8_cutIntoTokens_84 : decode cX8_cutIntoTokens 84 = .ok (.iconst 1, 1) := by decide +kernel
theorem dX8_cutIntoTokens_85 : decode cX8_cutIntoTokens 85 = .ok (.iadd, 1) := by decide +kernel
theorem dX8_cutIntoTokens_86 : decode cX8_cutIntoTokens 86 = .ok (.invokestatic 43, 3) := by decide +kernel
theorem dX8_cutIntoTokens_89 : decode cX8_cutIntoTokens 89 = .ok (.istore_n 2, 1) := by decide +kernel
theorem dX8_cutIntoTokens_90 : decode cX8_cutIntoTokens 90 = .ok (.goto (-86), 3) := by decide +kernel
theorem dX8_cutIntoTokens_93 : decode cX8_cutIntoTokens 93 = .ok (.aload_n 0, 1) := by decide +kernel
theorem dX8_cutIntoTokens_94 : decode cX8_cutIntoTokens 94 = .ok (.getfield 19, 3) := by decide +kernel
theorem dX8_cutIntoTokens_97 : decode cX8_cutIntoTokens 97 = .ok (.iload_n 1, 1) := by decide +kernel
theorem dX8_cutIntoTokens_98 : decode cX8_cutIntoTokens 98 = .ok (.bipush 6, 2) := by decide +kernel
theorem dX8_cutIntoTokens_100 : decode cX8_cutIntoTokens 100 = .ok (.iastore, 1) := by decide +kernel
theorem dX8_cutIntoTokens_101 : decode cX8_cutIntoTokens 101 = .ok (.aload_n 0, 1) := by decide +kernel
theorem dX8_cutIntoTokens_102 : decode cX8_cutIntoTokens 102 = .ok (.getfield 23, 3) := by decide +kernel
theorem dX8_cutIntoTokens_105 : decode cX8_cutIntoTokens 105 = .ok (.iload_n 1, 1) := by decide +kernel
theorem dX8_cutIntoTokens_106 : decode cX8_cutIntoTokens 106 = .ok (.aload_n 0, 1) := by decide +kernel
theorem dX8_cutIntoTokens_107 : decode cX8_cutIntoTokens 107 = .ok (.getfield 15, 3) := by decide +kernel
theorem dX8_cutIntoTokens_110 : decode cX8_cutIntoTokens 110 = .ok (.iastore, 1) := by decide +kernel
theorem dX8_cutIntoTokens_111 : decode cX8_cutIntoTokens 111 = .ok (.return_, 1) := by decide +kernel
set_option maxRecDepth 20000 in
theorem ggX8_endOfToken_X8_at : GoodIn wsX8_endOfToken wsX8_at := goodIn_r _ [6, 1, 7, 14, 15, 16, 17, 18] (by decide +kernel) (by decide +kernel)
set_option maxRecDepth 20000 in
theorem gX8_endOfToken_X8_at : GoodIn wsX8_endOfToken (wsV RX8 29 RX8 yX8_at wsX8_at) := goodIn_app (goodIn_of _ (by decide +kernel)) ggX8_endOfToken_X8_at
set_option maxRecDepth 20000 in
theorem ggX8_endOfToken_X8_isLetter : GoodIn wsX8_endOfToken wsX8_isLetter := goodIn_r _ [10] (by decide +kernel) (by decide +kernel)
set_option maxRecDepth 20000 in
theorem gX8_endOfToken_X8_isLetter : GoodIn wsX8_endOfToken (va_wsS RX8 48 yX8_isLetter wsX8_isLetter) := goodIn_app (goodIn_of _ (by decide +kernel)) ggX8_endOfToken_X8_isLetter
set_option maxRecDepth 20000 in
theorem ggX8_endOfToken_X8_isDigit : GoodIn wsX8_endOfToken wsX8_isDigit := goodIn_r _ [13] (by decide +kernel) (by decide +kernel)
set_option maxRecDepth 20000 in
theorem gX8_endOfToken_X8_isDigit : GoodIn wsX8_endOfToken (va_wsS RX8 52 yX8_isDigit wsX8_isDigit) := goodIn_app (goodIn_of _ (by decide +kernel)) ggX8_endOfToken_X8_isDigit
theorem dX8_endOfToken_0 : decode cX8_endOfToken 0 = .ok (.iload_n 1, 1) := by decide +kernel
theorem dX8_endOfToken_1 : decode cX8_endOfToken 1 = .ok (.iconst 1, 1) := by decide +kernel
theorem dX8_endOfToken_2 : decode cX8_endOfToken 2 = .ok (.iadd, 1) := by decide +kernel
theorem dX8_endOfToken_3 : decode cX8_endOfToken 3 = .ok (.istore_n 2, 1) := by decide +kernel
theorem dX8_endOfToken_4 : decode cX8_endOfToken 4 = .ok (.aload_n 0, 1) := by decide +kernel
theorem dX8_endOfToken_5 : decode cX8_endOfToken 5 = .ok (.iload_n 1, 1) := by decide +kernel
theorem dX8_endOfToken_6 : decode cX8_endOfToken 6 = .ok (.invokevirtual 29, 3) := by decide +kernel
theorem dX8_endOfToken_9 : decode cX8_endOfToken 9 = .ok (.invokestatic 48, 3) := by decide +kernel
theorem dX8_endOfToken_12 : decode cX8_endOfToken 12 = .ok (.ifCond .eq 28, 3) := by decide +kernel
theorem dX8_endOfToken_15 : decode cX8_endOfToken 15 = .ok (.iload_n 2, 1) := by decide +kernel
theorem dX8_endOfToken_16 : decode cX8_endOfToken 16 = .ok (.aload_n 0, 1) := by decide +kernel
theorem dX8_endOfToken_17 : decode cX8_endOfToken 17 = .ok (.getfield 15, 3) := by decide +kernel
theorem dX8_endOfToken_20 : decode cX8_endOfToken 20 = .ok (.if_icmp .ge 56, 3) := by decide +kernel
theorem dX8_endOfToken_23 : decode cX8_endOfToken 23 = .ok (.aload_n 0, 1) := by decide +kernel
theorem dX8_endOfToken_24 : decode cX8_endOfToken 24 = .ok (.iload_n 2, 1) := by decide +kernel
theorem dX8_endOfToken_25 : decode cX8_endOfToken 25 = .ok (.invokevirtual 29, 3) := by decide +kernel
theorem dX8_endOfToken_28 : decode cX8_endOfToken 28 = .ok (.invokestatic 48, 3) := by decide +kernel
theorem dX8_endOfToken_31 : decode cX8_endOfToken 31 = .ok (.ifCond .eq 45, 3) := by decide +kernel
theorem dX8_endOfToken_34 : decode cX8_endOfToken 34 = .ok (.iinc 2 1, 3) := by decide +kernel
theorem dX8_endOfToken_37 : decode cX8_endOfToken 37 = .ok (.goto (-22), 3) := by decide +kernel
theorem dX8_endOfToken_40 : decode cX8_endOfToken 40 = .ok (.aload_n 0, 1) := by decide +kernel
theorem dX8_endOfToken_41 : decode cX8_endOfToken 41 = .ok (.iload_n 1, 1) := by decide +kernel
theorem dX8_endOfToken_42 : decode cX8_endOfToken 42 = .ok (.invokevirtual 29, 3) := by decide +kernel
theorem dX8_endOfToken_45 : decode cX8_endOfToken 45 = .ok (.invokestatic 52, 3) := by decide +kernel
theorem dX8_endOfToken_48 : decode cX8_endOfToken 48 = .ok (.ifCond .eq 28, 3) := by decide +kernel
theorem dX8_endOfToken_51 : decode cX8_endOfToken 51 = .ok (.iload_n 2, 1) := by decide +kernel
theorem dX8_endOfToken_52 : decode cX8_endOfToken 52 = .ok (.aload_n 0, 1) := by decide +kernel
theorem dX8_endOfToken_53 : decode cX8_endOfToken 53 = .ok (.getfield 15, 3) := by decide +kernel
theorem dX8_endOfToken_56 : decode cX8_endOfToken 56 = .ok (.if_icmp .ge 20, 3) := by decide +kernel
theorem dX8_endOfToken_59 : decode cX8_endOfToken 59 = .ok (.aload_n 0, 1) := by decide +kernel
theorem dX8_endOfToken_60 : decode cX8_endOfToken 60 = .ok (.iload_n 2, 1) := by decide +kernel
theorem dX8_endOfToken_61 : decode cX8_endOfToken 61 = .ok (.invokevirtual 29, 3) := by decide +kernel
theorem dX8_endOfToken_64 : decode cX8_endOfToken 64 = .ok (.invokestatic 52, 3) := by decide +kernel
theorem dX8_endOfToken_67 : decode cX8_endOfToken 67 = .ok (.ifCond .eq 9, 3) := by decide +kernel
theorem dX8_endOfToken_70 : decode cX8_endOfToken 70 = .ok (.iinc 2 1, 3) := by decide +kernel
theorem dX8_endOfToken_73 : decode cX8_endOfToken 73 = .ok (.goto (-22), 3) := by decide +kernel
theorem dX8_endOfToken_76 : decode cX8_endOfToken 76 = .ok (.iload_n 2, 1) := by decide +kernel
theorem dX8_endOfToken_77 : decode cX8_endOfToken 77 = .ok (.ireturn, 1) := by decide +kernel
set_option maxRecDepth 20000 in
theorem ggX8_tokenOf_X8_at : GoodIn wsX8_tokenOf wsX8_at := goodIn_r _ [5, 6, 7, 64, 65, 66, 67, 68] (by decide +kernel) (by decide +kernel)
set_option maxRecDepth 20000 in
theorem gX8_tokenOf_X8_at : GoodIn wsX8_tokenOf (wsV RX8 29 RX8 yX8_at wsX8_at) := goodIn_app (goodIn_of _ (by decide +kernel)) ggX8_tokenOf_X8_at
set_option maxRecDepth 20000 in
theorem ggX8_tokenOf_X8_isDigit : GoodIn wsX8_tokenOf wsX8_isDigit := goodIn_r _ [10] (by decide +kernel) (by decide +kernel)
set_option maxRecDepth 20000 in
theorem gX8_tokenOf_X8_isDigit : GoodIn wsX8_tokenOf (va_wsS RX8 52 yX8_isDigit wsX8_isDigit) := goodIn_app (goodIn_of _ (by decide +kernel)) ggX8_tokenOf_X8_isDigit
set_option maxRecDepth 20000 in
theorem ggX8_tokenOf_X8_spells : GoodIn wsX8_tokenOf wsX8_spells := goodIn_r _ [14, 15, 16, 17, 18, 19, 20, 21, 22, 23, 24, 25, 26, 1, 2, 3, 4, 5, 6, 7, 27, 28, 29, 30, 31, 32, 33, 34, 35, 36, 37, 38, 39, 40, 41, 42, 43, 44, 45, 46, 47, 48, 49, 50, 51, 52, 53, 54, 55, 56, 57, 58, 59, 60, 61, 62, 63, 64, 65, 66, 67, 68] (by decide +kernel) (by decide +kernel)
set_option maxRecDepth 20000 in
theorem gX8_tokenOf_X8_spells : GoodIn wsX8_tokenOf (wsV RX8 57 RX8 yX8_spells wsX8_spells) := goodIn_app (goodIn_of _ (by decide +kernel)) ggX8_tokenOf_X8_spells
theorem dX8_tokenOf_0 : decode cX8_tokenOf 0 = .ok (.aload_n 0, 1) := by decide +kernel
theorem dX8_tokenOf_1 : decode cX8_tokenOf 1 = .ok (.iload_n 1, 1) := by decide +kernel
theorem dX8_tokenOf_2 : decode cX8_tokenOf 2 = .ok (.invokevirtual 29, 3) := by decide +kernel
theorem dX8_tokenOf_5 : decode cX8_tokenOf 5 = .ok (.istore_n 3, 1) := by decide +kernel
theorem dX8_tokenOf_6 : decode cX8_tokenOf 6 = .ok (.iload_n 3, 1) := by decide +kernel
theorem dX8_tokenOf_7 : decode cX8_tokenOf 7 = .ok (.invokestatic 52, 3) := by decide +kernel
theorem dX8_tokenOf_10 : decode cX8_tokenOf 10 = .ok (.ifCond .eq 42, 3) := by decide +kernel
theorem dX8_tokenOf_13 : decode cX8_tokenOf 13 = .ok (.iload_n 2, 1) := by decide +kernel
theorem dX8_tokenOf_14 : decode cX8_tokenOf 14 = .ok (.iload_n 1, 1) := by decide +kernel
theorem dX8_tokenOf_15 : decode cX8_tokenOf 15 = .ok (.isub, 1) := by decide +kernel
theorem dX8_tokenOf_16 : decode cX8_tokenOf 16 = .ok (.iconst 1, 1) := by decide +kernel
theorem dX8_tokenOf_17 : decode cX8_tokenOf 17 = .ok (.if_icmp .eq 16, 3) := by decide +kernel
theorem dX8_tokenOf_20 : decode cX8_tokenOf 20 = .ok (.iload_n 2, 1) := by decide +kernel
theorem dX8_tokenOf_21 : decode cX8_tokenOf 21 = .ok (.iload_n 1, 1) := by decide +kernel
theorem dX8_tokenOf_22 : decode cX8_tokenOf 22 = .ok (.isub, 1) := by decide +kernel
theorem dX8_tokenOf_23 : decode cX8_tokenOf 23 = .ok (.iconst 2, 1) := by decide +kernel
theorem dX8_tokenOf_24 : decode cX8_tokenOf 24 = .ok (.if_icmp .ne 13, 3) := by decide +kernel
theorem dX8_tokenOf_27 : decode cX8_tokenOf 27 = .ok (.iload_n 3, 1) := by decide +kernel
theorem dX8_tokenOf_28 : decode cX8_tokenOf 28 = .ok (.bipush 48, 2) := by decide +kernel
theorem dX8_tokenOf_30 : decode cX8_tokenOf 30 = .ok (.if_icmp .eq 7, 3) := by decide +kernel
theorem dX8_tokenOf_33 : decode cX8_tokenOf 33 = .ok (.iconst 1, 1) := by decide +kernel
theorem dX8_tokenOf_34 : decode cX8_tokenOf 34 = .ok (.goto 4, 3) := by decide +kernel
theorem dX8_tokenOf_37 : decode cX8_tokenOf 37 = .ok (.iconst 0, 1) := by decide +kernel
theorem dX8_tokenOf_38 : decode cX8_tokenOf 38 = .ok (.istore 4, 2) := by decide +kernel
theorem dX8_tokenOf_40 : decode cX8_tokenOf 40 = .ok (.iload 4, 2) := by decide +kernel
theorem dX8_tokenOf_42 : decode cX8_tokenOf 42 = .ok (.ifCond .eq 7, 3) := by decide +kernel
theorem dX8_tokenOf_45 : decode cX8_tokenOf 45 = .ok (.iconst 4, 1) := by decide +kernel
theorem dX8_tokenOf_46 : decode cX8_tokenOf 46 = .ok (.goto 5, 3) := by decide +kernel
theorem dX8_tokenOf_49 : decode cX8_tokenOf 49 = .ok (.bipush 7, 2) := by decide +kernel
theorem dX8_tokenOf_51 : decode cX8_tokenOf 51 = .ok (.ireturn, 1) := by decide +kernel
theorem dX8_tokenOf_52 : decode cX8_tokenOf 52 = .ok (.iload_n 3, 1) := by decide +kernel
theorem dX8_tokenOf_53 : decode cX8_tokenOf 53 = .ok (.bipush 59, 2) := by decide +kernel
theorem dX8_tokenOf_55 : decode cX8_tokenOf 55 = .ok (.if_icmp .ne 5, 3) := by decide +kernel
theorem dX8_tokenOf_58 : decode cX8_tokenOf 58 = .ok (.iconst 5, 1) := by decide +kernel
theorem dX8_tokenOf_59 : decode cX8_tokenOf 59 = .ok (.ireturn, 1) := by decide +kernel
theorem dX8_tokenOf_60 : decode cX8_tokenOf 60 = .ok (.aload_n 0, 1) := by decide +kernel
theorem dX8_tokenOf_61 : decode cX8_tokenOf 61 = .ok (.ldc 55, 2) := by decide +kernel
theorem dX8_tokenOf_63 : decode cX8_tokenOf 63 = .ok (.iload_n 1, 1) := by decide +kernel
theorem dX8_tokenOf_64 : decode cX8_tokenOf 64 = .ok (.iload_n 2, 1) := by decide +kernel
theorem dX8_tokenOf_65 : decode cX8_tokenOf 65 = .ok (.invokevirtual 57, 3) := by decide +kernel
theorem dX8_tokenOf_68 : decode cX8_tokenOf 68 = .ok (.ifCond .eq 5, 3) := by decide +kernel
theorem dX8_tokenOf_71 : decode cX8_tokenOf 71 = .ok (.iconst 0, 1) := by decide +kernel
theorem dX8_tokenOf_72 : decode cX8_tokenOf 72 = .ok (.ireturn, 1) := by decide +kernel
theorem dX8_tokenOf_73 : decode cX8_tokenOf 73 = .ok (.aload_n 0, 1) := by decide +kernel
theorem dX8_tokenOf_74 : decode cX8_tokenOf 74 = .ok (.ldc 61, 2) := by decide +kernel
theorem dX8_tokenOf_76 : decode cX8_tokenOf 76 = .ok (.iload_n 1, 1) := by decide +kernel
theorem dX8_tokenOf_77 : decode cX8_tokenOf 77 = .ok (.iload_n 2, 1) := by decide +kernel
theorem dX8_tokenOf_78 : decode cX8_tokenOf 78 = .ok (.invokevirtual 57, 3) := by decide +kernel
theorem dX8_tokenOf_81 : decode cX8_tokenOf 81 = .ok (.ifCond .eq 5, 3) := by decide +kernel
theorem dX8_tokenOf_84 : decode cX8_tokenOf 84 = .ok (.iconst 1, 1) := by decide +kernel
theorem dX8_tokenOf_85 : decode cX8_tokenOf 85 = .ok (.ireturn, 1) := by decide +kernel
theorem dX8_tokenOf_86 : decode cX8_tokenOf 86 = .ok (.aload_n 0, 1) := by decide +kernel
theorem dX8_tokenOf_87 : decode cX8_tokenOf 87 = .ok (.ldc 63, 2) := by decide +kernel
theorem dX8_tokenOf_89 : decode cX8_tokenOf 89 = .ok (.iload_n 1, 1) := by decide +kernel
theorem dX8_tokenOf_90 : decode cX8_tokenOf 90 = .ok (.iload_n 2, 1) := by decide +kernel
theorem dX8_tokenOf_91 : decode cX8_tokenOf 91 = .ok (.invokevirtual 57, 3) := by decide +kernel
theorem dX8_tokenOf_94 : decode cX8_tokenOf 94 = .ok (.ifCond .eq 5, 3) := by decide +kernel
theorem dX8_tokenOf_97 : decode cX8_tokenOf 97 = .ok (.iconst 2, 1) := by decide +kernel
theorem dX8_tokenOf_98 : decode cX8_tokenOf 98 = .ok (.ireturn, 1) := by decide +kernel
theorem dX8_tokenOf_99 : decode cX8_tokenOf 99 = .ok (.aload_n 0, 1) := by decide +kernel
theorem dX8_tokenOf_100 : decode cX8_tokenOf 100 = .ok (.ldc 65, 2) := by decide +kernel
theorem dX8_tokenOf_102 : decode cX8_tokenOf 102 = .ok (.iload_n 1, 1) := by decide +kernel
theorem dX8_tokenOf_103 : decode cX8_tokenOf 103 = .ok (.iload_n 2, 1) := by decide +kernel
theorem dX8_tokenOf_104 : decode cX8_tokenOf 104 = .ok (.invokevirtual 57, 3) := by decide +kernel
theorem dX8_tokenOf_107 : decode cX8_tokenOf 107 = .ok (.ifCond .eq 7, 3) := by decide +kernel
theorem dX8_tokenOf_110 : decode cX8_tokenOf 110 = .ok (.iconst 3, 1) := by decide +kernel
theorem dX8_tokenOf_111 : decode cX8_tokenOf 111 = .ok (.goto 5, 3) := by decide +kernel
theorem dX8_tokenOf_114 : decode cX8_tokenOf 114 = .ok (.bipush 7, 2) := by decide +kernel
theorem dX8_tokenOf_116 : decode cX8_tokenOf 116 = .ok (.ireturn, 1) := by decide +kernel
set_option maxRecDepth 20000 in
theorem ggX8_spells_J0_length_8abf5 : GoodIn wsX8_spells wsJ0_length_8abf5 := goodIn_r _ [5, 6, 7, 8, 9, 4, 10, 11, 12] (by decide +kernel) (by decide +kernel)
set_option maxRecDepth 20000 in
theorem gX8_spells_J0_length_8abf5 : GoodIn wsX8_spells (wsV RX8 67 RJ0 yJ0_length_8abf5 wsJ0_length_8abf5) := goodIn_app (goodIn_of _ (by decide +kernel)) ggX8_spells_J0_length_8abf5
set_option maxRecDepth 20000 in
theorem ggX8_spells_X8_at : GoodIn wsX8_spells wsX8_at := goodIn_r _ [17, 18, 19, 57, 58, 59, 60, 61] (by decide +kernel) (by decide +kernel)
set_option maxRecDepth 20000 in
theorem gX8_spells_X8_at : GoodIn wsX8_spells (wsV RX8 29 RX8 yX8_at wsX8_at) := goodIn_app (goodIn_of _ (by decide +kernel)) ggX8_spells_X8_at
set_option maxRecDepth 20000 in
theorem ggX8_spells_J0_charAt_5068e : GoodIn wsX8_spells wsJ0_charAt_5068e := goodIn_r _ [23, 6, 24, 25, 26, 4, 27, 11, 12, 28, 29, 30, 31, 32, 33, 34, 35, 36, 37, 38, 39, 40, 41, 42, 43, 44, 45, 46, 47, 48, 49, 50, 51, 52, 53, 54, 55, 56] (by decide +kernel) (by decide +kernel)
set_option maxRecDepth 20000 in
theorem gX8_spells_J0_charAt_5068e : GoodIn wsX8_spells (wsV RX8 72 RJ0 yJ0_charAt_5068e wsJ0_charAt_5068e) := goodIn_app (goodIn_of _ (by decide +kernel)) ggX8_spells_J0_charAt_5068e
theorem dX8_spells_0 : decode cX8_spells 0 = .ok (.iload_n 3, 1) := by decide +kernel
theorem dX8_spells_1 : decode cX8_spells 1 = .ok (.iload_n 2, 1) := by decide +kernel
theorem dX8_spells_2 : decode cX8_spells 2 = .ok (.isub, 1) := by decide +kernel
theorem dX8_spells_3 : decode cX8_spells 3 = .ok (.aload_n 1, 1) := by decide +kernel
theorem dX8_spells_4 : decode cX8_spells 4 = .ok (.invokevirtual 67, 3) := by decide +kernel
theorem dX8_spells_7 : decode cX8_spells 7 = .ok (.if_icmp .eq 5, 3) := by decide +kernel
theorem dX8_spells_10 : decode cX8_spells 10 = .ok (.iconst 0, 1) := by decide +kernel
theorem dX8_spells_11 : decode cX8_spells 11 = .ok (.ireturn, 1) := by decide +kernel
theorem dX8_spells_12 : decode cX8_spells 12 = .ok (.iconst 0, 1) := by decide +kernel
theorem dX8_spells_13 : decode cX8_spells 13 = .ok (.istore 4, 2) := by decide +kernel
theorem dX8_spells_15 : decode cX8_spells 15 = .ok (.iload 4, 2) := by decide +kernel
theorem dX8_spells_17 : decode cX8_spells 17 = .ok (.aload_n 1, 1) := by decide +kernel
theorem dX8_spells_18 : decode cX8_spells 18 = .ok (.invokevirtual 67, 3) := by decide +kernel
theorem dX8_spells_21 : decode cX8_spells 21 = .ok (.if_icmp .ge 28, 3) := by decide +kernel
theorem dX8_spells_24 : decode cX8_spells 24 = .ok (.aload_n 0, 1) := by decide +kernel
theorem dX8_spells_25 : decode cX8_spells 25 = .ok (.iload_n 2, 1) := by decide +kernel
theorem dX8_spells_26 : decode cX8_spells 26 = .ok (.iload 4, 2) := by decide +kernel
theorem dX8_spells_28 : decode cX8_spells 28 = .ok (.iadd, 1) := by decide +kernel
theorem dX8_spells_29 : decode cX8_spells 29 = .ok (.invokevirtual 29, 3) := by decide +kernel
theorem dX8_spells_32 : decode cX8_spells 32 = .ok (.aload_n 1, 1) := by decide +kernel
theorem dX8_spells_33 : decode cX8_spells 33 = .ok (.iload 4, 2) := by decide +kernel
theorem dX8_spells_35 : decode cX8_spells 35 = .ok (.invokevirtual 72, 3) := by decide +kernel
theorem dX8_spells_38 : decode cX8_spells 38 = .ok (.if_icmp .eq 5, 3) := by decide +kernel
theorem dX8_spells_41 : decode cX8_spells 41 = .ok (.iconst 0, 1) := by decide +kernel
theorem dX8_spells_42 : decode cX8_spells 42 = .ok (.ireturn, 1) := by decide +kernel
theorem dX8_spells_43 : decode cX8_spells 43 = .ok (.iinc 4 1, 3) := by decide +kernel
theorem dX8_spells_46 : decode cX8_spells 46 = .ok (.goto (-31), 3) := by decide +kernel
theorem dX8_spells_49 : decode cX8_spells 49 = .ok (.iconst 1, 1) := by decide +kernel
theorem dX8_spells_50 : decode cX8_spells 50 = .ok (.ireturn, 1) := by decide +kernel
set_option maxRecDepth 20000 in
theorem ggX8_numberAt_X8_at : GoodIn wsX8_numberAt wsX8_at := goodIn_r _ [5, 6, 7, 8, 9, 10, 11, 12] (by decide +kernel) (by decide +kernel)
set_option maxRecDepth 20000 in
theorem gX8_numberAt_X8_at : GoodIn wsX8_numberAt (wsV RX8 29 RX8 yX8_at wsX8_at) := goodIn_app (goodIn_of _ (by decide +kernel)) ggX8_numberAt_X8_at
theorem dX8_numberAt_0 : decode cX8_numberAt 0 = .ok (.iconst 0, 1) := by decide +kernel
theorem dX8_numberAt_1 : decode cX8_numberAt 1 = .ok (.istore_n 3, 1) := by decide +kernel
theorem dX8_numberAt_2 : decode cX8_numberAt 2 = .ok (.iload_n 1, 1) := by decide +kernel
theorem dX8_numberAt_3 : decode cX8_numberAt 3 = .ok (.istore 4, 2) := by decide +kernel
theorem dX8_numberAt_5 : decode cX8_numberAt 5 = .ok (.iload 4, 2) := by decide +kernel
theorem dX8_numberAt_7 : decode cX8_numberAt 7 = .ok (.iload_n 2, 1) := by decide +kernel
theorem dX8_numberAt_8 : decode cX8_numberAt 8 = .ok (.if_icmp .ge 24, 3) := by decide +kernel
theorem dX8_numberAt_11 : decode cX8_numberAt 11 = .ok (.iload_n 3, 1) := by decide +kernel
theorem dX8_numberAt_12 : decode cX8_numberAt 12 = .ok (.bipush 10, 2) := by decide +kernel
theorem dX8_numberAt_14 : decode cX8_numberAt 14 = .ok (.imul, 1) := by decide +kernel
theorem dX8_numberAt_15 : decode cX8_numberAt 15 = .ok (.aload_n 0, 1) := by decide +kernel
theorem dX8_numberAt_16 : decode cX8_numberAt 16 = .ok (.iload 4, 2) := by decide +kernel
theorem dX8_numberAt_18 : decode cX8_numberAt 18 = .ok (.invokevirtual 29, 3) := by decide +kernel
theorem dX8_numberAt_21 : decode cX8_numberAt 21 = .ok (.iadd, 1) := by decide +kernel
theorem dX8_numberAt_22 : decode cX8_numberAt 22 = .ok (.bipush 48, 2) := by decide +kernel
theorem dX8_numberAt_24 : decode cX8_numberAt 24 = .ok (.isub, 1) := by decide +kernel
theorem dX8_numberAt_25 : decode cX8_numberAt 25 = .ok (.istore_n 3, 1) := by decide +kernel
theorem dX8_numberAt_26 : decode cX8_numberAt 26 = .ok (.iinc 4 1, 3) := by decide +kernel
theorem dX8_numberAt_29 : decode cX8_numberAt 29 = .ok (.goto (-24), 3) := by decide +kernel
theorem dX8_numberAt_32 : decode cX8_numberAt 32 = .ok (.iload_n 3, 1) := by decide +kernel
theorem dX8_numberAt_33 : decode cX8_numberAt 33 = .ok (.ireturn, 1) := by decide +kernel
theorem dX8_isLetter_0 : decode cX8_isLetter 0 = .ok (.iload_n 0, 1) := by decide +kernel
theorem dX8_isLetter_1 : decode cX8_isLetter 1 = .ok (.bipush 97, 2) := by decide +kernel
theorem dX8_isLetter_3 : decode cX8_isLetter 3 = .ok (.if_icmp .lt 13, 3) := by decide +kernel
theorem dX8_isLetter_6 : decode cX8_isLetter 6 = .ok (.iload_n 0, 1) := by decide +kernel
theorem dX8_isLetter_7 : decode cX8_isLetter 7 = .ok (.bipush 122, 2) := by decide +kernel
theorem dX8_isLetter_9 : decode cX8_isLetter 9 = .ok (.if_icmp .gt 7, 3) := by decide +kernel
theorem dX8_isLetter_12 : decode cX8_isLetter 12 = .ok (.iconst 1, 1) := by decide +kernel
theorem dX8_isLetter_13 : decode cX8_isLetter 13 = .ok (.goto 4, 3) := by decide +kernel
theorem dX8_isLetter_16 : decode cX8_isLetter 16 = .ok (.iconst 0, 1) := by decide +kernel
theorem dX8_isLetter_17 : decode cX8_isLetter 17 = .ok (.ireturn, 1) := by decide +kernel
theorem dX8_isDigit_0 : decode cX8_isDigit 0 = .ok (.iload_n 0, 1) := by decide +kernel
theorem dX8_isDigit_1 : decode cX8_isDigit 1 = .ok (.bipush 48, 2) := by decide +kernel
theorem dX8_isDigit_3 : decode cX8_isDigit 3 = .ok (.if_icmp .lt 13, 3) := by decide +kernel
theorem dX8_isDigit_6 : decode cX8_isDigit 6 = .ok (.iload_n 0, 1) := by decide +kernel
theorem dX8_isDigit_7 : decode cX8_isDigit 7 = .ok (.bipush 57, 2) := by decide +kernel
theorem dX8_isDigit_9 : decode cX8_isDigit 9 = .ok (.if_icmp .gt 7, 3) := by decide +kernel
theorem dX8_isDigit_12 : decode cX8_isDigit 12 = .ok (.iconst 1, 1) := by decide +kernel
theorem dX8_isDigit_13 : decode cX8_isDigit 13 = .ok (.goto 4, 3) := by decide +kernel
theorem dX8_isDigit_16 : decode cX8_isDigit 16 = .ok (.iconst 0, 1) := by decide +kernel
theorem dX8_isDigit_17 : decode cX8_isDigit 17 = .ok (.ireturn, 1) := by decide +kernel
set_option maxRecDepth 20000 in
theorem ggX9_init_X8_init : GoodIn wsX9_init wsX8_init := goodIn_r _ [48, 49, 2, 3, 50, 51, 52, 53, 54, 55, 56, 254, 255, 256, 257, 258] (by decide +kernel) (by decide +kernel)
set_option maxRecDepth 20000 in
theorem gX9_init_X8_init_n11 : GoodIn wsX9_init (wsX8_init) := ggX9_init_X8_init
set_option maxRecDepth 20000 in
theorem ggX9_init_X6_init : GoodIn wsX9_init wsX6_init := goodIn_r _ [59, 60, 2, 3, 61, 62, 63, 64, 273, 274, 275, 276] (by decide +kernel) (by decide +kernel)
set_option maxRecDepth 20000 in
theorem gX9_init_X6_init : GoodIn wsX9_init (wsX6_init) := ggX9_init_X6_init
set_option maxRecDepth 20000 in
theorem ggX9_init_X3_init : GoodIn wsX9_init wsX3_init := goodIn_r _ [66, 67, 2, 3, 68, 69, 53, 70, 71, 72, 73, 74, 75, 76, 77, 277, 278, 279, 280, 281, 282, 283, 284, 285, 286] (by decide +kernel) (by decide +kernel)
set_option maxRecDepth 20000 in
theorem gX9_init_X3_init_n27 : GoodIn wsX9_init (wsX3_init) := ggX9_init_X3_init
set_option maxRecDepth 20000 in
theorem ggX9_init_X4_init : GoodIn wsX9_init wsX4_init := goodIn_r _ [79, 80, 2, 3, 81, 82, 53, 83, 84, 85, 86, 87, 88, 287, 288, 289, 290, 291, 292, 293, 294] (by decide +kernel) (by decide +kernel)
set_option maxRecDepth 20000 in
theorem gX9_init_X4_init_n37 : GoodIn wsX9_init (wsX4_init) := ggX9_init_X4_init
set_option maxRecDepth 20000 in
theorem ggX9_init_X7_init : GoodIn wsX9_init wsX7_init := goodIn_r _ [90, 91, 2, 3, 53, 92, 295] (by decide +kernel) (by decide +kernel)
set_option maxRecDepth 20000 in
theorem gX9_init_X7_init_n44 : GoodIn wsX9_init (wsX7_init) := ggX9_init_X7_init
set_option maxRecDepth 20000 in
theorem ggX9_init_X0_init : GoodIn wsX9_init wsX0_init := goodIn_r _ [94, 95, 2, 3, 53, 96, 97, 296, 297] (by decide +kernel) (by decide +kernel)
set_option maxRecDepth 20000 in
theorem gX9_init_X0_init_n51 : GoodIn wsX9_init (wsX0_init) := ggX9_init_X0_init
set_option maxRecDepth 20000 in
theorem ggX9_init_X1_init : GoodIn wsX9_init wsX1_init := goodIn_r _ [99, 100, 2, 3, 101, 53, 102, 103, 104, 105, 106, 298, 299, 300, 301, 302] (by decide +kernel) (by decide +kernel)
set_option maxRecDepth 20000 in
theorem gX9_init_X1_init_n58 : GoodIn wsX9_init (wsX1_init) := ggX9_init_X1_init
set_option maxRecDepth 20000 in
theorem ggX9_init_X5_init : GoodIn wsX9_init wsX5_init := goodIn_r _ [108, 109, 2, 3, 53, 110, 111, 112, 113, 303, 304, 305] (by decide +kernel) (by decide +kernel)
set_option maxRecDepth 20000 in
theorem gX9_init_X5_init_n65 : GoodIn wsX9_init (wsX5_init) := ggX9_init_X5_init
set_option maxRecDepth 20000 in
theorem ggX9_init_X2_init : GoodIn wsX9_init wsX2_init := goodIn_r _ [115, 116, 2, 3, 117, 118, 119, 120, 121, 122, 53, 123, 306, 307, 308, 309, 310, 311, 312] (by decide +kernel) (by decide +kernel)
set_option maxRecDepth 20000 in
theorem gX9_init_X2_init_n72 : GoodIn wsX9_init (wsX2_init) := ggX9_init_X2_init
set_option maxRecDepth 20000 in
theorem ggX9_init_X9_startAnew : GoodIn wsX9_init wsX9_startAnew := goodIn_r _ [128, 20, 15, 24, 28, 32, 40, 44, 129, 130, 131, 19, 132, 81, 82, 133, 134, 135, 136, 137, 138, 83, 84, 85, 86, 139, 87, 140, 141, 142, 143, 144, 88, 145, 146, 147, 148, 14, 149, 71, 150, 151, 152, 153, 70, 74, 154, 155, 156, 157, 68, 158, 159, 160, 23, 161, 92, 162, 163, 164, 165, 166, 167, 168, 169, 170, 171, 172, 173, 174, 175, 176, 177, 178, 27, 179, 96, 97, 180, 181, 182, 183, 184, 185, 186, 187, 188, 189, 190, 191, 192, 193, 194, 195, 196, 197, 198, 199, 200, 201, 202, 203, 204, 205, 206, 207, 208, 209, 210, 211, 212, 31, 213, 102, 214, 215, 216, 217, 218, 104, 103, 106, 219, 220, 221, 222, 223, 105, 224, 225, 226, 227, 228, 229, 230, 231, 232, 233, 127, 234, 235, 236, 237, 238, 239, 240, 241, 242, 243, 244, 245, 246, 39, 247, 117, 118, 119, 120, 121, 248, 249, 250, 251, 252, 123, 253, 259, 260, 261, 262, 263, 264, 265, 266, 267, 268, 269, 270, 271, 272, 287, 288, 289, 290, 291, 292, 293, 294, 277, 278, 279, 280, 281, 282, 283, 284, 285, 286, 295, 296, 297, 298, 299, 300, 301, 302, 306, 307, 308, 309, 310, 311, 312] (by decide +kernel) (by decide +kernel)
set_option maxRecDepth 20000 in
theorem gX9_init_X9_startAnew : GoodIn wsX9_init (wsV RX9 96 RX9 yX9_startAnew wsX9_startAnew) := goodIn_app (goodIn_of _ (by decide +kernel)) ggX9_init_X9_startAnew
theorem dX9_init_0 : decode cX9_init 0 = .ok (.aload_n 0, 1) := by decide +kernel
theorem dX9_init_1 : decode cX9_init 1 = .ok (.invokespecial 3, 3) := by decide +kernel
theorem dX9_init_4 : decode cX9_init 4 = .ok (.aload_n 0, 1) := by decide +kernel
theorem dX9_init_5 : decode cX9_init 5 = .ok (.new 9, 3) := by decide +kernel
theorem dX9_init_8 : decode cX9_init 8 = .ok (.dup, 1) := by decide +kernel
theorem dX9_init_9 : decode cX9_init 9 = .ok (.invokespecial 11, 3) := by decide +kernel
theorem dX9_init_12 : decode cX9_init 12 = .ok (.putfield 12, 3) := by decide +kernel
theorem dX9_init_15 : decode cX9_init 15 = .ok (.aload_n 0, 1) := by decide +kernel
theorem dX9_init_16 : decode cX9_init 16 = .ok (.new 16, 3) := by decide +kernel
theorem dX9_init_19 : decode cX9_init 19 = .ok (.dup, 1) := by decide +kernel
theorem dX9_init_20 : decode cX9_init 20 = .ok (.aload_n 0, 1) := by decide +kernel
theorem dX9_init_21 : decode cX9_init 21 = .ok (.getfield 12, 3) := by decide +kernel
theorem dX9_init_24 : decode cX9_init 24 = .ok (.invokespecial 18, 3) := by decide +kernel
theorem dX9_init_27 : decode cX9_init 27 = .ok (.putfield 21, 3) := by decide +kernel
theorem dX9_init_30 : decode cX9_init 30 = .ok (.aload_n 0, 1) := by decide +kernel
theorem dX9_init_31 : decode cX9_init 31 = .ok (.new 25, 3) := by decide +kernel
theorem dX9_init_34 : decode cX9_init 34 = .ok (.dup, 1) := by decide +kernel
theorem dX9_init_35 : decode cX9_init 35 = .ok (.invokespecial 27, 3) := by decide +kernel
theorem dX9_init_38 : decode cX9_init 38 = .ok (.putfield 28, 3) := by decide +kernel
theorem dX9_init_41 : decode cX9_init 41 = .ok (.aload_n 0, 1) := by decide +kernel
theorem dX9_init_42 : decode cX9_init 42 = .ok (.new 25, 3) := by decide +kernel
theorem dX9_init_45 : decode cX9_init 45 = .ok (.dup, 1) := by decide +kernel
theorem dX9_init_46 : decode cX9_init 46 = .ok (.invokespecial 27, 3) := by decide +kernel
theorem dX9_init_49 : decode cX9_init 49 = .ok (.putfield 32, 3) := by decide +kernel
theorem dX9_init_52 : decode cX9_init 52 = .ok (.aload_n 0, 1) := by decide +kernel
theorem dX9_init_53 : decode cX9_init 53 = .ok (.new 35, 3) := by decide +kernel
theorem dX9_init_56 : decode cX9_init 56 = .ok (.dup, 1) := by decide +kernel
theorem dX9_init_57 : decode cX9_init 57 = .ok (.invokespecial 37, 3) := by decide +kernel
theorem dX9_init_60 : decode cX9_init 60 = .ok (.putfield 38, 3) := by decide +kernel
theorem dX9_init_63 : decode cX9_init 63 = .ok (.aload_n 0, 1) := by decide +kernel
theorem dX9_init_64 : decode cX9_init 64 = .ok (.new 42, 3) := by decide +kernel
theorem dX9_init_67 : decode cX9_init 67 = .ok (.dup, 1) := by decide +kernel
theorem dX9_init_68 : decode cX9_init 68 = .ok (.invokespecial 44, 3) := by decide +kernel
theorem dX9_init_71 : decode cX9_init 71 = .ok (.putfield 45, 3) := by decide +kernel
theorem dX9_init_74 : decode cX9_init 74 = .ok (.aload_n 0, 1) := by decide +kernel
theorem dX9_init_75 : decode cX9_init 75 = .ok (.new 49, 3) := by decide +kernel
theorem dX9_init_78 : decode cX9_init 78 = .ok (.dup, 1) := by decide +kernel
theorem dX9_init_79 : decode cX9_init 79 = .ok (.invokespecial 51, 3) := by decide +kernel
theorem dX9_init_82 : decode cX9_init 82 = .ok (.putfield 52, 3) := by decide +kernel
theorem dX9_init_85 : decode cX9_init 85 = .ok (.aload_n 0, 1) := by decide +kernel
theorem dX9_init_86 : decode cX9_init 86 = .ok (.new 56, 3) := by decide +kernel
theorem dX9_init_89 : decode cX9_init 89 = .ok (.dup, 1) := by decide +kernel
theorem dX9_init_90 : decode cX9_init 90 = .ok (.invokespecial 58, 3) := by decide +kernel
theorem dX9_init_93 : decode cX9_init 93 = .ok (.putfield 59, 3) := by decide +kernel
theorem dX9_init_96 : decode cX9_init 96 = .ok (.aload_n 0, 1) := by decide +kernel
theorem dX9_init_97 : decode cX9_init 97 = .ok (.new 63, 3) := by decide +kernel
theorem dX9_init_100 : decode cX9_init 100 = .ok (.dup, 1) := by decide +kernel
theorem dX9_init_101 : decode cX9_init 101 = .ok (.invokespecial 65, 3) := by decide +kernel
theorem dX9_init_104 : decode cX9_init 104 = .ok (.putfield 66, 3) := by decide +kernel
theorem dX9_init_107 : decode cX9_init 107 = .ok (.aload_n 0, 1) := by decide +kernel
theorem dX9_init_108 : decode cX9_init 108 = .ok (.new 70, 3) := by decide +kernel
theorem dX9_init_111 : decode cX9_init 111 = .ok (.dup, 1) := by decide +kernel
theorem dX9_init_112 : decode cX9_init 112 = .ok (.invokespecial 72, 3) := by decide +kernel
theorem dX9_init_115 : decode cX9_init 115 = .ok (.putfield 73, 3) := by decide +kernel
theorem dX9_init_118 : decode cX9_init 118 = .ok (.aload_n 0, 1) := by decide +kernel
theorem dX9_init_119 : decode cX9_init 119 = .ok (.new 70, 3) := by decide +kernel
theorem dX9_init_122 : decode cX9_init 122 = .ok (.dup, 1) := by decide +kernel
theorem dX9_init_123 : decode cX9_init 123 = .ok (.invokespecial 72, 3) := by decide +kernel
theorem dX9_init_126 : decode cX9_init 126 = .ok (.putfield 77, 3) := by decide +kernel
theorem dX9_init_129 : decode cX9_init 129 = .ok (.aload_n 0, 1) := by decide +kernel
theorem dX9_init_130 : decode cX9_init 130 = .ok (.iconst 2, 1) := by decide +kernel
theorem dX9_init_131 : decode cX9_init 131 = .ok (.anewarray 70, 3) := by decide +kernel
theorem dX9_init_134 : decode cX9_init 134 = .ok (.putfield 80, 3) := by decide +kernel
theorem dX9_init_137 : decode cX9_init 137 = .ok (.aload_n 0, 1) := by decide +kernel
theorem dX9_init_138 : decode cX9_init 138 = .ok (.iconst 2, 1) := by decide +kernel
theorem dX9_init_139 : decode cX9_init 139 = .ok (.newarray .boolean, 2) := by decide +kernel
theorem dX9_init_141 : decode cX9_init 141 = .ok (.putfield 84, 3) := by decide +kernel
theorem dX9_init_144 : decode cX9_init 144 = .ok (.aload_n 0, 1) := by decide +kernel
theorem dX9_init_145 : decode cX9_init 145 = .ok (.lconst 0, 1) := by decide +kernel
theorem dX9_init_146 : decode cX9_init 146 = .ok (.putfield 88, 3) := by decide +kernel
theorem dX9_init_149 : decode cX9_init 149 = .ok (.iconst 0, 1) := by decide +kernel
theorem dX9_init_150 : decode cX9_init 150 = .ok (.istore_n 1, 1) := by decide +kernel
theorem dX9_init_151 : decode cX9_init 151 = .ok (.iload_n 1, 1) := by decide +kernel
theorem dX9_init_152 : decode cX9_init 152 = .ok (.iconst 2, 1) := by decide +kernel
theorem dX9_init_153 : decode cX9_init 153 = .ok (.if_icmp .ge 22, 3) := by decide +kernel
theorem dX9_init_156 : decode cX9_init 156 = .ok (.aload_n 0, 1) := by decide +kernel
theorem dX9_init_157 : decode cX9_init 157 = .ok (.getfield 80, 3) := by decide +kernel
theorem dX9_init_160 : decode cX9_init 160 = .ok (.iload_n 1, 1) := by decide +kernel
theorem dX9_init_161 : decode cX9_init 161 = .ok (.new 70, 3) := by decide +kernel
theorem dX9_init_164 : decode cX9_init 164 = .ok (.dup, 1) := by decide +kernel
theorem dX9_init_165 : decode cX9_init 165 = .ok (.invokespecial 72, 3) := by decide +kernel
theorem dX9_init_168 : decode cX9_init 168 = .ok (.aastore, 1) := by decide +kernel
theorem dX9_init_169 : decode cX9_init 169 = .ok (.iinc 1 1, 3) := by decide +kernel
theorem dX9_init_172 : decode cX9_init 172 = .ok (.goto (-21), 3) := by decide +kernel
theorem dX9_init_175 : decode cX9_init 175 = .ok (.aload_n 0, 1) := by decide +kernel
theorem dX9_init_176 : decode cX9_init 176 = .ok (.getfield 73, 3) := by decide +kernel
theorem dX9_init_179 : decode cX9_init 179 = .ok (.iconst 1, 1) := by decide +kernel
theorem dX9_init_180 : decode cX9_init 180 = .ok (.putfield 92, 3) := by decide +kernel
theorem dX9_init_183 : decode cX9_init 183 = .ok (.aload_n 0, 1) := by decide +kernel
theorem dX9_init_184 : decode cX9_init 184 = .ok (.invokevirtual 96, 3) := by decide +kernel
theorem dX9_init_187 : decode cX9_init 187 = .ok (.return_, 1) := by decide +kernel
set_option maxRecDepth 20000 in
theorem ggX9_type_X8_room : GoodIn wsX9_type wsX8_room := goodIn_r _ [7, 8, 28, 29, 30, 31, 32] (by decide +kernel) (by decide +kernel)
set_option maxRecDepth 20000 in
theorem gX9_type_X8_room : GoodIn wsX9_type (wsV RX9 99 RX8 yX8_room wsX8_room) := goodIn_app (goodIn_of _ (by decide +kernel)) ggX9_type_X8_room
set_option maxRecDepth 20000 in
theorem ggX9_type_X8_add : GoodIn wsX9_type wsX8_add := goodIn_r _ [12, 8, 13, 28, 29, 30, 31, 32] (by decide +kernel) (by decide +kernel)
set_option maxRecDepth 20000 in
theorem gX9_type_X8_add : GoodIn wsX9_type (wsV RX9 103 RX8 yX8_add wsX8_add) := goodIn_app (goodIn_of _ (by decide +kernel)) ggX9_type_X8_add
theorem dX9_type_0 : decode cX9_type 0 = .ok (.iload_n 3, 1) := by decide +kernel
theorem dX9_type_1 : decode cX9_type 1 = .ok (.iconst 1, 1) := by decide +kernel
theorem dX9_type_2 : decode cX9_type 2 = .ok (.if_icmp .lt 9, 3) := by decide +kernel
theorem dX9_type_5 : decode cX9_type 5 = .ok (.iload_n 3, 1) := by decide +kernel
theorem dX9_type_6 : decode cX9_type 6 = .ok (.bipush 8, 2) := by decide +kernel
theorem dX9_type_8 : decode cX9_type 8 = .ok (.if_icmp .le 5, 3) := by decide +kernel
theorem dX9_type_11 : decode cX9_type 11 = .ok (.iconst (-1), 1) := by decide +kernel
theorem dX9_type_12 : decode cX9_type 12 = .ok (.ireturn, 1) := by decide +kernel
theorem dX9_type_13 : decode cX9_type 13 = .ok (.iload_n 3, 1) := by decide +kernel
theorem dX9_type_14 : decode cX9_type 14 = .ok (.aload_n 0, 1) := by decide +kernel
theorem dX9_type_15 : decode cX9_type 15 = .ok (.getfield 12, 3) := by decide +kernel
theorem dX9_type_18 : decode cX9_type 18 = .ok (.invokevirtual 99, 3) := by decide +kernel
theorem dX9_type_21 : decode cX9_type 21 = .ok (.if_icmp .le 6, 3) := by decide +kernel
theorem dX9_type_24 : decode cX9_type 24 = .ok (.bipush (-3), 2) := by decide +kernel
theorem dX9_type_26 : decode cX9_type 26 = .ok (.ireturn, 1) := by decide +kernel
theorem dX9_type_27 : decode cX9_type 27 = .ok (.iload_n 3, 1) := by decide +kernel
theorem dX9_type_28 : decode cX9_type 28 = .ok (.iconst 1, 1) := by decide +kernel
theorem dX9_type_29 : decode cX9_type 29 = .ok (.isub, 1) := by decide +kernel
theorem dX9_type_30 : decode cX9_type 30 = .ok (.istore 4, 2) := by decide +kernel
theorem dX9_type_32 : decode cX9_type 32 = .ok (.iload 4, 2) := by decide +kernel
theorem dX9_type_34 : decode cX9_type 34 = .ok (.ifCond .lt 25, 3) := by decide +kernel
theorem dX9_type_37 : decode cX9_type 37 = .ok (.aload_n 0, 1) := by decide +kernel
theorem dX9_type_38 : decode cX9_type 38 = .ok (.getfield 12, 3) := by decide +kernel
theorem dX9_type_41 : decode cX9_type 41 = .ok (.lload_n 1, 1) := by decide +kernel
theorem dX9_type_42 : decode cX9_type 42 = .ok (.bipush 8, 2) := by decide +kernel
theorem dX9_type_44 : decode cX9_type 44 = .ok (.iload 4, 2) := by decide +kernel
theorem dX9_type_46 : decode cX9_type 46 = .ok (.imul, 1) := by decide +kernel
theorem dX9_type_47 : decode cX9_type 47 = .ok (.lushr, 1) := by decide +kernel
theorem dX9_type_48 : decode cX9_type 48 = .ok (.l2i, 1) := by decide +kernel
theorem dX9_type_49 : decode cX9_type 49 = .ok (.i2b, 1) := by decide +kernel
theorem dX9_type_50 : decode cX9_type 50 = .ok (.invokevirtual 103, 3) := by decide +kernel
theorem dX9_type_53 : decode cX9_type 53 = .ok (.iinc 4 (-1), 3) := by decide +kernel
theorem dX9_type_56 : decode cX9_type 56 = .ok (.goto (-24), 3) := by decide +kernel
theorem dX9_type_59 : decode cX9_type 59 = .ok (.aload_n 0, 1) := by decide +kernel
theorem dX9_type_60 : decode cX9_type 60 = .ok (.getfield 12, 3) := by decide +kernel
theorem dX9_type_63 : decode cX9_type 63 = .ok (.getfield 107, 3) := by decide +kernel
theorem dX9_type_66 : decode cX9_type 66 = .ok (.ireturn, 1) := by decide +kernel
theorem dX9_clear_0 : decode cX9_clear 0 = .ok (.aload_n 0, 1) := by decide +kernel
end
section
theorem dX9_clear_1 : decode cX9_clear 1 = .ok (.getfield 12, 3) := by decide +kernel
theorem dX9_clear_4 : decode cX9_clear 4 = .ok (.getfield 107, 3) := by decide +kernel
theorem dX9_clear_7 : decode cX9_clear 7 = .ok (.istore_n 1, 1) := by decide +kernel
theorem dX9_clear_8 : decode cX9_clear 8 = .ok (.aload_n 0, 1) := by decide +kernel
theorem dX9_clear_9 : decode cX9_clear 9 = .ok (.getfield 12, 3) := by decide +kernel
theorem dX9_clear_12 : decode cX9_clear 12 = .ok (.iconst 0, 1) := by decide +kernel
theorem dX9_clear_13 : decode cX9_clear 13 = .ok (.putfield 107, 3) := by decide +kernel
theorem dX9_clear_16 : decode cX9_clear 16 = .ok (.iload_n 1, 1) := by decide +kernel
theorem dX9_clear_17 : decode cX9_clear 17 = .ok (.ireturn, 1) := by decide +kernel
set_option maxRecDepth 20000 in
theorem ggX9_orchard_X6_readAll : GoodIn wsX9_orchard wsX6_readAll := goodIn_r _ [10, 11, 12, 13, 14, 15, 16, 17, 18, 19, 20, 21, 22, 23, 24, 25, 26, 27, 28, 29, 30, 31, 32, 33, 34, 35, 36, 37, 38, 39, 40, 41, 42, 43, 44, 45, 46, 47, 48, 49, 50, 51, 52, 53, 54, 55, 56, 57, 58, 59, 60, 61, 62, 63, 64, 65, 66, 67, 68, 69, 70, 71, 72, 73, 74, 75, 76, 77, 78, 79, 80, 81, 82, 83, 84, 85, 86, 87, 88, 89, 90, 91, 92, 93, 94, 95, 96, 97, 98, 99, 100, 101, 102, 103, 104, 105, 106, 107, 108, 109, 110, 111, 112, 113, 9, 114, 115, 116, 117, 118, 119, 120, 121, 122, 123, 124, 125, 126, 127, 128, 129, 130, 131, 132, 133, 134, 135, 136, 137, 138, 139, 140, 141, 142, 143, 144, 145, 146, 147, 148, 149, 150, 151, 152, 153, 154, 155, 156, 157, 158, 159, 160, 161, 162, 163, 164, 165, 166, 167, 168, 169, 170, 171, 172, 173, 174, 348, 349, 350, 351, 343, 344, 345, 346, 347, 352, 353, 354, 355, 356, 357, 358, 359, 360, 361] (by decide +kernel) (by decide +kernel)
set_option maxRecDepth 20000 in
theorem gX9_orchard_X6_readAll : GoodIn wsX9_orchard (wsV RX9 110 RX6 yX6_readAll wsX6_readAll) := goodIn_app (goodIn_of _ (by decide +kernel)) ggX9_orchard_X6_readAll
set_option maxRecDepth 20000 in
theorem ggX9_orchard_X9_startAnew : GoodIn wsX9_orchard wsX9_startAnew := goodIn_r _ [179, 180, 3, 181, 182, 183, 184, 185, 186, 187, 188, 189, 190, 191, 192, 193, 194, 195, 196, 197, 198, 199, 200, 201, 202, 203, 204, 205, 206, 116, 26, 117, 207, 208, 209, 210, 211, 107, 212, 147, 213, 214, 215, 216, 146, 150, 159, 160, 161, 162, 109, 217, 218, 219, 220, 221, 222, 223, 224, 225, 226, 227, 228, 229, 230, 231, 232, 233, 234, 25, 27, 235, 236, 237, 238, 239, 240, 241, 242, 243, 244, 245, 246, 247, 248, 249, 250, 251, 252, 253, 254, 255, 256, 257, 258, 259, 260, 261, 262, 263, 264, 265, 266, 267, 268, 269, 270, 271, 272, 273, 274, 275, 276, 277, 278, 279, 280, 281, 282, 283, 284, 285, 286, 287, 288, 289, 290, 291, 292, 293, 294, 295, 296, 297, 298, 299, 300, 301, 178, 302, 303, 304, 305, 306, 307, 308, 309, 310, 311, 312, 313, 314, 315, 316, 317, 318, 319, 320, 321, 322, 323, 324, 325, 326, 327, 328, 329, 330, 331, 332, 333, 334, 335, 336, 337, 338, 339, 340, 341, 342, 362, 363, 364, 365, 366, 367, 368, 369, 352, 353, 354, 355, 356, 357, 358, 359, 360, 361, 370, 371, 372, 373, 374, 375, 376, 377, 378, 379, 380, 381, 382, 383, 384] (by decide +kernel) (by decide +kernel)
set_option maxRecDepth 20000 in
theorem gX9_orchard_X9_startAnew : GoodIn wsX9_orchard (wsV RX9 96 RX9 yX9_startAnew wsX9_startAnew) := goodIn_app (goodIn_of _ (by decide +kernel)) ggX9_orchard_X9_startAnew
theorem dX9_orchard_0 : decode cX9_orchard 0 = .ok (.aload_n 0, 1) := by decide +kernel
theorem dX9_orchard_1 : decode cX9_orchard 1 = .ok (.getfield 21, 3) := by decide +kernel
theorem dX9_orchard_4 : decode cX9_orchard 4 = .ok (.aload_n 0, 1) := by decide +kernel
theorem dX9_orchard_5 : decode cX9_orchard 5 = .ok (.getfield 32, 3) := by decide +kernel
theorem dX9_orchard_8 : decode cX9_orchard 8 = .ok (.invokevirtual 110, 3) := by decide +kernel
theorem dX9_orchard_11 : decode cX9_orchard 11 = .ok (.istore_n 1, 1) := by decide +kernel
theorem dX9_orchard_12 : decode cX9_orchard 12 = .ok (.iload_n 1, 1) := by decide +kernel
theorem dX9_orchard_13 : decode cX9_orchard 13 = .ok (.ifCond .ge 5, 3) := by decide +kernel
theorem dX9_orchard_16 : decode cX9_orchard 16 = .ok (.iload_n 1, 1) := by decide +kernel
theorem dX9_orchard_17 : decode cX9_orchard 17 = .ok (.ireturn, 1) := by decide +kernel
theorem dX9_orchard_18 : decode cX9_orchard 18 = .ok (.aload_n 0, 1) := by decide +kernel
theorem dX9_orchard_19 : decode cX9_orchard 19 = .ok (.getfield 28, 3) := by decide +kernel
theorem dX9_orchard_22 : decode cX9_orchard 22 = .ok (.astore_n 2, 1) := by decide +kernel
theorem dX9_orchard_23 : decode cX9_orchard 23 = .ok (.aload_n 0, 1) := by decide +kernel
theorem dX9_orchard_24 : decode cX9_orchard 24 = .ok (.aload_n 0, 1) := by decide +kernel
theorem dX9_orchard_25 : decode cX9_orchard 25 = .ok (.getfield 32, 3) := by decide +kernel
theorem dX9_orchard_28 : decode cX9_orchard 28 = .ok (.putfield 28, 3) := by decide +kernel
theorem dX9_orchard_31 : decode cX9_orchard 31 = .ok (.aload_n 0, 1) := by decide +kernel
theorem dX9_orchard_32 : decode cX9_orchard 32 = .ok (.aload_n 2, 1) := by decide +kernel
theorem dX9_orchard_33 : decode cX9_orchard 33 = .ok (.putfield 32, 3) := by decide +kernel
theorem dX9_orchard_36 : decode cX9_orchard 36 = .ok (.aload_n 0, 1) := by decide +kernel
theorem dX9_orchard_37 : decode cX9_orchard 37 = .ok (.getfield 12, 3) := by decide +kernel
theorem dX9_orchard_40 : decode cX9_orchard 40 = .ok (.iconst 0, 1) := by decide +kernel
theorem dX9_orchard_41 : decode cX9_orchard 41 = .ok (.putfield 107, 3) := by decide +kernel
theorem dX9_orchard_44 : decode cX9_orchard 44 = .ok (.aload_n 0, 1) := by decide +kernel
theorem dX9_orchard_45 : decode cX9_orchard 45 = .ok (.invokevirtual 96, 3) := by decide +kernel
theorem dX9_orchard_48 : decode cX9_orchard 48 = .ok (.iload_n 1, 1) := by decide +kernel
theorem dX9_orchard_49 : decode cX9_orchard 49 = .ok (.ireturn, 1) := by decide +kernel
set_option maxRecDepth 20000 in
theorem ggX9_half_X3_hasHalf : GoodIn wsX9_half wsX3_hasHalf := goodIn_r _ [12, 13, 28, 29, 30, 31, 32, 33, 34, 35, 36, 37] (by decide +kernel) (by decide +kernel)
set_option maxRecDepth 20000 in
theorem gX9_half_X3_hasHalf : GoodIn wsX9_half (wsV RX9 114 RX3 yX3_hasHalf wsX3_hasHalf) := goodIn_app (goodIn_of _ (by decide +kernel)) ggX9_half_X3_hasHalf
theorem dX9_half_0 : decode cX9_half 0 = .ok (.aload_n 0, 1) := by decide +kernel
theorem dX9_half_1 : decode cX9_half 1 = .ok (.getfield 28, 3) := by decide +kernel
theorem dX9_half_4 : decode cX9_half 4 = .ok (.iload_n 1, 1) := by decide +kernel
theorem dX9_half_5 : decode cX9_half 5 = .ok (.invokevirtual 114, 3) := by decide +kernel
theorem dX9_half_8 : decode cX9_half 8 = .ok (.ifCond .ne 5, 3) := by decide +kernel
theorem dX9_half_11 : decode cX9_half 11 = .ok (.iconst (-1), 1) := by decide +kernel
theorem dX9_half_12 : decode cX9_half 12 = .ok (.ireturn, 1) := by decide +kernel
theorem dX9_half_13 : decode cX9_half 13 = .ok (.iload_n 2, 1) := by decide +kernel
theorem dX9_half_14 : decode cX9_half 14 = .ok (.tableswitch 86 0 4 #[34, 44, 54, 64, 74], 34) := by decide +kernel
theorem dX9_half_48 : decode cX9_half 48 = .ok (.aload_n 0, 1) := by decide +kernel
theorem dX9_half_49 : decode cX9_half 49 = .ok (.getfield 28, 3) := by decide +kernel
theorem dX9_half_52 : decode cX9_half 52 = .ok (.getfield 118, 3) := by decide +kernel
theorem dX9_half_55 : decode cX9_half 55 = .ok (.iload_n 1, 1) := by decide +kernel
theorem dX9_half_56 : decode cX9_half 56 = .ok (.iaload, 1) := by decide +kernel
theorem dX9_half_57 : decode cX9_half 57 = .ok (.ireturn, 1) := by decide +kernel
theorem dX9_half_58 : decode cX9_half 58 = .ok (.aload_n 0, 1) := by decide +kernel
theorem dX9_half_59 : decode cX9_half 59 = .ok (.getfield 28, 3) := by decide +kernel
theorem dX9_half_62 : decode cX9_half 62 = .ok (.getfield 122, 3) := by decide +kernel
theorem dX9_half_65 : decode cX9_half 65 = .ok (.iload_n 1, 1) := by decide +kernel
theorem dX9_half_66 : decode cX9_half 66 = .ok (.iaload, 1) := by decide +kernel
theorem dX9_half_67 : decode cX9_half 67 = .ok (.ireturn, 1) := by decide +kernel
theorem dX9_half_68 : decode cX9_half 68 = .ok (.aload_n 0, 1) := by decide +kernel
theorem dX9_half_69 : decode cX9_half 69 = .ok (.getfield 28, 3) := by decide +kernel
theorem dX9_half_72 : decode cX9_half 72 = .ok (.getfield 125, 3) := by decide +kernel
theorem dX9_half_75 : decode cX9_half 75 = .ok (.iload_n 1, 1) := by decide +kernel
theorem dX9_half_76 : decode cX9_half 76 = .ok (.iaload, 1) := by decide +kernel
theorem dX9_half_77 : decode cX9_half 77 = .ok (.ireturn, 1) := by decide +kernel
theorem dX9_half_78 : decode cX9_half 78 = .ok (.aload_n 0, 1) := by decide +kernel
theorem dX9_half_79 : decode cX9_half 79 = .ok (.getfield 28, 3) := by decide +kernel
theorem dX9_half_82 : decode cX9_half 82 = .ok (.getfield 128, 3) := by decide +kernel
theorem dX9_half_85 : decode cX9_half 85 = .ok (.iload_n 1, 1) := by decide +kernel
theorem dX9_half_86 : decode cX9_half 86 = .ok (.iaload, 1) := by decide +kernel
theorem dX9_half_87 : decode cX9_half 87 = .ok (.ireturn, 1) := by decide +kernel
theorem dX9_half_88 : decode cX9_half 88 = .ok (.aload_n 0, 1) := by decide +kernel
theorem dX9_half_89 : decode cX9_half 89 = .ok (.getfield 73, 3) := by decide +kernel
theorem dX9_half_92 : decode cX9_half 92 = .ok (.getfield 131, 3) := by decide +kernel
theorem dX9_half_95 : decode cX9_half 95 = .ok (.iload_n 1, 1) := by decide +kernel
theorem dX9_half_96 : decode cX9_half 96 = .ok (.ishr, 1) := by decide +kernel
theorem dX9_half_97 : decode cX9_half 97 = .ok (.iconst 1, 1) := by decide +kernel
theorem dX9_half_98 : decode cX9_half 98 = .ok (.iand, 1) := by decide +kernel
theorem dX9_half_99 : decode cX9_half 99 = .ok (.ireturn, 1) := by decide +kernel
theorem dX9_half_100 : decode cX9_half 100 = .ok (.iconst (-1), 1) := by decide +kernel
theorem dX9_half_101 : decode cX9_half 101 = .ok (.ireturn, 1) := by decide +kernel
set_option maxRecDepth 20000 in
theorem ggX9_tree_X3_hasTree : GoodIn wsX9_tree wsX3_hasTree := goodIn_r _ [12, 13, 28, 29, 30, 31, 32, 33, 34, 35, 36, 37] (by decide +kernel) (by decide +kernel)
set_option maxRecDepth 20000 in
theorem gX9_tree_X3_hasTree : GoodIn wsX9_tree (wsV RX9 134 RX3 yX3_hasTree wsX3_hasTree) := goodIn_app (goodIn_of _ (by decide +kernel)) ggX9_tree_X3_hasTree
theorem dX9_tree_0 : decode cX9_tree 0 = .ok (.aload_n 0, 1) := by decide +kernel
theorem dX9_tree_1 : decode cX9_tree 1 = .ok (.getfield 28, 3) := by decide +kernel
theorem dX9_tree_4 : decode cX9_tree 4 = .ok (.iload_n 1, 1) := by decide +kernel
theorem dX9_tree_5 : decode cX9_tree 5 = .ok (.invokevirtual 134, 3) := by decide +kernel
theorem dX9_tree_8 : decode cX9_tree 8 = .ok (.ifCond .ne 5, 3) := by decide +kernel
theorem dX9_tree_11 : decode cX9_tree 11 = .ok (.iconst (-1), 1) := by decide +kernel
theorem dX9_tree_12 : decode cX9_tree 12 = .ok (.ireturn, 1) := by decide +kernel
theorem dX9_tree_13 : decode cX9_tree 13 = .ok (.iload_n 2, 1) := by decide +kernel
theorem dX9_tree_14 : decode cX9_tree 14 = .ok (.tableswitch 86 0 4 #[34, 44, 54, 64, 74], 34) := by decide +kernel
theorem dX9_tree_48 : decode cX9_tree 48 = .ok (.aload_n 0, 1) := by decide +kernel
theorem dX9_tree_49 : decode cX9_tree 49 = .ok (.getfield 28, 3) := by decide +kernel
theorem dX9_tree_52 : decode cX9_tree 52 = .ok (.getfield 137, 3) := by decide +kernel
theorem dX9_tree_55 : decode cX9_tree 55 = .ok (.iload_n 1, 1) := by decide +kernel
theorem dX9_tree_56 : decode cX9_tree 56 = .ok (.iaload, 1) := by decide +kernel
theorem dX9_tree_57 : decode cX9_tree 57 = .ok (.ireturn, 1) := by decide +kernel
theorem dX9_tree_58 : decode cX9_tree 58 = .ok (.aload_n 0, 1) := by decide +kernel
theorem dX9_tree_59 : decode cX9_tree 59 = .ok (.getfield 28, 3) := by decide +kernel
theorem dX9_tree_62 : decode cX9_tree 62 = .ok (.getfield 140, 3) := by decide +kernel
theorem dX9_tree_65 : decode cX9_tree 65 = .ok (.iload_n 1, 1) := by decide +kernel
theorem dX9_tree_66 : decode cX9_tree 66 = .ok (.iaload, 1) := by decide +kernel
theorem dX9_tree_67 : decode cX9_tree 67 = .ok (.ireturn, 1) := by decide +kernel
theorem dX9_tree_68 : decode cX9_tree 68 = .ok (.aload_n 0, 1) := by decide +kernel
theorem dX9_tree_69 : decode cX9_tree 69 = .ok (.getfield 28, 3) := by decide +kernel
theorem dX9_tree_72 : decode cX9_tree 72 = .ok (.getfield 143, 3) := by decide +kernel
theorem dX9_tree_75 : decode cX9_tree 75 = .ok (.iload_n 1, 1) := by decide +kernel
theorem dX9_tree_76 : decode cX9_tree 76 = .ok (.iaload, 1) := by decide +kernel
theorem dX9_tree_77 : decode cX9_tree 77 = .ok (.ireturn, 1) := by decide +kernel
theorem dX9_tree_78 : decode cX9_tree 78 = .ok (.aload_n 0, 1) := by decide +kernel
theorem dX9_tree_79 : decode cX9_tree 79 = .ok (.getfield 73, 3) := by decide +kernel
theorem dX9_tree_82 : decode cX9_tree 82 = .ok (.getfield 146, 3) := by decide +kernel
theorem dX9_tree_85 : decode cX9_tree 85 = .ok (.iload_n 1, 1) := by decide +kernel
theorem dX9_tree_86 : decode cX9_tree 86 = .ok (.iaload, 1) := by decide +kernel
theorem dX9_tree_87 : decode cX9_tree 87 = .ok (.ireturn, 1) := by decide +kernel
theorem dX9_tree_88 : decode cX9_tree 88 = .ok (.aload_n 0, 1) := by decide +kernel
theorem dX9_tree_89 : decode cX9_tree 89 = .ok (.getfield 73, 3) := by decide +kernel
theorem dX9_tree_92 : decode cX9_tree 92 = .ok (.getfield 149, 3) := by decide +kernel
theorem dX9_tree_95 : decode cX9_tree 95 = .ok (.iload_n 1, 1) := by decide +kernel
theorem dX9_tree_96 : decode cX9_tree 96 = .ok (.ishr, 1) := by decide +kernel
theorem dX9_tree_97 : decode cX9_tree 97 = .ok (.iconst 1, 1) := by decide +kernel
theorem dX9_tree_98 : decode cX9_tree 98 = .ok (.iand, 1) := by decide +kernel
theorem dX9_tree_99 : decode cX9_tree 99 = .ok (.ireturn, 1) := by decide +kernel
theorem dX9_tree_100 : decode cX9_tree 100 = .ok (.iconst (-1), 1) := by decide +kernel
theorem dX9_tree_101 : decode cX9_tree 101 = .ok (.ireturn, 1) := by decide +kernel
set_option maxRecDepth 20000 in
theorem ggX9_fit_X9_areTwo : GoodIn wsX9_fit wsX9_areTwo := goodIn_r _ [6, 1, 7, 8, 9, 10, 11, 12, 25, 26, 27, 28, 29, 30, 31, 32, 33, 34, 35, 36, 37, 38, 39, 40, 41, 42, 43, 44, 45, 46, 47, 48] (by decide +kernel) (by decide +kernel)
set_option maxRecDepth 20000 in
theorem gX9_fit_X9_areTwo : GoodIn wsX9_fit (wsV RX9 152 RX9 yX9_areTwo wsX9_areTwo) := goodIn_app (goodIn_of _ (by decide +kernel)) ggX9_fit_X9_areTwo
set_option maxRecDepth 20000 in
theorem ggX9_fit_X3_fits : GoodIn wsX9_fit wsX3_fits := goodIn_r _ [16, 17, 18, 19, 20, 10, 21, 22, 23, 24, 8, 9, 11, 12, 39, 40, 41, 42, 43, 44, 45, 46, 47, 48] (by decide +kernel) (by decide +kernel)
set_option maxRecDepth 20000 in
theorem gX9_fit_X3_fits : GoodIn wsX9_fit (wsV RX9 156 RX3 yX3_fits wsX3_fits) := goodIn_app (goodIn_of _ (by decide +kernel)) ggX9_fit_X3_fits
theorem dX9_fit_0 : decode cX9_fit 0 = .ok (.aload_n 0, 1) := by decide +kernel
theorem dX9_fit_1 : decode cX9_fit 1 = .ok (.iload_n 1, 1) := by decide +kernel
theorem dX9_fit_2 : decode cX9_fit 2 = .ok (.iload_n 2, 1) := by decide +kernel
theorem dX9_fit_3 : decode cX9_fit 3 = .ok (.invokevirtual 152, 3) := by decide +kernel
theorem dX9_fit_6 : decode cX9_fit 6 = .ok (.ifCond .ne 5, 3) := by decide +kernel
theorem dX9_fit_9 : decode cX9_fit 9 = .ok (.iconst (-1), 1) := by decide +kernel
theorem dX9_fit_10 : decode cX9_fit 10 = .ok (.ireturn, 1) := by decide +kernel
theorem dX9_fit_11 : decode cX9_fit 11 = .ok (.aload_n 0, 1) := by decide +kernel
theorem dX9_fit_12 : decode cX9_fit 12 = .ok (.getfield 28, 3) := by decide +kernel
theorem dX9_fit_15 : decode cX9_fit 15 = .ok (.iload_n 1, 1) := by decide +kernel
theorem dX9_fit_16 : decode cX9_fit 16 = .ok (.iload_n 2, 1) := by decide +kernel
theorem dX9_fit_17 : decode cX9_fit 17 = .ok (.invokevirtual 156, 3) := by decide +kernel
theorem dX9_fit_20 : decode cX9_fit 20 = .ok (.ifCond .eq 7, 3) := by decide +kernel
theorem dX9_fit_23 : decode cX9_fit 23 = .ok (.iconst 1, 1) := by decide +kernel
theorem dX9_fit_24 : decode cX9_fit 24 = .ok (.goto 4, 3) := by decide +kernel
theorem dX9_fit_27 : decode cX9_fit 27 = .ok (.iconst 0, 1) := by decide +kernel
theorem dX9_fit_28 : decode cX9_fit 28 = .ok (.ireturn, 1) := by decide +kernel
set_option maxRecDepth 20000 in
theorem ggX9_climb_X9_areTwo : GoodIn wsX9_climb wsX9_areTwo := goodIn_r _ [9, 1, 10, 11, 12, 13, 14, 15, 56, 57, 58, 59, 60, 61, 62, 63, 64, 65, 66, 67, 68, 69, 78, 79, 80, 81, 82, 83, 84, 85, 86, 87] (by decide +kernel) (by decide +kernel)
set_option maxRecDepth 20000 in
theorem gX9_climb_X9_areTwo : GoodIn wsX9_climb (wsV RX9 152 RX9 yX9_areTwo wsX9_areTwo) := goodIn_app (goodIn_of _ (by decide +kernel)) ggX9_climb_X9_areTwo
set_option maxRecDepth 20000 in
theorem ggX9_climb_X3_hasTree : GoodIn wsX9_climb wsX3_hasTree := goodIn_r _ [19, 20, 78, 79, 80, 81, 82, 83, 84, 85, 86, 87] (by decide +kernel) (by decide +kernel)
set_option maxRecDepth 20000 in
theorem gX9_climb_X3_hasTree : GoodIn wsX9_climb (wsV RX9 134 RX3 yX3_hasTree wsX3_hasTree) := goodIn_app (goodIn_of _ (by decide +kernel)) ggX9_climb_X3_hasTree
set_option maxRecDepth 20000 in
theorem ggX9_climb_X4_indexOf : GoodIn wsX9_climb wsX4_indexOf := goodIn_r _ [25, 26, 27, 70, 71, 72, 73, 74, 75, 76, 77] (by decide +kernel) (by decide +kernel)
set_option maxRecDepth 20000 in
theorem gX9_climb_X4_indexOf : GoodIn wsX9_climb (wsV RX9 159 RX4 yX4_indexOf wsX4_indexOf) := goodIn_app (goodIn_of _ (by decide +kernel)) ggX9_climb_X4_indexOf
set_option maxRecDepth 20000 in
theorem ggX9_climb_X2_pickable : GoodIn wsX9_climb wsX2_pickable := goodIn_r _ [32, 33, 34, 35, 36, 37, 38, 39, 40, 41, 42, 43, 44, 45, 46, 47, 13, 48, 49, 50, 17, 18, 19, 20, 88, 89, 90, 91, 92, 93, 94, 70, 71, 72, 73, 74, 75, 76, 77, 78, 79, 80, 81, 82, 83, 84, 85, 86, 87] (by decide +kernel) (by decide +kernel)
set_option maxRecDepth 20000 in
theorem gX9_climb_X2_pickable : GoodIn wsX9_climb (wsV RX9 163 RX2 yX2_pickable wsX2_pickable) := goodIn_app (goodIn_of _ (by decide +kernel)) ggX9_climb_X2_pickable
set_option maxRecDepth 20000 in
theorem ggX9_climb_X2_pick : GoodIn wsX9_climb wsX2_pick := goodIn_r _ [54, 35, 34, 40, 55, 88, 89, 90, 91, 92, 93, 94] (by decide +kernel) (by decide +kernel)
set_option maxRecDepth 20000 in
theorem gX9_climb_X2_pick : GoodIn wsX9_climb (wsV RX9 170 RX2 yX2_pick wsX2_pick) := goodIn_app (goodIn_of _ (by decide +kernel)) ggX9_climb_X2_pick
theorem dX9_climb_0 : decode cX9_climb 0 = .ok (.aload_n 0, 1) := by decide +kernel
theorem dX9_climb_1 : decode cX9_climb 1 = .ok (.iload_n 1, 1) := by decide +kernel
theorem dX9_climb_2 : decode cX9_climb 2 = .ok (.iload_n 2, 1) := by decide +kernel
theorem dX9_climb_3 : decode cX9_climb 3 = .ok (.invokevirtual 152, 3) := by decide +kernel
theorem dX9_climb_6 : decode cX9_climb 6 = .ok (.ifCond .eq 14, 3) := by decide +kernel
theorem dX9_climb_9 : decode cX9_climb 9 = .ok (.aload_n 0, 1) := by decide +kernel
theorem dX9_climb_10 : decode cX9_climb 10 = .ok (.getfield 28, 3) := by decide +kernel
theorem dX9_climb_13 : decode cX9_climb 13 = .ok (.iload_n 3, 1) := by decide +kernel
theorem dX9_climb_14 : decode cX9_climb 14 = .ok (.invokevirtual 134, 3) := by decide +kernel
theorem dX9_climb_17 : decode cX9_climb 17 = .ok (.ifCond .ne 5, 3) := by decide +kernel
theorem dX9_climb_20 : decode cX9_climb 20 = .ok (.iconst (-1), 1) := by decide +kernel
theorem dX9_climb_21 : decode cX9_climb 21 = .ok (.ireturn, 1) := by decide +kernel
theorem dX9_climb_22 : decode cX9_climb 22 = .ok (.aload_n 0, 1) := by decide +kernel
theorem dX9_climb_23 : decode cX9_climb 23 = .ok (.getfield 38, 3) := by decide +kernel
theorem dX9_climb_26 : decode cX9_climb 26 = .ok (.iconst 1, 1) := by decide +kernel
theorem dX9_climb_27 : decode cX9_climb 27 = .ok (.iload_n 1, 1) := by decide +kernel
theorem dX9_climb_28 : decode cX9_climb 28 = .ok (.ishl, 1) := by decide +kernel
theorem dX9_climb_29 : decode cX9_climb 29 = .ok (.iconst 1, 1) := by decide +kernel
theorem dX9_climb_30 : decode cX9_climb 30 = .ok (.iload_n 2, 1) := by decide +kernel
theorem dX9_climb_31 : decode cX9_climb 31 = .ok (.ishl, 1) := by decide +kernel
theorem dX9_climb_32 : decode cX9_climb 32 = .ok (.ior, 1) := by decide +kernel
theorem dX9_climb_33 : decode cX9_climb 33 = .ok (.invokevirtual 159, 3) := by decide +kernel
theorem dX9_climb_36 : decode cX9_climb 36 = .ok (.istore 4, 2) := by decide +kernel
theorem dX9_climb_38 : decode cX9_climb 38 = .ok (.iload 4, 2) := by decide +kernel
theorem dX9_climb_40 : decode cX9_climb 40 = .ok (.ifCond .ge 6, 3) := by decide +kernel
theorem dX9_climb_43 : decode cX9_climb 43 = .ok (.bipush (-2), 2) := by decide +kernel
theorem dX9_climb_45 : decode cX9_climb 45 = .ok (.ireturn, 1) := by decide +kernel
theorem dX9_climb_46 : decode cX9_climb 46 = .ok (.aload_n 0, 1) := by decide +kernel
theorem dX9_climb_47 : decode cX9_climb 47 = .ok (.getfield 73, 3) := by decide +kernel
theorem dX9_climb_50 : decode cX9_climb 50 = .ok (.aload_n 0, 1) := by decide +kernel
theorem dX9_climb_51 : decode cX9_climb 51 = .ok (.getfield 28, 3) := by decide +kernel
theorem dX9_climb_54 : decode cX9_climb 54 = .ok (.aload_n 0, 1) := by decide +kernel
theorem dX9_climb_55 : decode cX9_climb 55 = .ok (.getfield 38, 3) := by decide +kernel
theorem dX9_climb_58 : decode cX9_climb 58 = .ok (.iload 4, 2) := by decide +kernel
theorem dX9_climb_60 : decode cX9_climb 60 = .ok (.iload_n 3, 1) := by decide +kernel
theorem dX9_climb_61 : decode cX9_climb 61 = .ok (.invokevirtual 163, 3) := by decide +kernel
theorem dX9_climb_64 : decode cX9_climb 64 = .ok (.istore 5, 2) := by decide +kernel
theorem dX9_climb_66 : decode cX9_climb 66 = .ok (.iload 5, 2) := by decide +kernel
theorem dX9_climb_68 : decode cX9_climb 68 = .ok (.ifCond .ne 6, 3) := by decide +kernel
theorem dX9_climb_71 : decode cX9_climb 71 = .ok (.bipush (-2), 2) := by decide +kernel
theorem dX9_climb_73 : decode cX9_climb 73 = .ok (.ireturn, 1) := by decide +kernel
theorem dX9_climb_74 : decode cX9_climb 74 = .ok (.aload_n 0, 1) := by decide +kernel
theorem dX9_climb_75 : decode cX9_climb 75 = .ok (.getfield 73, 3) := by decide +kernel
theorem dX9_climb_78 : decode cX9_climb 78 = .ok (.aload_n 0, 1) := by decide +kernel
theorem dX9_climb_79 : decode cX9_climb 79 = .ok (.getfield 38, 3) := by decide +kernel
theorem dX9_climb_82 : decode cX9_climb 82 = .ok (.getfield 167, 3) := by decide +kernel
theorem dX9_climb_85 : decode cX9_climb 85 = .ok (.iload 4, 2) := by decide +kernel
theorem dX9_climb_87 : decode cX9_climb 87 = .ok (.iaload, 1) := by decide +kernel
theorem dX9_climb_88 : decode cX9_climb 88 = .ok (.iload_n 3, 1) := by decide +kernel
theorem dX9_climb_89 : decode cX9_climb 89 = .ok (.iload 5, 2) := by decide +kernel
theorem dX9_climb_91 : decode cX9_climb 91 = .ok (.invokevirtual 170, 3) := by decide +kernel
theorem dX9_climb_94 : decode cX9_climb 94 = .ok (.iload 5, 2) := by decide +kernel
theorem dX9_climb_96 : decode cX9_climb 96 = .ok (.ireturn, 1) := by decide +kernel
set_option maxRecDepth 20000 in
theorem ggX9_ends_X2_endDay : GoodIn wsX9_ends wsX2_endDay := goodIn_r _ [8, 9, 10, 11, 12, 13, 14, 15, 30, 31, 32, 33, 34, 35, 36, 37, 38, 39, 40, 41, 42, 43, 44, 45, 46] (by decide +kernel) (by decide +kernel)
set_option maxRecDepth 20000 in
theorem gX9_ends_X2_endDay : GoodIn wsX9_ends (wsV RX9 177 RX2 yX2_endDay wsX2_endDay) := goodIn_app (goodIn_of _ (by decide +kernel)) ggX9_ends_X2_endDay
theorem dX9_ends_0 : decode cX9_ends 0 = .ok (.aload_n 0, 1) := by decide +kernel
theorem dX9_ends_1 : decode cX9_ends 1 = .ok (.getfield 73, 3) := by decide +kernel
theorem dX9_ends_4 : decode cX9_ends 4 = .ok (.getfield 174, 3) := by decide +kernel
theorem dX9_ends_7 : decode cX9_ends 7 = .ok (.bipush 30, 2) := by decide +kernel
theorem dX9_ends_9 : decode cX9_ends 9 = .ok (.if_icmp .lt 6, 3) := by decide +kernel
theorem dX9_ends_12 : decode cX9_ends 12 = .ok (.bipush (-2), 2) := by decide +kernel
theorem dX9_ends_14 : decode cX9_ends 14 = .ok (.ireturn, 1) := by decide +kernel
theorem dX9_ends_15 : decode cX9_ends 15 = .ok (.aload_n 0, 1) := by decide +kernel
theorem dX9_ends_16 : decode cX9_ends 16 = .ok (.getfield 73, 3) := by decide +kernel
theorem dX9_ends_19 : decode cX9_ends 19 = .ok (.aload_n 0, 1) := by decide +kernel
theorem dX9_ends_20 : decode cX9_ends 20 = .ok (.getfield 28, 3) := by decide +kernel
theorem dX9_ends_23 : decode cX9_ends 23 = .ok (.invokevirtual 177, 3) := by decide +kernel
theorem dX9_ends_26 : decode cX9_ends 26 = .ok (.ireturn, 1) := by decide +kernel
set_option maxRecDepth 20000 in
theorem ggX9_now_X2_leftOnAll : GoodIn wsX9_now wsX2_leftOnAll := goodIn_r _ [11, 12, 13, 35, 36, 37, 38, 39, 40, 41, 42, 43, 44, 28, 29, 30, 31, 32, 33, 34] (by decide +kernel) (by decide +kernel)
set_option maxRecDepth 20000 in
theorem gX9_now_X2_leftOnAll : GoodIn wsX9_now (wsV RX9 186 RX2 yX2_leftOnAll wsX2_leftOnAll) := goodIn_app (goodIn_of _ (by decide +kernel)) ggX9_now_X2_leftOnAll
theorem dX9_now_0 : decode cX9_now 0 = .ok (.iload_n 1, 1) := by decide +kernel
theorem dX9_now_1 : decode cX9_now 1 = .ok (.tableswitch 79 0 4 #[35, 43, 51, 59, 71], 35) := by decide +kernel
theorem dX9_now_36 : decode cX9_now 36 = .ok (.aload_n 0, 1) := by decide +kernel
theorem dX9_now_37 : decode cX9_now 37 = .ok (.getfield 73, 3) := by decide +kernel
theorem dX9_now_40 : decode cX9_now 40 = .ok (.getfield 174, 3) := by decide +kernel
theorem dX9_now_43 : decode cX9_now 43 = .ok (.ireturn, 1) := by decide +kernel
theorem dX9_now_44 : decode cX9_now 44 = .ok (.aload_n 0, 1) := by decide +kernel
theorem dX9_now_45 : decode cX9_now 45 = .ok (.getfield 73, 3) := by decide +kernel
theorem dX9_now_48 : decode cX9_now 48 = .ok (.getfield 180, 3) := by decide +kernel
theorem dX9_now_51 : decode cX9_now 51 = .ok (.ireturn, 1) := by decide +kernel
theorem dX9_now_52 : decode cX9_now 52 = .ok (.aload_n 0, 1) := by decide +kernel
theorem dX9_now_53 : decode cX9_now 53 = .ok (.getfield 73, 3) := by decide +kernel
theorem dX9_now_56 : decode cX9_now 56 = .ok (.getfield 183, 3) := by decide +kernel
theorem dX9_now_59 : decode cX9_now 59 = .ok (.ireturn, 1) := by decide +kernel
theorem dX9_now_60 : decode cX9_now 60 = .ok (.aload_n 0, 1) := by decide +kernel
theorem dX9_now_61 : decode cX9_now 61 = .ok (.getfield 73, 3) := by decide +kernel
theorem dX9_now_64 : decode cX9_now 64 = .ok (.aload_n 0, 1) := by decide +kernel
theorem dX9_now_65 : decode cX9_now 65 = .ok (.getfield 28, 3) := by decide +kernel
theorem dX9_now_68 : decode cX9_now 68 = .ok (.invokevirtual 186, 3) := by decide +kernel
theorem dX9_now_71 : decode cX9_now 71 = .ok (.ireturn, 1) := by decide +kernel
theorem dX9_now_72 : decode cX9_now 72 = .ok (.aload_n 0, 1) := by decide +kernel
theorem dX9_now_73 : decode cX9_now 73 = .ok (.getfield 73, 3) := by decide +kernel
theorem dX9_now_76 : decode cX9_now 76 = .ok (.getfield 131, 3) := by decide +kernel
theorem dX9_now_79 : decode cX9_now 79 = .ok (.ireturn, 1) := by decide +kernel
theorem dX9_now_80 : decode cX9_now 80 = .ok (.iconst (-1), 1) := by decide +kernel
theorem dX9_now_81 : decode cX9_now 81 = .ok (.ireturn, 1) := by decide +kernel
set_option maxRecDepth 20000 in
theorem ggX9_year_X2_begin : GoodIn wsX9_year wsX2_begin := goodIn_r _ [7, 8, 9, 10, 11, 12, 40, 41, 42, 43, 44, 45, 46] (by decide +kernel) (by decide +kernel)
set_option maxRecDepth 20000 in
theorem gX9_year_X2_begin : GoodIn wsX9_year (wsV RX9 189 RX2 yX2_begin wsX2_begin) := goodIn_app (goodIn_of _ (by decide +kernel)) ggX9_year_X2_begin
set_option maxRecDepth 20000 in
theorem ggX9_year_X2_blossom : GoodIn wsX9_year wsX2_blossom := goodIn_r _ [16, 17, 18, 19, 20, 21, 47, 48, 49, 50, 51, 52, 53, 54, 55, 56, 40, 41, 42, 43, 44, 45, 46] (by decide +kernel) (by decide +kernel)
set_option maxRecDepth 20000 in
theorem gX9_year_X2_blossom : GoodIn wsX9_year (wsV RX9 192 RX2 yX2_blossom wsX2_blossom) := goodIn_app (goodIn_of _ (by decide +kernel)) ggX9_year_X2_blossom
set_option maxRecDepth 20000 in
theorem ggX9_year_X2_leftOnAll : GoodIn wsX9_year wsX2_leftOnAll := goodIn_r _ [25, 17, 20, 47, 48, 49, 50, 51, 52, 53, 54, 55, 56, 40, 41, 42, 43, 44, 45, 46] (by decide +kernel) (by decide +kernel)
set_option maxRecDepth 20000 in
theorem gX9_year_X2_leftOnAll : GoodIn wsX9_year (wsV RX9 186 RX2 yX2_leftOnAll wsX2_leftOnAll) := goodIn_app (goodIn_of _ (by decide +kernel)) ggX9_year_X2_leftOnAll
theorem dX9_year_0 : decode cX9_year 0 = .ok (.aload_n 0, 1) := by decide +kernel
theorem dX9_year_1 : decode cX9_year 1 = .ok (.getfield 73, 3) := by decide +kernel
theorem dX9_year_4 : decode cX9_year 4 = .ok (.invokevirtual 189, 3) := by decide +kernel
theorem dX9_year_7 : decode cX9_year 7 = .ok (.aload_n 0, 1) := by decide +kernel
theorem dX9_year_8 : decode cX9_year 8 = .ok (.getfield 73, 3) := by decide +kernel
theorem dX9_year_11 : decode cX9_year 11 = .ok (.aload_n 0, 1) := by decide +kernel
theorem dX9_year_12 : decode cX9_year 12 = .ok (.getfield 28, 3) := by decide +kernel
theorem dX9_year_15 : decode cX9_year 15 = .ok (.invokevirtual 192, 3) := by decide +kernel
theorem dX9_year_18 : decode cX9_year 18 = .ok (.aload_n 0, 1) := by decide +kernel
theorem dX9_year_19 : decode cX9_year 19 = .ok (.getfield 73, 3) := by decide +kernel
theorem dX9_year_22 : decode cX9_year 22 = .ok (.aload_n 0, 1) := by decide +kernel
theorem dX9_year_23 : decode cX9_year 23 = .ok (.getfield 28, 3) := by decide +kernel
theorem dX9_year_26 : decode cX9_year 26 = .ok (.invokevirtual 186, 3) := by decide +kernel
theorem dX9_year_29 : decode cX9_year 29 = .ok (.ireturn, 1) := by decide +kernel
theorem dX9_lot_0 : decode cX9_lot 0 = .ok (.aload_n 0, 1) := by decide +kernel
theorem dX9_lot_1 : decode cX9_lot 1 = .ok (.getfield 73, 3) := by decide +kernel
theorem dX9_lot_4 : decode cX9_lot 4 = .ok (.getfield 92, 3) := by decide +kernel
theorem dX9_lot_7 : decode cX9_lot 7 = .ok (.istore_n 2, 1) := by decide +kernel
theorem dX9_lot_8 : decode cX9_lot 8 = .ok (.aload_n 0, 1) := by decide +kernel
theorem dX9_lot_9 : decode cX9_lot 9 = .ok (.getfield 73, 3) := by decide +kernel
theorem dX9_lot_12 : decode cX9_lot 12 = .ok (.iload_n 1, 1) := by decide +kernel
theorem dX9_lot_13 : decode cX9_lot 13 = .ok (.putfield 92, 3) := by decide +kernel
theorem dX9_lot_16 : decode cX9_lot 16 = .ok (.iload_n 2, 1) := by decide +kernel
theorem dX9_lot_17 : decode cX9_lot 17 = .ok (.ireturn, 1) := by decide +kernel
set_option maxRecDepth 20000 in
theorem ggX9_best_X3_hasTree : GoodIn wsX9_best wsX3_hasTree := goodIn_r _ [10, 11, 114, 115, 116, 117, 118, 119, 120, 121, 122, 123] (by decide +kernel) (by decide +kernel)
set_option maxRecDepth 20000 in
theorem gX9_best_X3_hasTree : GoodIn wsX9_best (wsV RX9 134 RX3 yX3_hasTree wsX3_hasTree) := goodIn_app (goodIn_of _ (by decide +kernel)) ggX9_best_X3_hasTree
set_option maxRecDepth 20000 in
theorem ggX9_best_X5_make : GoodIn wsX9_best wsX5_make := goodIn_r _ [16, 17, 18, 19, 20, 21, 22, 23, 24, 25, 26, 27, 28, 29, 30, 31, 32, 33, 34, 35, 36, 37, 38, 39, 40, 41, 42, 43, 44, 9, 45, 46, 47, 7, 8, 10, 11, 48, 49, 50, 51, 52, 53, 54, 15, 55, 56, 57, 58, 59, 60, 61, 62, 63, 64, 65, 66, 67, 68, 69, 70, 71, 72, 73, 74, 75, 76, 77, 78, 79, 80, 81, 82, 83, 84, 85, 86, 87, 88, 111, 112, 113, 114, 115, 116, 117, 118, 119, 120, 121, 122, 123, 124, 125, 126, 127, 128, 129, 130, 131, 132, 133, 134, 135, 136, 137, 138] (by decide +kernel) (by decide +kernel)
set_option maxRecDepth 20000 in
theorem gX9_best_X5_make : GoodIn wsX9_best (wsV RX9 196 RX5 yX5_make wsX5_make) := goodIn_app (goodIn_of _ (by decide +kernel)) ggX9_best_X5_make
set_option maxRecDepth 20000 in
theorem ggX9_best_X4_numberOf : GoodIn wsX9_best wsX4_numberOf := goodIn_r _ [93, 94, 95, 96, 124, 125, 126, 127, 128, 129, 130, 131] (by decide +kernel) (by decide +kernel)
set_option maxRecDepth 20000 in
theorem gX9_best_X4_numberOf : GoodIn wsX9_best (wsV RX9 203 RX4 yX4_numberOf wsX4_numberOf) := goodIn_app (goodIn_of _ (by decide +kernel)) ggX9_best_X4_numberOf
theorem dX9_best_0 : decode cX9_best 0 = .ok (.iload_n 1, 1) := by decide +kernel
theorem dX9_best_1 : decode cX9_best 1 = .ok (.iconst (-1), 1) := by decide +kernel
theorem dX9_best_2 : decode cX9_best 2 = .ok (.if_icmp .eq 16, 3) := by decide +kernel
theorem dX9_best_5 : decode cX9_best 5 = .ok (.aload_n 0, 1) := by decide +kernel
theorem dX9_best_6 : decode cX9_best 6 = .ok (.getfield 28, 3) := by decide +kernel
theorem dX9_best_9 : decode cX9_best 9 = .ok (.iload_n 1, 1) := by decide +kernel
theorem dX9_best_10 : decode cX9_best 10 = .ok (.invokevirtual 134, 3) := by decide +kernel
theorem dX9_best_13 : decode cX9_best 13 = .ok (.ifCond .ne 5, 3) := by decide +kernel
theorem dX9_best_16 : decode cX9_best 16 = .ok (.iconst (-1), 1) := by decide +kernel
theorem dX9_best_17 : decode cX9_best 17 = .ok (.ireturn, 1) := by decide +kernel
theorem dX9_best_18 : decode cX9_best 18 = .ok (.aload_n 0, 1) := by decide +kernel
theorem dX9_best_19 : decode cX9_best 19 = .ok (.getfield 66, 3) := by decide +kernel
theorem dX9_best_22 : decode cX9_best 22 = .ok (.aload_n 0, 1) := by decide +kernel
theorem dX9_best_23 : decode cX9_best 23 = .ok (.getfield 28, 3) := by decide +kernel
theorem dX9_best_26 : decode cX9_best 26 = .ok (.aload_n 0, 1) := by decide +kernel
theorem dX9_best_27 : decode cX9_best 27 = .ok (.getfield 38, 3) := by decide +kernel
theorem dX9_best_30 : decode cX9_best 30 = .ok (.aload_n 0, 1) := by decide +kernel
theorem dX9_best_31 : decode cX9_best 31 = .ok (.getfield 73, 3) := by decide +kernel
theorem dX9_best_34 : decode cX9_best 34 = .ok (.invokevirtual 196, 3) := by decide +kernel
theorem dX9_best_37 : decode cX9_best 37 = .ok (.istore_n 2, 1) := by decide +kernel
theorem dX9_best_38 : decode cX9_best 38 = .ok (.iload_n 1, 1) := by decide +kernel
theorem dX9_best_39 : decode cX9_best 39 = .ok (.iconst (-1), 1) := by decide +kernel
theorem dX9_best_40 : decode cX9_best 40 = .ok (.if_icmp .ne 5, 3) := by decide +kernel
theorem dX9_best_43 : decode cX9_best 43 = .ok (.iload_n 2, 1) := by decide +kernel
theorem dX9_best_44 : decode cX9_best 44 = .ok (.ireturn, 1) := by decide +kernel
theorem dX9_best_45 : decode cX9_best 45 = .ok (.aload_n 0, 1) := by decide +kernel
theorem dX9_best_46 : decode cX9_best 46 = .ok (.getfield 66, 3) := by decide +kernel
theorem dX9_best_49 : decode cX9_best 49 = .ok (.getfield 200, 3) := by decide +kernel
theorem dX9_best_52 : decode cX9_best 52 = .ok (.iload_n 1, 1) := by decide +kernel
theorem dX9_best_53 : decode cX9_best 53 = .ok (.iaload, 1) := by decide +kernel
theorem dX9_best_54 : decode cX9_best 54 = .ok (.istore_n 3, 1) := by decide +kernel
theorem dX9_best_55 : decode cX9_best 55 = .ok (.iload_n 3, 1) := by decide +kernel
theorem dX9_best_56 : decode cX9_best 56 = .ok (.iconst (-1), 1) := by decide +kernel
theorem dX9_best_57 : decode cX9_best 57 = .ok (.if_icmp .ne 8, 3) := by decide +kernel
theorem dX9_best_60 : decode cX9_best 60 = .ok (.bipush (-9), 2) := by decide +kernel
theorem dX9_best_62 : decode cX9_best 62 = .ok (.goto 11, 3) := by decide +kernel
theorem dX9_best_65 : decode cX9_best 65 = .ok (.aload_n 0, 1) := by decide +kernel
theorem dX9_best_66 : decode cX9_best 66 = .ok (.getfield 38, 3) := by decide +kernel
theorem dX9_best_69 : decode cX9_best 69 = .ok (.iload_n 3, 1) := by decide +kernel
theorem dX9_best_70 : decode cX9_best 70 = .ok (.invokevirtual 203, 3) := by decide +kernel
theorem dX9_best_73 : decode cX9_best 73 = .ok (.ireturn, 1) := by decide +kernel
set_option maxRecDepth 20000 in
theorem ggX9_season_X2_become : GoodIn wsX9_season wsX2_become := goodIn_r _ [11, 12, 13, 14, 15, 16, 17, 18, 124, 125, 126, 127, 128, 129, 130] (by decide +kernel) (by decide +kernel)
set_option maxRecDepth 20000 in
theorem gX9_season_X2_become : GoodIn wsX9_season (wsV RX9 206 RX2 yX2_become wsX2_become) := goodIn_app (goodIn_of _ (by decide +kernel)) ggX9_season_X2_become
set_option maxRecDepth 20000 in
theorem ggX9_season_X5_make : GoodIn wsX9_season wsX5_make := goodIn_r _ [23, 24, 25, 26, 27, 28, 29, 30, 31, 32, 33, 34, 10, 35, 12, 14, 13, 36, 37, 38, 39, 18, 40, 41, 42, 43, 44, 45, 46, 47, 48, 49, 50, 51, 52, 53, 54, 55, 56, 57, 58, 59, 60, 61, 22, 62, 63, 64, 65, 66, 67, 68, 69, 70, 71, 72, 73, 74, 75, 76, 77, 78, 79, 80, 81, 82, 83, 84, 85, 86, 87, 88, 89, 90, 91, 92, 93, 94, 95, 131, 132, 133, 134, 135, 136, 137, 138, 139, 140, 141, 142, 143, 144, 145, 146, 147, 148, 149, 150, 151, 124, 125, 126, 127, 128, 129, 130] (by decide +kernel) (by decide +kernel)
set_option maxRecDepth 20000 in
theorem gX9_season_X5_make : GoodIn wsX9_season (wsV RX9 196 RX5 yX5_make wsX5_make) := goodIn_app (goodIn_of _ (by decide +kernel)) ggX9_season_X5_make
set_option maxRecDepth 20000 in
theorem ggX9_season_X5_carryOut : GoodIn wsX9_season wsX5_carryOut := goodIn_r _ [99, 25, 91, 82, 27, 100, 101, 102, 10, 103, 13, 14, 18, 15, 134, 135, 136, 137, 138, 139, 140, 141, 142, 143, 131, 132, 133, 144, 145, 146, 147, 148, 149, 150, 151, 124, 125, 126, 127, 128, 129, 130] (by decide +kernel) (by decide +kernel)
set_option maxRecDepth 20000 in
theorem gX9_season_X5_carryOut : GoodIn wsX9_season (wsV RX9 210 RX5 yX5_carryOut wsX5_carryOut) := goodIn_app (goodIn_of _ (by decide +kernel)) ggX9_season_X5_carryOut
set_option maxRecDepth 20000 in
theorem ggX9_season_X2_endDay : GoodIn wsX9_season wsX2_endDay := goodIn_r _ [107, 12, 13, 14, 108, 109, 18, 16, 124, 125, 126, 127, 128, 129, 130, 134, 135, 136, 137, 138, 139, 140, 141, 142, 143] (by decide +kernel) (by decide +kernel)
set_option maxRecDepth 20000 in
theorem gX9_season_X2_endDay : GoodIn wsX9_season (wsV RX9 177 RX2 yX2_endDay wsX2_endDay) := goodIn_app (goodIn_of _ (by decide +kernel)) ggX9_season_X2_endDay
theorem dX9_season_0 : decode cX9_season 0 = .ok (.iload_n 1, 1) := by decide +kernel
theorem dX9_season_1 : decode cX9_season 1 = .ok (.iconst 1, 1) := by decide +kernel
theorem dX9_season_2 : decode cX9_season 2 = .ok (.if_icmp .lt 9, 3) := by decide +kernel
theorem dX9_season_5 : decode cX9_season 5 = .ok (.iload_n 1, 1) := by decide +kernel
theorem dX9_season_6 : decode cX9_season 6 = .ok (.bipush 8, 2) := by decide +kernel
theorem dX9_season_8 : decode cX9_season 8 = .ok (.if_icmp .le 5, 3) := by decide +kernel
theorem dX9_season_11 : decode cX9_season 11 = .ok (.iconst (-1), 1) := by decide +kernel
theorem dX9_season_12 : decode cX9_season 12 = .ok (.ireturn, 1) := by decide +kernel
theorem dX9_season_13 : decode cX9_season 13 = .ok (.aload_n 0, 1) := by decide +kernel
theorem dX9_season_14 : decode cX9_season 14 = .ok (.getfield 77, 3) := by decide +kernel
theorem dX9_season_17 : decode cX9_season 17 = .ok (.aload_n 0, 1) := by decide +kernel
theorem dX9_season_18 : decode cX9_season 18 = .ok (.getfield 73, 3) := by decide +kernel
theorem dX9_season_21 : decode cX9_season 21 = .ok (.invokevirtual 206, 3) := by decide +kernel
theorem dX9_season_24 : decode cX9_season 24 = .ok (.iconst 0, 1) := by decide +kernel
theorem dX9_season_25 : decode cX9_season 25 = .ok (.istore_n 2, 1) := by decide +kernel
theorem dX9_season_26 : decode cX9_season 26 = .ok (.iconst 0, 1) := by decide +kernel
theorem dX9_season_27 : decode cX9_season 27 = .ok (.istore_n 3, 1) := by decide +kernel
theorem dX9_season_28 : decode cX9_season 28 = .ok (.iload_n 3, 1) := by decide +kernel
theorem dX9_season_29 : decode cX9_season 29 = .ok (.iload_n 1, 1) := by decide +kernel
theorem dX9_season_30 : decode cX9_season 30 = .ok (.if_icmp .ge 74, 3) := by decide +kernel
theorem dX9_season_33 : decode cX9_season 33 = .ok (.aload_n 0, 1) := by decide +kernel
theorem dX9_season_34 : decode cX9_season 34 = .ok (.getfield 77, 3) := by decide +kernel
theorem dX9_season_37 : decode cX9_season 37 = .ok (.getfield 174, 3) := by decide +kernel
theorem dX9_season_40 : decode cX9_season 40 = .ok (.bipush 30, 2) := by decide +kernel
theorem dX9_season_42 : decode cX9_season 42 = .ok (.if_icmp .gt 62, 3) := by decide +kernel
theorem dX9_season_45 : decode cX9_season 45 = .ok (.iload_n 2, 1) := by decide +kernel
theorem dX9_season_46 : decode cX9_season 46 = .ok (.aload_n 0, 1) := by decide +kernel
theorem dX9_season_47 : decode cX9_season 47 = .ok (.getfield 66, 3) := by decide +kernel
theorem dX9_season_50 : decode cX9_season 50 = .ok (.aload_n 0, 1) := by decide +kernel
theorem dX9_season_51 : decode cX9_season 51 = .ok (.getfield 28, 3) := by decide +kernel
theorem dX9_season_54 : decode cX9_season 54 = .ok (.aload_n 0, 1) := by decide +kernel
theorem dX9_season_55 : decode cX9_season 55 = .ok (.getfield 38, 3) := by decide +kernel
theorem dX9_season_58 : decode cX9_season 58 = .ok (.aload_n 0, 1) := by decide +kernel
theorem dX9_season_59 : decode cX9_season 59 = .ok (.getfield 77, 3) := by decide +kernel
theorem dX9_season_62 : decode cX9_season 62 = .ok (.invokevirtual 196, 3) := by decide +kernel
theorem dX9_season_65 : decode cX9_season 65 = .ok (.iadd, 1) := by decide +kernel
theorem dX9_season_66 : decode cX9_season 66 = .ok (.istore_n 2, 1) := by decide +kernel
theorem dX9_season_67 : decode cX9_season 67 = .ok (.aload_n 0, 1) := by decide +kernel
theorem dX9_season_68 : decode cX9_season 68 = .ok (.getfield 66, 3) := by decide +kernel
theorem dX9_season_71 : decode cX9_season 71 = .ok (.aload_n 0, 1) := by decide +kernel
theorem dX9_season_72 : decode cX9_season 72 = .ok (.getfield 28, 3) := by decide +kernel
theorem dX9_season_75 : decode cX9_season 75 = .ok (.aload_n 0, 1) := by decide +kernel
theorem dX9_season_76 : decode cX9_season 76 = .ok (.getfield 38, 3) := by decide +kernel
theorem dX9_season_79 : decode cX9_season 79 = .ok (.aload_n 0, 1) := by decide +kernel
theorem dX9_season_80 : decode cX9_season 80 = .ok (.getfield 77, 3) := by decide +kernel
theorem dX9_season_83 : decode cX9_season 83 = .ok (.invokevirtual 210, 3) := by decide +kernel
theorem dX9_season_86 : decode cX9_season 86 = .ok (.aload_n 0, 1) := by decide +kernel
theorem dX9_season_87 : decode cX9_season 87 = .ok (.getfield 77, 3) := by decide +kernel
theorem dX9_season_90 : decode cX9_season 90 = .ok (.aload_n 0, 1) := by decide +kernel
theorem dX9_season_91 : decode cX9_season 91 = .ok (.getfield 28, 3) := by decide +kernel
theorem dX9_season_94 : decode cX9_season 94 = .ok (.invokevirtual 177, 3) := by decide +kernel
theorem dX9_season_97 : decode cX9_season 97 = .ok (.pop, 1) := by decide +kernel
theorem dX9_season_98 : decode cX9_season 98 = .ok (.iinc 3 1, 3) := by decide +kernel
theorem dX9_season_101 : decode cX9_season 101 = .ok (.goto (-73), 3) := by decide +kernel
theorem dX9_season_104 : decode cX9_season 104 = .ok (.iload_n 2, 1) := by decide +kernel
theorem dX9_season_105 : decode cX9_season 105 = .ok (.ireturn, 1) := by decide +kernel
set_option maxRecDepth 20000 in
theorem ggX9_whole_X3_everybody : GoodIn wsX9_whole wsX3_everybody := goodIn_r _ [8, 9, 25, 26, 27, 28, 29, 30, 31, 32, 33, 34] (by decide +kernel) (by decide +kernel)
set_option maxRecDepth 20000 in
theorem gX9_whole_X3_everybody : GoodIn wsX9_whole (wsV RX9 217 RX3 yX3_everybody wsX3_everybody) := goodIn_app (goodIn_of _ (by decide +kernel)) ggX9_whole_X3_everybody
theorem dX9_whole_0 : decode cX9_whole 0 = .ok (.aload_n 0, 1) := by decide +kernel
theorem dX9_whole_1 : decode cX9_whole 1 = .ok (.getfield 45, 3) := by decide +kernel
theorem dX9_whole_4 : decode cX9_whole 4 = .ok (.getfield 214, 3) := by decide +kernel
theorem dX9_whole_7 : decode cX9_whole 7 = .ok (.iload_n 1, 1) := by decide +kernel
theorem dX9_whole_8 : decode cX9_whole 8 = .ok (.aload_n 0, 1) := by decide +kernel
theorem dX9_whole_9 : decode cX9_whole 9 = .ok (.getfield 28, 3) := by decide +kernel
theorem dX9_whole_12 : decode cX9_whole 12 = .ok (.invokevirtual 217, 3) := by decide +kernel
theorem dX9_whole_15 : decode cX9_whole 15 = .ok (.iand, 1) := by decide +kernel
theorem dX9_whole_16 : decode cX9_whole 16 = .ok (.iaload, 1) := by decide +kernel
theorem dX9_whole_17 : decode cX9_whole 17 = .ok (.ireturn, 1) := by decide +kernel
set_option maxRecDepth 20000 in
theorem ggX9_worth_X3_hasHalf : GoodIn wsX9_worth wsX3_hasHalf := goodIn_r _ [9, 10, 42, 43, 44, 45, 46, 47, 48, 49, 50, 51] (by decide +kernel) (by decide +kernel)
set_option maxRecDepth 20000 in
theorem gX9_worth_X3_hasHalf : GoodIn wsX9_worth (wsV RX9 114 RX3 yX3_hasHalf wsX3_hasHalf) := goodIn_app (goodIn_of _ (by decide +kernel)) ggX9_worth_X3_hasHalf
set_option maxRecDepth 20000 in
theorem ggX9_worth_X7_grownOverOrders : GoodIn wsX9_worth wsX7_grownOverOrders := goodIn_r _ [15, 16, 17, 18, 19, 20, 21, 22, 23, 52] (by decide +kernel) (by decide +kernel)
set_option maxRecDepth 20000 in
theorem gX9_worth_X7_grownOverOrders : GoodIn wsX9_worth (wsV RX9 226 RX7 yX7_grownOverOrders wsX7_grownOverOrders) := goodIn_app (goodIn_of _ (by decide +kernel)) ggX9_worth_X7_grownOverOrders
set_option maxRecDepth 20000 in
theorem ggX9_worth_X9_greatestDivisor : GoodIn wsX9_worth wsX9_greatestDivisor := goodIn_r _ [27] (by decide +kernel) (by decide +kernel)
set_option maxRecDepth 20000 in
theorem gX9_worth_X9_greatestDivisor : GoodIn wsX9_worth (va_wsS RX9 230 yX9_greatestDivisor wsX9_greatestDivisor) := goodIn_app (goodIn_of _ (by decide +kernel)) ggX9_worth_X9_greatestDivisor
theorem dX9_worth_0 : decode cX9_worth 0 = .ok (.aload_n 0, 1) := by decide +kernel
theorem dX9_worth_1 : decode cX9_worth 1 = .ok (.getfield 28, 3) := by decide +kernel
theorem dX9_worth_4 : decode cX9_worth 4 = .ok (.iload_n 1, 1) := by decide +kernel
theorem dX9_worth_5 : decode cX9_worth 5 = .ok (.invokevirtual 114, 3) := by decide +kernel
theorem dX9_worth_8 : decode cX9_worth 8 = .ok (.ifCond .eq 12, 3) := by decide +kernel
theorem dX9_worth_11 : decode cX9_worth 11 = .ok (.iload_n 2, 1) := by decide +kernel
theorem dX9_worth_12 : decode cX9_worth 12 = .ok (.ifCond .lt 8, 3) := by decide +kernel
theorem dX9_worth_15 : decode cX9_worth 15 = .ok (.iload_n 2, 1) := by decide +kernel
theorem dX9_worth_16 : decode cX9_worth 16 = .ok (.iconst 1, 1) := by decide +kernel
theorem dX9_worth_17 : decode cX9_worth 17 = .ok (.if_icmp .le 5, 3) := by decide +kernel
theorem dX9_worth_20 : decode cX9_worth 20 = .ok (.iconst (-1), 1) := by decide +kernel
theorem dX9_worth_21 : decode cX9_worth 21 = .ok (.ireturn, 1) := by decide +kernel
theorem dX9_worth_22 : decode cX9_worth 22 = .ok (.getstatic 220, 3) := by decide +kernel
theorem dX9_worth_25 : decode cX9_worth 25 = .ok (.aload_n 0, 1) := by decide +kernel
theorem dX9_worth_26 : decode cX9_worth 26 = .ok (.getfield 28, 3) := by decide +kernel
theorem dX9_worth_29 : decode cX9_worth 29 = .ok (.getfield 223, 3) := by decide +kernel
theorem dX9_worth_32 : decode cX9_worth 32 = .ok (.iaload, 1) := by decide +kernel
theorem dX9_worth_33 : decode cX9_worth 33 = .ok (.istore_n 3, 1) := by decide +kernel
theorem dX9_worth_34 : decode cX9_worth 34 = .ok (.aload_n 0, 1) := by decide +kernel
theorem dX9_worth_35 : decode cX9_worth 35 = .ok (.getfield 45, 3) := by decide +kernel
theorem dX9_worth_38 : decode cX9_worth 38 = .ok (.iload_n 1, 1) := by decide +kernel
theorem dX9_worth_39 : decode cX9_worth 39 = .ok (.aload_n 0, 1) := by decide +kernel
theorem dX9_worth_40 : decode cX9_worth 40 = .ok (.getfield 28, 3) := by decide +kernel
theorem dX9_worth_43 : decode cX9_worth 43 = .ok (.getfield 223, 3) := by decide +kernel
theorem dX9_worth_46 : decode cX9_worth 46 = .ok (.invokevirtual 226, 3) := by decide +kernel
theorem dX9_worth_49 : decode cX9_worth 49 = .ok (.istore 4, 2) := by decide +kernel
theorem dX9_worth_51 : decode cX9_worth 51 = .ok (.iload 4, 2) := by decide +kernel
theorem dX9_worth_53 : decode cX9_worth 53 = .ok (.iload_n 3, 1) := by decide +kernel
theorem dX9_worth_54 : decode cX9_worth 54 = .ok (.invokestatic 230, 3) := by decide +kernel
theorem dX9_worth_57 : decode cX9_worth 57 = .ok (.istore 5, 2) := by decide +kernel
theorem dX9_worth_59 : decode cX9_worth 59 = .ok (.iload 5, 2) := by decide +kernel
theorem dX9_worth_61 : decode cX9_worth 61 = .ok (.ifCond .ne 5, 3) := by decide +kernel
theorem dX9_worth_64 : decode cX9_worth 64 = .ok (.iconst (-1), 1) := by decide +kernel
theorem dX9_worth_65 : decode cX9_worth 65 = .ok (.ireturn, 1) := by decide +kernel
theorem dX9_worth_66 : decode cX9_worth 66 = .ok (.iload_n 2, 1) := by decide +kernel
theorem dX9_worth_67 : decode cX9_worth 67 = .ok (.ifCond .ne 8, 3) := by decide +kernel
theorem dX9_worth_70 : decode cX9_worth 70 = .ok (.iload 4, 2) := by decide +kernel
theorem dX9_worth_72 : decode cX9_worth 72 = .ok (.goto 4, 3) := by decide +kernel
theorem dX9_worth_75 : decode cX9_worth 75 = .ok (.iload_n 3, 1) := by decide +kernel
theorem dX9_worth_76 : decode cX9_worth 76 = .ok (.iload 5, 2) := by decide +kernel
theorem dX9_worth_78 : decode cX9_worth 78 = .ok (.idiv, 1) := by decide +kernel
theorem dX9_worth_79 : decode cX9_worth 79 = .ok (.ireturn, 1) := by decide +kernel
set_option maxRecDepth 20000 in
theorem ggX9_asked_X3_hasHalf : GoodIn wsX9_asked wsX3_hasHalf := goodIn_r _ [8, 9, 29, 30, 31, 32, 33, 34, 35, 36, 37, 38] (by decide +kernel) (by decide +kernel)
set_option maxRecDepth 20000 in
theorem gX9_asked_X3_hasHalf : GoodIn wsX9_asked (wsV RX9 114 RX3 yX3_hasHalf wsX3_hasHalf) := goodIn_app (goodIn_of _ (by decide +kernel)) ggX9_asked_X3_hasHalf
theorem dX9_asked_0 : decode cX9_asked 0 = .ok (.aload_n 0, 1) := by decide +kernel
theorem dX9_asked_1 : decode cX9_asked 1 = .ok (.getfield 28, 3) := by decide +kernel
theorem dX9_asked_4 : decode cX9_asked 4 = .ok (.iload_n 1, 1) := by decide +kernel
theorem dX9_asked_5 : decode cX9_asked 5 = .ok (.invokevirtual 114, 3) := by decide +kernel
theorem dX9_asked_8 : decode cX9_asked 8 = .ok (.ifCond .eq 15, 3) := by decide +kernel
theorem dX9_asked_11 : decode cX9_asked 11 = .ok (.aload_n 0, 1) := by decide +kernel
theorem dX9_asked_12 : decode cX9_asked 12 = .ok (.getfield 59, 3) := by decide +kernel
theorem dX9_asked_15 : decode cX9_asked 15 = .ok (.getfield 233, 3) := by decide +kernel
theorem dX9_asked_18 : decode cX9_asked 18 = .ok (.iload_n 1, 1) := by decide +kernel
theorem dX9_asked_19 : decode cX9_asked 19 = .ok (.iaload, 1) := by decide +kernel
theorem dX9_asked_20 : decode cX9_asked 20 = .ok (.goto 4, 3) := by decide +kernel
theorem dX9_asked_23 : decode cX9_asked 23 = .ok (.iconst (-1), 1) := by decide +kernel
theorem dX9_asked_24 : decode cX9_asked 24 = .ok (.ireturn, 1) := by decide +kernel
theorem dX9_rests_0 : decode cX9_rests 0 = .ok (.aload_n 0, 1) := by decide +kernel
theorem dX9_rests_1 : decode cX9_rests 1 = .ok (.getfield 59, 3) := by decide +kernel
theorem dX9_rests_4 : decode cX9_rests 4 = .ok (.getfield 236, 3) := by decide +kernel
theorem dX9_rests_7 : decode cX9_rests 7 = .ok (.ireturn, 1) := by decide +kernel
theorem dX9_cuts_0 : decode cX9_cuts 0 = .ok (.iload_n 1, 1) := by decide +kernel
theorem dX9_cuts_1 : decode cX9_cuts 1 = .ok (.iconst 1, 1) := by decide +kernel
theorem dX9_cuts_2 : decode cX9_cuts 2 = .ok (.if_icmp .lt 8, 3) := by decide +kernel
theorem dX9_cuts_5 : decode cX9_cuts 5 = .ok (.iload_n 1, 1) := by decide +kernel
theorem dX9_cuts_6 : decode cX9_cuts 6 = .ok (.iconst 4, 1) := by decide +kernel
theorem dX9_cuts_7 : decode cX9_cuts 7 = .ok (.if_icmp .le 7, 3) := by decide +kernel
theorem dX9_cuts_10 : decode cX9_cuts 10 = .ok (.iconst (-1), 1) := by decide +kernel
theorem dX9_cuts_11 : decode cX9_cuts 11 = .ok (.goto 12, 3) := by decide +kernel
theorem dX9_cuts_14 : decode cX9_cuts 14 = .ok (.aload_n 0, 1) := by decide +kernel
theorem dX9_cuts_15 : decode cX9_cuts 15 = .ok (.getfield 52, 3) := by decide +kernel
theorem dX9_cuts_18 : decode cX9_cuts 18 = .ok (.getfield 239, 3) := by decide +kernel
theorem dX9_cuts_21 : decode cX9_cuts 21 = .ok (.iload_n 1, 1) := by decide +kernel
theorem dX9_cuts_22 : decode cX9_cuts 22 = .ok (.iaload, 1) := by decide +kernel
theorem dX9_cuts_23 : decode cX9_cuts 23 = .ok (.ireturn, 1) := by decide +kernel
set_option maxRecDepth 20000 in
theorem ggX9_whose_X4_howMany : GoodIn wsX9_whose wsX4_howMany := goodIn_r _ [6, 7, 8, 9, 10, 5, 11, 12, 13, 38, 39, 40, 41, 42, 43, 44, 45] (by decide +kernel) (by decide +kernel)
set_option maxRecDepth 20000 in
theorem gX9_whose_X4_howMany : GoodIn wsX9_whose (wsV RX9 242 RX4 yX4_howMany wsX4_howMany) := goodIn_app (goodIn_of _ (by decide +kernel)) ggX9_whose_X4_howMany
set_option maxRecDepth 20000 in
theorem ggX9_whose_X4_firstOf : GoodIn wsX9_whose wsX4_firstOf := goodIn_r _ [17, 7, 8, 9, 10, 5, 11, 12, 13, 18, 19, 20, 21, 22, 23, 38, 39, 40, 41, 42, 43, 44, 45] (by decide +kernel) (by decide +kernel)
set_option maxRecDepth 20000 in
theorem gX9_whose_X4_firstOf : GoodIn wsX9_whose (wsV RX9 245 RX4 yX4_firstOf wsX4_firstOf) := goodIn_app (goodIn_of _ (by decide +kernel)) ggX9_whose_X4_firstOf
theorem dX9_whose_0 : decode cX9_whose 0 = .ok (.iload_n 1, 1) := by decide +kernel
theorem dX9_whose_1 : decode cX9_whose 1 = .ok (.iconst 1, 1) := by decide +kernel
theorem dX9_whose_2 : decode cX9_whose 2 = .ok (.if_icmp .lt 29, 3) := by decide +kernel
theorem dX9_whose_5 : decode cX9_whose 5 = .ok (.iload_n 1, 1) := by decide +kernel
theorem dX9_whose_6 : decode cX9_whose 6 = .ok (.bipush 9, 2) := by decide +kernel
theorem dX9_whose_8 : decode cX9_whose 8 = .ok (.if_icmp .gt 23, 3) := by decide +kernel
theorem dX9_whose_11 : decode cX9_whose 11 = .ok (.iload_n 2, 1) := by decide +kernel
theorem dX9_whose_12 : decode cX9_whose 12 = .ok (.iconst 1, 1) := by decide +kernel
theorem dX9_whose_13 : decode cX9_whose 13 = .ok (.if_icmp .lt 18, 3) := by decide +kernel
theorem dX9_whose_16 : decode cX9_whose 16 = .ok (.iload_n 2, 1) := by decide +kernel
theorem dX9_whose_17 : decode cX9_whose 17 = .ok (.bipush 9, 2) := by decide +kernel
theorem dX9_whose_19 : decode cX9_whose 19 = .ok (.if_icmp .gt 12, 3) := by decide +kernel
theorem dX9_whose_22 : decode cX9_whose 22 = .ok (.iload_n 3, 1) := by decide +kernel
theorem dX9_whose_23 : decode cX9_whose 23 = .ok (.ifCond .lt 8, 3) := by decide +kernel
theorem dX9_whose_26 : decode cX9_whose 26 = .ok (.iload_n 3, 1) := by decide +kernel
theorem dX9_whose_27 : decode cX9_whose 27 = .ok (.iconst 1, 1) := by decide +kernel
theorem dX9_whose_28 : decode cX9_whose 28 = .ok (.if_icmp .le 5, 3) := by decide +kernel
theorem dX9_whose_31 : decode cX9_whose 31 = .ok (.iconst (-1), 1) := by decide +kernel
theorem dX9_whose_32 : decode cX9_whose 32 = .ok (.ireturn, 1) := by decide +kernel
theorem dX9_whose_33 : decode cX9_whose 33 = .ok (.iload_n 3, 1) := by decide +kernel
theorem dX9_whose_34 : decode cX9_whose 34 = .ok (.ifCond .ne 15, 3) := by decide +kernel
theorem dX9_whose_37 : decode cX9_whose 37 = .ok (.aload_n 0, 1) := by decide +kernel
theorem dX9_whose_38 : decode cX9_whose 38 = .ok (.getfield 38, 3) := by decide +kernel
theorem dX9_whose_41 : decode cX9_whose 41 = .ok (.iload_n 1, 1) := by decide +kernel
theorem dX9_whose_42 : decode cX9_whose 42 = .ok (.iload_n 2, 1) := by decide +kernel
theorem dX9_whose_43 : decode cX9_whose 43 = .ok (.invokevirtual 242, 3) := by decide +kernel
theorem dX9_whose_46 : decode cX9_whose 46 = .ok (.goto 12, 3) := by decide +kernel
theorem dX9_whose_49 : decode cX9_whose 49 = .ok (.aload_n 0, 1) := by decide +kernel
theorem dX9_whose_50 : decode cX9_whose 50 = .ok (.getfield 38, 3) := by decide +kernel
theorem dX9_whose_53 : decode cX9_whose 53 = .ok (.iload_n 1, 1) := by decide +kernel
theorem dX9_whose_54 : decode cX9_whose 54 = .ok (.iload_n 2, 1) := by decide +kernel
theorem dX9_whose_55 : decode cX9_whose 55 = .ok (.invokevirtual 245, 3) := by decide +kernel
theorem dX9_whose_58 : decode cX9_whose 58 = .ok (.ireturn, 1) := by decide +kernel
set_option maxRecDepth 20000 in
theorem ggX9_mark_X3_hasHalf : GoodIn wsX9_mark wsX3_hasHalf := goodIn_r _ [7, 8, 43, 44, 45, 46, 47, 48, 49, 50, 51, 52] (by decide +kernel) (by decide +kernel)
set_option maxRecDepth 20000 in
theorem gX9_mark_X3_hasHalf : GoodIn wsX9_mark (wsV RX9 114 RX3 yX3_hasHalf wsX3_hasHalf) := goodIn_app (goodIn_of _ (by decide +kernel)) ggX9_mark_X3_hasHalf
set_option maxRecDepth 20000 in
theorem ggX9_mark_X9_markAs : GoodIn wsX9_mark wsX9_markAs := goodIn_r _ [12, 1, 13, 14, 15, 16, 17, 18, 19, 20, 21, 3, 4, 5, 6, 7, 8, 9, 10, 11, 22, 23, 24, 25, 26, 27, 28, 29, 30, 31, 32, 33, 34, 35, 36, 37, 38, 39, 40, 41, 42, 43, 44, 45, 46, 47, 48, 49, 50, 51, 52, 53, 54, 55, 56, 57, 58, 59, 60, 61, 62, 63, 64, 65, 66, 67] (by decide +kernel) (by decide +kernel)
set_option maxRecDepth 20000 in
theorem gX9_mark_X9_markAs : GoodIn wsX9_mark (va_wsS RX9 249 yX9_markAs wsX9_markAs) := goodIn_app (goodIn_of _ (by decide +kernel)) ggX9_mark_X9_markAs
theorem dX9_mark_0 : decode cX9_mark 0 = .ok (.iload_n 1, 1) := by decide +kernel
theorem dX9_mark_1 : decode cX9_mark 1 = .ok (.ifCond .lt 19, 3) := by decide +kernel
theorem dX9_mark_4 : decode cX9_mark 4 = .ok (.iload_n 1, 1) := by decide +kernel
theorem dX9_mark_5 : decode cX9_mark 5 = .ok (.iconst 5, 1) := by decide +kernel
theorem dX9_mark_6 : decode cX9_mark 6 = .ok (.if_icmp .gt 14, 3) := by decide +kernel
theorem dX9_mark_9 : decode cX9_mark 9 = .ok (.aload_n 0, 1) := by decide +kernel
theorem dX9_mark_10 : decode cX9_mark 10 = .ok (.getfield 28, 3) := by decide +kernel
theorem dX9_mark_13 : decode cX9_mark 13 = .ok (.iload_n 2, 1) := by decide +kernel
theorem dX9_mark_14 : decode cX9_mark 14 = .ok (.invokevirtual 114, 3) := by decide +kernel
theorem dX9_mark_17 : decode cX9_mark 17 = .ok (.ifCond .ne 6, 3) := by decide +kernel
theorem dX9_mark_20 : decode cX9_mark 20 = .ok (.ldc 248, 2) := by decide +kernel
theorem dX9_mark_22 : decode cX9_mark 22 = .ok (.ireturn, 1) := by decide +kernel
theorem dX9_mark_23 : decode cX9_mark 23 = .ok (.aload_n 0, 1) := by decide +kernel
theorem dX9_mark_24 : decode cX9_mark 24 = .ok (.iload_n 1, 1) := by decide +kernel
theorem dX9_mark_25 : decode cX9_mark 25 = .ok (.iload_n 2, 1) := by decide +kernel
theorem dX9_mark_26 : decode cX9_mark 26 = .ok (.iconst 0, 1) := by decide +kernel
theorem dX9_mark_27 : decode cX9_mark 27 = .ok (.invokestatic 249, 3) := by decide +kernel
theorem dX9_mark_30 : decode cX9_mark 30 = .ok (.ireturn, 1) := by decide +kernel
set_option maxRecDepth 20000 in
theorem ggX9_keep_X9_isImage : GoodIn wsX9_keep wsX9_isImage := goodIn_r _ [8] (by decide +kernel) (by decide +kernel)
set_option maxRecDepth 20000 in
theorem gX9_keep_X9_isImage : GoodIn wsX9_keep (va_wsS RX9 253 yX9_isImage wsX9_isImage) := goodIn_app (goodIn_of _ (by decide +kernel)) ggX9_keep_X9_isImage
set_option maxRecDepth 20000 in
theorem ggX9_keep_X2_become : GoodIn wsX9_keep wsX2_become := goodIn_r _ [13, 14, 15, 16, 17, 18, 19, 20, 35, 36, 37, 38, 39, 40, 41] (by decide +kernel) (by decide +kernel)
set_option maxRecDepth 20000 in
theorem gX9_keep_X2_become : GoodIn wsX9_keep (wsV RX9 206 RX2 yX2_become wsX2_become) := goodIn_app (goodIn_of _ (by decide +kernel)) ggX9_keep_X2_become
theorem dX9_keep_0 : decode cX9_keep 0 = .ok (.iload_n 1, 1) := by decide +kernel
theorem dX9_keep_1 : decode cX9_keep 1 = .ok (.invokestatic 253, 3) := by decide +kernel
theorem dX9_keep_4 : decode cX9_keep 4 = .ok (.ifCond .ne 5, 3) := by decide +kernel
theorem dX9_keep_7 : decode cX9_keep 7 = .ok (.iconst (-1), 1) := by decide +kernel
theorem dX9_keep_8 : decode cX9_keep 8 = .ok (.ireturn, 1) := by decide +kernel
theorem dX9_keep_9 : decode cX9_keep 9 = .ok (.aload_n 0, 1) := by decide +kernel
theorem dX9_keep_10 : decode cX9_keep 10 = .ok (.getfield 80, 3) := by decide +kernel
theorem dX9_keep_13 : decode cX9_keep 13 = .ok (.iload_n 1, 1) := by decide +kernel
theorem dX9_keep_14 : decode cX9_keep 14 = .ok (.aaload, 1) := by decide +kernel
theorem dX9_keep_15 : decode cX9_keep 15 = .ok (.aload_n 0, 1) := by decide +kernel
theorem dX9_keep_16 : decode cX9_keep 16 = .ok (.getfield 73, 3) := by decide +kernel
theorem dX9_keep_19 : decode cX9_keep 19 = .ok (.invokevirtual 206, 3) := by decide +kernel
theorem dX9_keep_22 : decode cX9_keep 22 = .ok (.aload_n 0, 1) := by decide +kernel
theorem dX9_keep_23 : decode cX9_keep 23 = .ok (.getfield 84, 3) := by decide +kernel
theorem dX9_keep_26 : decode cX9_keep 26 = .ok (.iload_n 1, 1) := by decide +kernel
theorem dX9_keep_27 : decode cX9_keep 27 = .ok (.iconst 1, 1) := by decide +kernel
theorem dX9_keep_28 : decode cX9_keep 28 = .ok (.bastore, 1) := by decide +kernel
theorem dX9_keep_29 : decode cX9_keep 29 = .ok (.aload_n 0, 1) := by decide +kernel
theorem dX9_keep_30 : decode cX9_keep 30 = .ok (.getfield 73, 3) := by decide +kernel
theorem dX9_keep_33 : decode cX9_keep 33 = .ok (.getfield 174, 3) := by decide +kernel
theorem dX9_keep_36 : decode cX9_keep 36 = .ok (.ireturn, 1) := by decide +kernel
set_option maxRecDepth 20000 in
theorem ggX9_back_X9_isImage : GoodIn wsX9_back wsX9_isImage := goodIn_r _ [8] (by decide +kernel) (by decide +kernel)
end
section
set_option maxRecDepth 20000 in
theorem gX9_back_X9_isImage : GoodIn wsX9_back (va_wsS RX9 253 yX9_isImage wsX9_isImage) := goodIn_app (goodIn_of _ (by decide +kernel)) ggX9_back_X9_isImage
set_option maxRecDepth 20000 in
theorem ggX9_back_X2_become : GoodIn wsX9_back wsX2_become := goodIn_r _ [13, 14, 15, 16, 17, 18, 19, 20, 35, 36, 37, 38, 39, 40, 41] (by decide +kernel) (by decide +kernel)
set_option maxRecDepth 20000 in
theorem gX9_back_X2_become : GoodIn wsX9_back (wsV RX9 206 RX2 yX2_become wsX2_become) := goodIn_app (goodIn_of _ (by decide +kernel)) ggX9_back_X2_become
theorem dX9_back_0 : decode cX9_back 0 = .ok (.iload_n 1, 1) := by decide +kernel
theorem dX9_back_1 : decode cX9_back 1 = .ok (.invokestatic 253, 3) := by decide +kernel
theorem dX9_back_4 : decode cX9_back 4 = .ok (.ifCond .ne 5, 3) := by decide +kernel
theorem dX9_back_7 : decode cX9_back 7 = .ok (.iconst (-1), 1) := by decide +kernel
theorem dX9_back_8 : decode cX9_back 8 = .ok (.ireturn, 1) := by decide +kernel
theorem dX9_back_9 : decode cX9_back 9 = .ok (.aload_n 0, 1) := by decide +kernel
theorem dX9_back_10 : decode cX9_back 10 = .ok (.getfield 84, 3) := by decide +kernel
theorem dX9_back_13 : decode cX9_back 13 = .ok (.iload_n 1, 1) := by decide +kernel
theorem dX9_back_14 : decode cX9_back 14 = .ok (.baload, 1) := by decide +kernel
theorem dX9_back_15 : decode cX9_back 15 = .ok (.ifCond .ne 6, 3) := by decide +kernel
theorem dX9_back_18 : decode cX9_back 18 = .ok (.bipush (-2), 2) := by decide +kernel
theorem dX9_back_20 : decode cX9_back 20 = .ok (.ireturn, 1) := by decide +kernel
theorem dX9_back_21 : decode cX9_back 21 = .ok (.aload_n 0, 1) := by decide +kernel
theorem dX9_back_22 : decode cX9_back 22 = .ok (.getfield 73, 3) := by decide +kernel
theorem dX9_back_25 : decode cX9_back 25 = .ok (.aload_n 0, 1) := by decide +kernel
theorem dX9_back_26 : decode cX9_back 26 = .ok (.getfield 80, 3) := by decide +kernel
theorem dX9_back_29 : decode cX9_back 29 = .ok (.iload_n 1, 1) := by decide +kernel
theorem dX9_back_30 : decode cX9_back 30 = .ok (.aaload, 1) := by decide +kernel
theorem dX9_back_31 : decode cX9_back 31 = .ok (.invokevirtual 206, 3) := by decide +kernel
theorem dX9_back_34 : decode cX9_back 34 = .ok (.aload_n 0, 1) := by decide +kernel
theorem dX9_back_35 : decode cX9_back 35 = .ok (.getfield 73, 3) := by decide +kernel
theorem dX9_back_38 : decode cX9_back 38 = .ok (.getfield 174, 3) := by decide +kernel
theorem dX9_back_41 : decode cX9_back 41 = .ok (.ireturn, 1) := by decide +kernel
set_option maxRecDepth 20000 in
theorem ggX9_count_X3_quarrelPairs : GoodIn wsX9_count wsX3_quarrelPairs := goodIn_r _ [10, 11, 12, 13, 14, 15, 16, 17, 18, 19, 34, 35, 36, 37, 38, 39, 40, 41, 42, 43] (by decide +kernel) (by decide +kernel)
set_option maxRecDepth 20000 in
theorem gX9_count_X3_quarrelPairs : GoodIn wsX9_count (wsV RX9 259 RX3 yX3_quarrelPairs wsX3_quarrelPairs) := goodIn_app (goodIn_of _ (by decide +kernel)) ggX9_count_X3_quarrelPairs
theorem dX9_count_0 : decode cX9_count 0 = .ok (.iload_n 1, 1) := by decide +kernel
theorem dX9_count_1 : decode cX9_count 1 = .ok (.tableswitch 63 0 3 #[31, 39, 47, 55], 31) := by decide +kernel
theorem dX9_count_32 : decode cX9_count 32 = .ok (.aload_n 0, 1) := by decide +kernel
theorem dX9_count_33 : decode cX9_count 33 = .ok (.getfield 28, 3) := by decide +kernel
theorem dX9_count_36 : decode cX9_count 36 = .ok (.getfield 223, 3) := by decide +kernel
theorem dX9_count_39 : decode cX9_count 39 = .ok (.ireturn, 1) := by decide +kernel
theorem dX9_count_40 : decode cX9_count 40 = .ok (.aload_n 0, 1) := by decide +kernel
theorem dX9_count_41 : decode cX9_count 41 = .ok (.getfield 28, 3) := by decide +kernel
theorem dX9_count_44 : decode cX9_count 44 = .ok (.getfield 256, 3) := by decide +kernel
theorem dX9_count_47 : decode cX9_count 47 = .ok (.ireturn, 1) := by decide +kernel
theorem dX9_count_48 : decode cX9_count 48 = .ok (.aload_n 0, 1) := by decide +kernel
theorem dX9_count_49 : decode cX9_count 49 = .ok (.getfield 28, 3) := by decide +kernel
theorem dX9_count_52 : decode cX9_count 52 = .ok (.invokevirtual 259, 3) := by decide +kernel
theorem dX9_count_55 : decode cX9_count 55 = .ok (.ireturn, 1) := by decide +kernel
theorem dX9_count_56 : decode cX9_count 56 = .ok (.aload_n 0, 1) := by decide +kernel
theorem dX9_count_57 : decode cX9_count 57 = .ok (.getfield 12, 3) := by decide +kernel
theorem dX9_count_60 : decode cX9_count 60 = .ok (.getfield 107, 3) := by decide +kernel
theorem dX9_count_63 : decode cX9_count 63 = .ok (.ireturn, 1) := by decide +kernel
theorem dX9_count_64 : decode cX9_count 64 = .ok (.iconst (-1), 1) := by decide +kernel
theorem dX9_count_65 : decode cX9_count 65 = .ok (.ireturn, 1) := by decide +kernel
theorem dX9_trace_0 : decode cX9_trace 0 = .ok (.aload_n 0, 1) := by decide +kernel
theorem dX9_trace_1 : decode cX9_trace 1 = .ok (.getfield 88, 3) := by decide +kernel
theorem dX9_trace_4 : decode cX9_trace 4 = .ok (.lreturn, 1) := by decide +kernel
set_option maxRecDepth 20000 in
theorem ggX9_startAnew_X4_list : GoodIn wsX9_startAnew wsX4_list := goodIn_r _ [12, 13, 14, 15, 16, 17, 18, 19, 11, 20, 21, 22, 23, 24, 25, 26, 27, 28, 29, 30, 31, 32, 33, 34, 35, 36, 37, 38, 39, 40, 41, 42, 43, 44, 45, 46, 47, 48, 49, 50, 180, 181, 182, 183, 184, 185, 186, 187, 188, 189, 190, 191, 192, 193, 194, 195, 196, 197] (by decide +kernel) (by decide +kernel)
set_option maxRecDepth 20000 in
theorem gX9_startAnew_X4_list : GoodIn wsX9_startAnew (wsV RX9 262 RX4 yX4_list wsX4_list) := goodIn_app (goodIn_of _ (by decide +kernel)) ggX9_startAnew_X4_list
set_option maxRecDepth 20000 in
theorem ggX9_startAnew_X7_reckon : GoodIn wsX9_startAnew wsX7_reckon := goodIn_r _ [55, 56, 57, 58, 59, 37, 60, 50, 61, 62, 63, 54, 64, 65, 66, 67, 68, 69, 30, 70, 198, 188, 189, 190, 191, 192, 193, 194, 195, 196, 197, 180, 181, 182, 183, 184, 185, 186, 187] (by decide +kernel) (by decide +kernel)
set_option maxRecDepth 20000 in
theorem gX9_startAnew_X7_reckon : GoodIn wsX9_startAnew (wsV RX9 265 RX7 yX7_reckon wsX7_reckon) := goodIn_app (goodIn_of _ (by decide +kernel)) ggX9_startAnew_X7_reckon
set_option maxRecDepth 20000 in
theorem ggX9_startAnew_X0_reckon : GoodIn wsX9_startAnew wsX0_reckon := goodIn_r _ [75, 76, 77, 78, 79, 80, 81, 82, 58, 59, 37, 60, 50, 83, 84, 85, 74, 86, 87, 88, 89, 90, 30, 91, 92, 93, 94, 95, 96, 97, 41, 42, 43, 44, 45, 46, 47, 48, 49, 98, 99, 100, 101, 29, 31, 102, 103, 104, 105, 106, 107, 199, 200, 188, 189, 190, 191, 192, 193, 194, 195, 196, 197] (by decide +kernel) (by decide +kernel)
set_option maxRecDepth 20000 in
theorem gX9_startAnew_X0_reckon : GoodIn wsX9_startAnew (wsV RX9 269 RX0 yX0_reckon wsX0_reckon) := goodIn_app (goodIn_of _ (by decide +kernel)) ggX9_startAnew_X0_reckon
set_option maxRecDepth 20000 in
theorem ggX9_startAnew_X1_reckon : GoodIn wsX9_startAnew wsX1_reckon := goodIn_r _ [112, 113, 114, 115, 116, 117, 118, 119, 120, 121, 122, 79, 80, 81, 123, 124, 125, 111, 126, 127, 128, 129, 130, 131, 132, 133, 134, 135, 136, 137, 138, 139, 140, 141, 142, 143, 144, 145, 146, 147, 148, 201, 202, 203, 204, 205, 180, 181, 182, 183, 184, 185, 186, 187, 188, 189, 190, 191, 192, 193, 194, 195, 196, 197] (by decide +kernel) (by decide +kernel)
set_option maxRecDepth 20000 in
theorem gX9_startAnew_X1_reckon : GoodIn wsX9_startAnew (wsV RX9 271 RX1 yX1_reckon wsX1_reckon) := goodIn_app (goodIn_of _ (by decide +kernel)) ggX9_startAnew_X1_reckon
set_option maxRecDepth 20000 in
theorem ggX9_startAnew_X2_begin : GoodIn wsX9_startAnew wsX2_begin := goodIn_r _ [153, 154, 155, 156, 157, 158, 206, 207, 208, 209, 210, 211, 212] (by decide +kernel) (by decide +kernel)
set_option maxRecDepth 20000 in
theorem gX9_startAnew_X2_begin : GoodIn wsX9_startAnew (wsV RX9 189 RX2 yX2_begin wsX2_begin) := goodIn_app (goodIn_of _ (by decide +kernel)) ggX9_startAnew_X2_begin
set_option maxRecDepth 20000 in
theorem ggX9_startAnew_X2_bearAsTold : GoodIn wsX9_startAnew wsX2_bearAsTold := goodIn_r _ [162, 163, 164, 165, 188, 189, 190, 191, 192, 193, 194, 195, 196, 197, 206, 207, 208, 209, 210, 211, 212] (by decide +kernel) (by decide +kernel)
set_option maxRecDepth 20000 in
theorem gX9_startAnew_X2_bearAsTold : GoodIn wsX9_startAnew (wsV RX9 272 RX2 yX2_bearAsTold wsX2_bearAsTold) := goodIn_app (goodIn_of _ (by decide +kernel)) ggX9_startAnew_X2_bearAsTold
theorem dX9_startAnew_0 : decode cX9_startAnew 0 = .ok (.aload_n 0, 1) := by decide +kernel
theorem dX9_startAnew_1 : decode cX9_startAnew 1 = .ok (.getfield 38, 3) := by decide +kernel
theorem dX9_startAnew_4 : decode cX9_startAnew 4 = .ok (.aload_n 0, 1) := by decide +kernel
theorem dX9_startAnew_5 : decode cX9_startAnew 5 = .ok (.getfield 28, 3) := by decide +kernel
theorem dX9_startAnew_8 : decode cX9_startAnew 8 = .ok (.invokevirtual 262, 3) := by decide +kernel
theorem dX9_startAnew_11 : decode cX9_startAnew 11 = .ok (.aload_n 0, 1) := by decide +kernel
theorem dX9_startAnew_12 : decode cX9_startAnew 12 = .ok (.getfield 45, 3) := by decide +kernel
theorem dX9_startAnew_15 : decode cX9_startAnew 15 = .ok (.aload_n 0, 1) := by decide +kernel
theorem dX9_startAnew_16 : decode cX9_startAnew 16 = .ok (.getfield 28, 3) := by decide +kernel
theorem dX9_startAnew_19 : decode cX9_startAnew 19 = .ok (.aload_n 0, 1) := by decide +kernel
theorem dX9_startAnew_20 : decode cX9_startAnew 20 = .ok (.getfield 38, 3) := by decide +kernel
theorem dX9_startAnew_23 : decode cX9_startAnew 23 = .ok (.invokevirtual 265, 3) := by decide +kernel
theorem dX9_startAnew_26 : decode cX9_startAnew 26 = .ok (.aload_n 0, 1) := by decide +kernel
theorem dX9_startAnew_27 : decode cX9_startAnew 27 = .ok (.getfield 52, 3) := by decide +kernel
theorem dX9_startAnew_30 : decode cX9_startAnew 30 = .ok (.aload_n 0, 1) := by decide +kernel
theorem dX9_startAnew_31 : decode cX9_startAnew 31 = .ok (.getfield 28, 3) := by decide +kernel
theorem dX9_startAnew_34 : decode cX9_startAnew 34 = .ok (.invokevirtual 269, 3) := by decide +kernel
theorem dX9_startAnew_37 : decode cX9_startAnew 37 = .ok (.aload_n 0, 1) := by decide +kernel
theorem dX9_startAnew_38 : decode cX9_startAnew 38 = .ok (.getfield 59, 3) := by decide +kernel
theorem dX9_startAnew_41 : decode cX9_startAnew 41 = .ok (.aload_n 0, 1) := by decide +kernel
theorem dX9_startAnew_42 : decode cX9_startAnew 42 = .ok (.getfield 28, 3) := by decide +kernel
theorem dX9_startAnew_45 : decode cX9_startAnew 45 = .ok (.aload_n 0, 1) := by decide +kernel
theorem dX9_startAnew_46 : decode cX9_startAnew 46 = .ok (.getfield 38, 3) := by decide +kernel
theorem dX9_startAnew_49 : decode cX9_startAnew 49 = .ok (.invokevirtual 271, 3) := by decide +kernel
theorem dX9_startAnew_52 : decode cX9_startAnew 52 = .ok (.aload_n 0, 1) := by decide +kernel
theorem dX9_startAnew_53 : decode cX9_startAnew 53 = .ok (.getfield 73, 3) := by decide +kernel
theorem dX9_startAnew_56 : decode cX9_startAnew 56 = .ok (.invokevirtual 189, 3) := by decide +kernel
theorem dX9_startAnew_59 : decode cX9_startAnew 59 = .ok (.aload_n 0, 1) := by decide +kernel
theorem dX9_startAnew_60 : decode cX9_startAnew 60 = .ok (.getfield 73, 3) := by decide +kernel
theorem dX9_startAnew_63 : decode cX9_startAnew 63 = .ok (.aload_n 0, 1) := by decide +kernel
theorem dX9_startAnew_64 : decode cX9_startAnew 64 = .ok (.getfield 28, 3) := by decide +kernel
theorem dX9_startAnew_67 : decode cX9_startAnew 67 = .ok (.invokevirtual 272, 3) := by decide +kernel
theorem dX9_startAnew_70 : decode cX9_startAnew 70 = .ok (.iconst 0, 1) := by decide +kernel
theorem dX9_startAnew_71 : decode cX9_startAnew 71 = .ok (.istore_n 1, 1) := by decide +kernel
theorem dX9_startAnew_72 : decode cX9_startAnew 72 = .ok (.iload_n 1, 1) := by decide +kernel
theorem dX9_startAnew_73 : decode cX9_startAnew 73 = .ok (.iconst 2, 1) := by decide +kernel
theorem dX9_startAnew_74 : decode cX9_startAnew 74 = .ok (.if_icmp .ge 16, 3) := by decide +kernel
theorem dX9_startAnew_77 : decode cX9_startAnew 77 = .ok (.aload_n 0, 1) := by decide +kernel
theorem dX9_startAnew_78 : decode cX9_startAnew 78 = .ok (.getfield 84, 3) := by decide +kernel
theorem dX9_startAnew_81 : decode cX9_startAnew 81 = .ok (.iload_n 1, 1) := by decide +kernel
theorem dX9_startAnew_82 : decode cX9_startAnew 82 = .ok (.iconst 0, 1) := by decide +kernel
theorem dX9_startAnew_83 : decode cX9_startAnew 83 = .ok (.bastore, 1) := by decide +kernel
theorem dX9_startAnew_84 : decode cX9_startAnew 84 = .ok (.iinc 1 1, 3) := by decide +kernel
theorem dX9_startAnew_87 : decode cX9_startAnew 87 = .ok (.goto (-15), 3) := by decide +kernel
theorem dX9_startAnew_90 : decode cX9_startAnew 90 = .ok (.return_, 1) := by decide +kernel
set_option maxRecDepth 20000 in
theorem ggX9_areTwo_X3_hasHalf : GoodIn wsX9_areTwo wsX3_hasHalf := goodIn_r _ [6, 7, 22, 23, 24, 25, 26, 27, 28, 29, 30, 31] (by decide +kernel) (by decide +kernel)
set_option maxRecDepth 20000 in
theorem gX9_areTwo_X3_hasHalf : GoodIn wsX9_areTwo (wsV RX9 114 RX3 yX3_hasHalf wsX3_hasHalf) := goodIn_app (goodIn_of _ (by decide +kernel)) ggX9_areTwo_X3_hasHalf
theorem dX9_areTwo_0 : decode cX9_areTwo 0 = .ok (.aload_n 0, 1) := by decide +kernel
theorem dX9_areTwo_1 : decode cX9_areTwo 1 = .ok (.getfield 28, 3) := by decide +kernel
theorem dX9_areTwo_4 : decode cX9_areTwo 4 = .ok (.iload_n 1, 1) := by decide +kernel
theorem dX9_areTwo_5 : decode cX9_areTwo 5 = .ok (.invokevirtual 114, 3) := by decide +kernel
theorem dX9_areTwo_8 : decode cX9_areTwo 8 = .ok (.ifCond .eq 23, 3) := by decide +kernel
theorem dX9_areTwo_11 : decode cX9_areTwo 11 = .ok (.aload_n 0, 1) := by decide +kernel
theorem dX9_areTwo_12 : decode cX9_areTwo 12 = .ok (.getfield 28, 3) := by decide +kernel
theorem dX9_areTwo_15 : decode cX9_areTwo 15 = .ok (.iload_n 2, 1) := by decide +kernel
theorem dX9_areTwo_16 : decode cX9_areTwo 16 = .ok (.invokevirtual 114, 3) := by decide +kernel
theorem dX9_areTwo_19 : decode cX9_areTwo 19 = .ok (.ifCond .eq 12, 3) := by decide +kernel
theorem dX9_areTwo_22 : decode cX9_areTwo 22 = .ok (.iload_n 1, 1) := by decide +kernel
theorem dX9_areTwo_23 : decode cX9_areTwo 23 = .ok (.iload_n 2, 1) := by decide +kernel
theorem dX9_areTwo_24 : decode cX9_areTwo 24 = .ok (.if_icmp .eq 7, 3) := by decide +kernel
theorem dX9_areTwo_27 : decode cX9_areTwo 27 = .ok (.iconst 1, 1) := by decide +kernel
theorem dX9_areTwo_28 : decode cX9_areTwo 28 = .ok (.goto 4, 3) := by decide +kernel
theorem dX9_areTwo_31 : decode cX9_areTwo 31 = .ok (.iconst 0, 1) := by decide +kernel
theorem dX9_areTwo_32 : decode cX9_areTwo 32 = .ok (.ireturn, 1) := by decide +kernel
theorem dX9_isImage_0 : decode cX9_isImage 0 = .ok (.iload_n 0, 1) := by decide +kernel
theorem dX9_isImage_1 : decode cX9_isImage 1 = .ok (.ifCond .lt 12, 3) := by decide +kernel
theorem dX9_isImage_4 : decode cX9_isImage 4 = .ok (.iload_n 0, 1) := by decide +kernel
theorem dX9_isImage_5 : decode cX9_isImage 5 = .ok (.iconst 2, 1) := by decide +kernel
theorem dX9_isImage_6 : decode cX9_isImage 6 = .ok (.if_icmp .ge 7, 3) := by decide +kernel
theorem dX9_isImage_9 : decode cX9_isImage 9 = .ok (.iconst 1, 1) := by decide +kernel
theorem dX9_isImage_10 : decode cX9_isImage 10 = .ok (.goto 4, 3) := by decide +kernel
theorem dX9_isImage_13 : decode cX9_isImage 13 = .ok (.iconst 0, 1) := by decide +kernel
theorem dX9_isImage_14 : decode cX9_isImage 14 = .ok (.ireturn, 1) := by decide +kernel
theorem dX9_greatestDivisor_0 : decode cX9_greatestDivisor 0 = .ok (.iload_n 0, 1) := by decide +kernel
theorem dX9_greatestDivisor_1 : decode cX9_greatestDivisor 1 = .ok (.istore_n 2, 1) := by decide +kernel
theorem dX9_greatestDivisor_2 : decode cX9_greatestDivisor 2 = .ok (.iload_n 1, 1) := by decide +kernel
theorem dX9_greatestDivisor_3 : decode cX9_greatestDivisor 3 = .ok (.istore_n 3, 1) := by decide +kernel
theorem dX9_greatestDivisor_4 : decode cX9_greatestDivisor 4 = .ok (.iconst 0, 1) := by decide +kernel
theorem dX9_greatestDivisor_5 : decode cX9_greatestDivisor 5 = .ok (.istore 4, 2) := by decide +kernel
theorem dX9_greatestDivisor_7 : decode cX9_greatestDivisor 7 = .ok (.iload 4, 2) := by decide +kernel
theorem dX9_greatestDivisor_9 : decode cX9_greatestDivisor 9 = .ok (.bipush 100, 2) := by decide +kernel
theorem dX9_greatestDivisor_11 : decode cX9_greatestDivisor 11 = .ok (.if_icmp .ge 23, 3) := by decide +kernel
theorem dX9_greatestDivisor_14 : decode cX9_greatestDivisor 14 = .ok (.iload_n 3, 1) := by decide +kernel
theorem dX9_greatestDivisor_15 : decode cX9_greatestDivisor 15 = .ok (.ifCond .eq 19, 3) := by decide +kernel
theorem dX9_greatestDivisor_18 : decode cX9_greatestDivisor 18 = .ok (.iload_n 2, 1) := by decide +kernel
theorem dX9_greatestDivisor_19 : decode cX9_greatestDivisor 19 = .ok (.iload_n 3, 1) := by decide +kernel
theorem dX9_greatestDivisor_20 : decode cX9_greatestDivisor 20 = .ok (.irem, 1) := by decide +kernel
theorem dX9_greatestDivisor_21 : decode cX9_greatestDivisor 21 = .ok (.istore 5, 2) := by decide +kernel
theorem dX9_greatestDivisor_23 : decode cX9_greatestDivisor 23 = .ok (.iload_n 3, 1) := by decide +kernel
theorem dX9_greatestDivisor_24 : decode cX9_greatestDivisor 24 = .ok (.istore_n 2, 1) := by decide +kernel
theorem dX9_greatestDivisor_25 : decode cX9_greatestDivisor 25 = .ok (.iload 5, 2) := by decide +kernel
theorem dX9_greatestDivisor_27 : decode cX9_greatestDivisor 27 = .ok (.istore_n 3, 1) := by decide +kernel
theorem dX9_greatestDivisor_28 : decode cX9_greatestDivisor 28 = .ok (.iinc 4 1, 3) := by decide +kernel
theorem dX9_greatestDivisor_31 : decode cX9_greatestDivisor 31 = .ok (.goto (-24), 3) := by decide +kernel
theorem dX9_greatestDivisor_34 : decode cX9_greatestDivisor 34 = .ok (.iload_n 2, 1) := by decide +kernel
theorem dX9_greatestDivisor_35 : decode cX9_greatestDivisor 35 = .ok (.ireturn, 1) := by decide +kernel
set_option maxRecDepth 20000 in
theorem ggX9_markAs_X3_hasHalf : GoodIn wsX9_markAs wsX3_hasHalf := goodIn_r _ [15, 16, 41, 42, 43, 44, 45, 46, 47, 48, 49, 50] (by decide +kernel) (by decide +kernel)
set_option maxRecDepth 20000 in
theorem gX9_markAs_X3_hasHalf : GoodIn wsX9_markAs (wsV RX9 114 RX3 yX3_hasHalf wsX3_hasHalf) := goodIn_app (goodIn_of _ (by decide +kernel)) ggX9_markAs_X3_hasHalf
set_option maxRecDepth 20000 in
theorem ggX9_markAs_X9_markAs : GoodIn wsX9_markAs wsX9_markAs := goodIn_r _ [0, 1, 2, 3, 4, 5, 6, 7, 8, 9, 10, 11, 12, 13, 14, 15, 16, 17, 18, 19, 20, 21, 22, 23, 24, 25, 26, 27, 28, 29, 30, 31, 32, 33, 34, 35, 36, 37, 38, 39, 40, 41, 42, 43, 44, 45, 46, 47, 48, 49, 50, 51, 52, 53, 54, 55, 56, 57, 58, 59, 60, 61, 62, 63, 64, 65] (by decide +kernel) (by decide +kernel)
set_option maxRecDepth 20000 in
theorem gX9_markAs_X9_markAs : GoodIn wsX9_markAs (va_wsS RX9 249 yX9_markAs wsX9_markAs) := goodIn_app (goodIn_of _ (by decide +kernel)) ggX9_markAs_X9_markAs
set_option maxRecDepth 20000 in
theorem ggX9_markAs_X4_howManyWith : GoodIn wsX9_markAs wsX4_howManyWith := goodIn_r _ [24, 25, 26, 58, 59, 60, 61, 62, 63, 64, 65] (by decide +kernel) (by decide +kernel)
set_option maxRecDepth 20000 in
theorem gX9_markAs_X4_howManyWith : GoodIn wsX9_markAs (wsV RX9 281 RX4 yX4_howManyWith wsX4_howManyWith) := goodIn_app (goodIn_of _ (by decide +kernel)) ggX9_markAs_X4_howManyWith
theorem dX9_markAs_0 : decode cX9_markAs 0 = .ok (.iload_n 3, 1) := by decide +kernel
theorem dX9_markAs_1 : decode cX9_markAs 1 = .ok (.iconst 5, 1) := by decide +kernel
theorem dX9_markAs_2 : decode cX9_markAs 2 = .ok (.if_icmp .gt 23, 3) := by decide +kernel
theorem dX9_markAs_5 : decode cX9_markAs 5 = .ok (.iload_n 1, 1) := by decide +kernel
theorem dX9_markAs_6 : decode cX9_markAs 6 = .ok (.ifCond .lt 19, 3) := by decide +kernel
theorem dX9_markAs_9 : decode cX9_markAs 9 = .ok (.iload_n 1, 1) := by decide +kernel
theorem dX9_markAs_10 : decode cX9_markAs 10 = .ok (.iconst 5, 1) := by decide +kernel
theorem dX9_markAs_11 : decode cX9_markAs 11 = .ok (.if_icmp .gt 14, 3) := by decide +kernel
theorem dX9_markAs_14 : decode cX9_markAs 14 = .ok (.aload_n 0, 1) := by decide +kernel
theorem dX9_markAs_15 : decode cX9_markAs 15 = .ok (.getfield 28, 3) := by decide +kernel
theorem dX9_markAs_18 : decode cX9_markAs 18 = .ok (.iload_n 2, 1) := by decide +kernel
theorem dX9_markAs_19 : decode cX9_markAs 19 = .ok (.invokevirtual 114, 3) := by decide +kernel
theorem dX9_markAs_22 : decode cX9_markAs 22 = .ok (.ifCond .ne 5, 3) := by decide +kernel
theorem dX9_markAs_25 : decode cX9_markAs 25 = .ok (.iconst 0, 1) := by decide +kernel
theorem dX9_markAs_26 : decode cX9_markAs 26 = .ok (.ireturn, 1) := by decide +kernel
theorem dX9_markAs_27 : decode cX9_markAs 27 = .ok (.aload_n 0, 1) := by decide +kernel
theorem dX9_markAs_28 : decode cX9_markAs 28 = .ok (.dup, 1) := by decide +kernel
theorem dX9_markAs_29 : decode cX9_markAs 29 = .ok (.getfield 88, 3) := by decide +kernel
theorem dX9_markAs_32 : decode cX9_markAs 32 = .ok (.getstatic 275, 3) := by decide +kernel
theorem dX9_markAs_35 : decode cX9_markAs 35 = .ok (.iload_n 1, 1) := by decide +kernel
theorem dX9_markAs_36 : decode cX9_markAs 36 = .ok (.iaload, 1) := by decide +kernel
theorem dX9_markAs_37 : decode cX9_markAs 37 = .ok (.i2l, 1) := by decide +kernel
theorem dX9_markAs_38 : decode cX9_markAs 38 = .ok (.ladd, 1) := by decide +kernel
theorem dX9_markAs_39 : decode cX9_markAs 39 = .ok (.putfield 88, 3) := by decide +kernel
theorem dX9_markAs_42 : decode cX9_markAs 42 = .ok (.iload_n 1, 1) := by decide +kernel
theorem dX9_markAs_43 : decode cX9_markAs 43 = .ok (.ifCond .ne 13, 3) := by decide +kernel
theorem dX9_markAs_46 : decode cX9_markAs 46 = .ok (.aload_n 0, 1) := by decide +kernel
theorem dX9_markAs_47 : decode cX9_markAs 47 = .ok (.getfield 28, 3) := by decide +kernel
theorem dX9_markAs_50 : decode cX9_markAs 50 = .ok (.getfield 125, 3) := by decide +kernel
theorem dX9_markAs_53 : decode cX9_markAs 53 = .ok (.iload_n 2, 1) := by decide +kernel
theorem dX9_markAs_54 : decode cX9_markAs 54 = .ok (.iaload, 1) := by decide +kernel
theorem dX9_markAs_55 : decode cX9_markAs 55 = .ok (.ireturn, 1) := by decide +kernel
theorem dX9_markAs_56 : decode cX9_markAs 56 = .ok (.aload_n 0, 1) := by decide +kernel
theorem dX9_markAs_57 : decode cX9_markAs 57 = .ok (.getstatic 278, 3) := by decide +kernel
theorem dX9_markAs_60 : decode cX9_markAs 60 = .ok (.iload_n 1, 1) := by decide +kernel
theorem dX9_markAs_61 : decode cX9_markAs 61 = .ok (.iaload, 1) := by decide +kernel
theorem dX9_markAs_62 : decode cX9_markAs 62 = .ok (.iload_n 2, 1) := by decide +kernel
theorem dX9_markAs_63 : decode cX9_markAs 63 = .ok (.iload_n 3, 1) := by decide +kernel
theorem dX9_markAs_64 : decode cX9_markAs 64 = .ok (.iconst 1, 1) := by decide +kernel
theorem dX9_markAs_65 : decode cX9_markAs 65 = .ok (.iadd, 1) := by decide +kernel
theorem dX9_markAs_66 : decode cX9_markAs 66 = .ok (.invokestatic 249, 3) := by decide +kernel
theorem dX9_markAs_69 : decode cX9_markAs 69 = .ok (.istore 4, 2) := by decide +kernel
theorem dX9_markAs_71 : decode cX9_markAs 71 = .ok (.iload_n 1, 1) := by decide +kernel
theorem dX9_markAs_72 : decode cX9_markAs 72 = .ok (.tableswitch 75 1 4 #[32, 45, 50, 63], 32) := by decide +kernel
theorem dX9_markAs_104 : decode cX9_markAs 104 = .ok (.iload 4, 2) := by decide +kernel
theorem dX9_markAs_106 : decode cX9_markAs 106 = .ok (.aload_n 0, 1) := by decide +kernel
theorem dX9_markAs_107 : decode cX9_markAs 107 = .ok (.getfield 28, 3) := by decide +kernel
theorem dX9_markAs_110 : decode cX9_markAs 110 = .ok (.getfield 122, 3) := by decide +kernel
theorem dX9_markAs_113 : decode cX9_markAs 113 = .ok (.iload_n 2, 1) := by decide +kernel
theorem dX9_markAs_114 : decode cX9_markAs 114 = .ok (.iaload, 1) := by decide +kernel
theorem dX9_markAs_115 : decode cX9_markAs 115 = .ok (.isub, 1) := by decide +kernel
theorem dX9_markAs_116 : decode cX9_markAs 116 = .ok (.ireturn, 1) := by decide +kernel
theorem dX9_markAs_117 : decode cX9_markAs 117 = .ok (.iload 4, 2) := by decide +kernel
theorem dX9_markAs_119 : decode cX9_markAs 119 = .ok (.iconst 2, 1) := by decide +kernel
theorem dX9_markAs_120 : decode cX9_markAs 120 = .ok (.imul, 1) := by decide +kernel
theorem dX9_markAs_121 : decode cX9_markAs 121 = .ok (.ireturn, 1) := by decide +kernel
theorem dX9_markAs_122 : decode cX9_markAs 122 = .ok (.iload 4, 2) := by decide +kernel
theorem dX9_markAs_124 : decode cX9_markAs 124 = .ok (.aload_n 0, 1) := by decide +kernel
theorem dX9_markAs_125 : decode cX9_markAs 125 = .ok (.getfield 28, 3) := by decide +kernel
theorem dX9_markAs_128 : decode cX9_markAs 128 = .ok (.getfield 128, 3) := by decide +kernel
theorem dX9_markAs_131 : decode cX9_markAs 131 = .ok (.iload_n 2, 1) := by decide +kernel
theorem dX9_markAs_132 : decode cX9_markAs 132 = .ok (.iaload, 1) := by decide +kernel
theorem dX9_markAs_133 : decode cX9_markAs 133 = .ok (.iadd, 1) := by decide +kernel
theorem dX9_markAs_134 : decode cX9_markAs 134 = .ok (.ireturn, 1) := by decide +kernel
theorem dX9_markAs_135 : decode cX9_markAs 135 = .ok (.iload 4, 2) := by decide +kernel
theorem dX9_markAs_137 : decode cX9_markAs 137 = .ok (.aload_n 0, 1) := by decide +kernel
theorem dX9_markAs_138 : decode cX9_markAs 138 = .ok (.getfield 38, 3) := by decide +kernel
theorem dX9_markAs_141 : decode cX9_markAs 141 = .ok (.iload_n 2, 1) := by decide +kernel
theorem dX9_markAs_142 : decode cX9_markAs 142 = .ok (.invokevirtual 281, 3) := by decide +kernel
theorem dX9_markAs_145 : decode cX9_markAs 145 = .ok (.iadd, 1) := by decide +kernel
theorem dX9_markAs_146 : decode cX9_markAs 146 = .ok (.ireturn, 1) := by decide +kernel
theorem dX9_markAs_147 : decode cX9_markAs 147 = .ok (.iload 4, 2) := by decide +kernel
theorem dX9_markAs_149 : decode cX9_markAs 149 = .ok (.aload_n 0, 1) := by decide +kernel
theorem dX9_markAs_150 : decode cX9_markAs 150 = .ok (.getfield 73, 3) := by decide +kernel
theorem dX9_markAs_153 : decode cX9_markAs 153 = .ok (.getfield 174, 3) := by decide +kernel
theorem dX9_markAs_156 : decode cX9_markAs 156 = .ok (.iadd, 1) := by decide +kernel
theorem dX9_markAs_157 : decode cX9_markAs 157 = .ok (.ireturn, 1) := by decide +kernel
set_option maxRecDepth 20000 in
theorem ggX9_restsFrom_X1_isRest : GoodIn wsX9_restsFrom wsX1_isRest := goodIn_r _ [9, 10, 11, 12, 13, 14, 15, 8, 16, 17, 18, 22, 23, 24, 25, 26, 27, 28, 29, 30, 31, 32, 33, 34] (by decide +kernel) (by decide +kernel)
set_option maxRecDepth 20000 in
theorem gX9_restsFrom_X1_isRest : GoodIn wsX9_restsFrom (wsV RX9 287 RX1 yX1_isRest wsX1_isRest) := goodIn_app (goodIn_of _ (by decide +kernel)) ggX9_restsFrom_X1_isRest
set_option maxRecDepth 20000 in
theorem ggX9_restsFrom_X9_restsFrom : GoodIn wsX9_restsFrom wsX9_restsFrom := goodIn_r _ [0, 1, 2, 3, 4, 5, 6, 7, 8, 9, 10, 11, 12, 13, 14, 15, 16, 17, 18, 19, 20, 21, 22, 23, 24, 25, 26, 27, 28, 29, 30, 31, 32, 33, 34] (by decide +kernel) (by decide +kernel)
set_option maxRecDepth 20000 in
theorem gX9_restsFrom_X9_restsFrom : GoodIn wsX9_restsFrom (va_wsS RX9 291 yX9_restsFrom wsX9_restsFrom) := goodIn_app (goodIn_of _ (by decide +kernel)) ggX9_restsFrom_X9_restsFrom
theorem dX9_restsFrom_0 : decode cX9_restsFrom 0 = .ok (.iload_n 2, 1) := by decide +kernel
theorem dX9_restsFrom_1 : decode cX9_restsFrom 1 = .ok (.aload_n 1, 1) := by decide +kernel
theorem dX9_restsFrom_2 : decode cX9_restsFrom 2 = .ok (.getfield 284, 3) := by decide +kernel
theorem dX9_restsFrom_5 : decode cX9_restsFrom 5 = .ok (.if_icmp .lt 17, 3) := by decide +kernel
theorem dX9_restsFrom_8 : decode cX9_restsFrom 8 = .ok (.aload_n 0, 1) := by decide +kernel
theorem dX9_restsFrom_9 : decode cX9_restsFrom 9 = .ok (.aload_n 1, 1) := by decide +kernel
theorem dX9_restsFrom_10 : decode cX9_restsFrom 10 = .ok (.invokevirtual 287, 3) := by decide +kernel
theorem dX9_restsFrom_13 : decode cX9_restsFrom 13 = .ok (.ifCond .eq 7, 3) := by decide +kernel
theorem dX9_restsFrom_16 : decode cX9_restsFrom 16 = .ok (.iconst 1, 1) := by decide +kernel
theorem dX9_restsFrom_17 : decode cX9_restsFrom 17 = .ok (.goto 4, 3) := by decide +kernel
theorem dX9_restsFrom_20 : decode cX9_restsFrom 20 = .ok (.iconst 0, 1) := by decide +kernel
theorem dX9_restsFrom_21 : decode cX9_restsFrom 21 = .ok (.ireturn, 1) := by decide +kernel
theorem dX9_restsFrom_22 : decode cX9_restsFrom 22 = .ok (.aload_n 0, 1) := by decide +kernel
theorem dX9_restsFrom_23 : decode cX9_restsFrom 23 = .ok (.aload_n 1, 1) := by decide +kernel
theorem dX9_restsFrom_24 : decode cX9_restsFrom 24 = .ok (.iload_n 2, 1) := by decide +kernel
theorem dX9_restsFrom_25 : decode cX9_restsFrom 25 = .ok (.iconst 1, 1) := by decide +kernel
theorem dX9_restsFrom_26 : decode cX9_restsFrom 26 = .ok (.iadd, 1) := by decide +kernel
theorem dX9_restsFrom_27 : decode cX9_restsFrom 27 = .ok (.invokestatic 291, 3) := by decide +kernel
theorem dX9_restsFrom_30 : decode cX9_restsFrom 30 = .ok (.istore_n 3, 1) := by decide +kernel
theorem dX9_restsFrom_31 : decode cX9_restsFrom 31 = .ok (.aload_n 1, 1) := by decide +kernel
theorem dX9_restsFrom_32 : decode cX9_restsFrom 32 = .ok (.getfield 295, 3) := by decide +kernel
theorem dX9_restsFrom_35 : decode cX9_restsFrom 35 = .ok (.iload_n 2, 1) := by decide +kernel
theorem dX9_restsFrom_36 : decode cX9_restsFrom 36 = .ok (.iaload, 1) := by decide +kernel
theorem dX9_restsFrom_37 : decode cX9_restsFrom 37 = .ok (.istore 4, 2) := by decide +kernel
theorem dX9_restsFrom_39 : decode cX9_restsFrom 39 = .ok (.aload_n 1, 1) := by decide +kernel
theorem dX9_restsFrom_40 : decode cX9_restsFrom 40 = .ok (.getfield 298, 3) := by decide +kernel
theorem dX9_restsFrom_43 : decode cX9_restsFrom 43 = .ok (.iload_n 2, 1) := by decide +kernel
theorem dX9_restsFrom_44 : decode cX9_restsFrom 44 = .ok (.iaload, 1) := by decide +kernel
theorem dX9_restsFrom_45 : decode cX9_restsFrom 45 = .ok (.istore 5, 2) := by decide +kernel
theorem dX9_restsFrom_47 : decode cX9_restsFrom 47 = .ok (.aload_n 0, 1) := by decide +kernel
theorem dX9_restsFrom_48 : decode cX9_restsFrom 48 = .ok (.getfield 301, 3) := by decide +kernel
theorem dX9_restsFrom_51 : decode cX9_restsFrom 51 = .ok (.iload 4, 2) := by decide +kernel
theorem dX9_restsFrom_53 : decode cX9_restsFrom 53 = .ok (.iaload, 1) := by decide +kernel
theorem dX9_restsFrom_54 : decode cX9_restsFrom 54 = .ok (.iconst (-1), 1) := by decide +kernel
theorem dX9_restsFrom_55 : decode cX9_restsFrom 55 = .ok (.if_icmp .ne 59, 3) := by decide +kernel
theorem dX9_restsFrom_58 : decode cX9_restsFrom 58 = .ok (.aload_n 0, 1) := by decide +kernel
theorem dX9_restsFrom_59 : decode cX9_restsFrom 59 = .ok (.getfield 301, 3) := by decide +kernel
theorem dX9_restsFrom_62 : decode cX9_restsFrom 62 = .ok (.iload 5, 2) := by decide +kernel
theorem dX9_restsFrom_64 : decode cX9_restsFrom 64 = .ok (.iaload, 1) := by decide +kernel
theorem dX9_restsFrom_65 : decode cX9_restsFrom 65 = .ok (.iconst (-1), 1) := by decide +kernel
theorem dX9_restsFrom_66 : decode cX9_restsFrom 66 = .ok (.if_icmp .ne 48, 3) := by decide +kernel
theorem dX9_restsFrom_69 : decode cX9_restsFrom 69 = .ok (.aload_n 0, 1) := by decide +kernel
theorem dX9_restsFrom_70 : decode cX9_restsFrom 70 = .ok (.getfield 301, 3) := by decide +kernel
theorem dX9_restsFrom_73 : decode cX9_restsFrom 73 = .ok (.iload 4, 2) := by decide +kernel
theorem dX9_restsFrom_75 : decode cX9_restsFrom 75 = .ok (.iload 5, 2) := by decide +kernel
theorem dX9_restsFrom_77 : decode cX9_restsFrom 77 = .ok (.iastore, 1) := by decide +kernel
theorem dX9_restsFrom_78 : decode cX9_restsFrom 78 = .ok (.aload_n 0, 1) := by decide +kernel
theorem dX9_restsFrom_79 : decode cX9_restsFrom 79 = .ok (.getfield 301, 3) := by decide +kernel
theorem dX9_restsFrom_82 : decode cX9_restsFrom 82 = .ok (.iload 5, 2) := by decide +kernel
theorem dX9_restsFrom_84 : decode cX9_restsFrom 84 = .ok (.iload 4, 2) := by decide +kernel
theorem dX9_restsFrom_86 : decode cX9_restsFrom 86 = .ok (.iastore, 1) := by decide +kernel
theorem dX9_restsFrom_87 : decode cX9_restsFrom 87 = .ok (.iload_n 3, 1) := by decide +kernel
theorem dX9_restsFrom_88 : decode cX9_restsFrom 88 = .ok (.aload_n 0, 1) := by decide +kernel
theorem dX9_restsFrom_89 : decode cX9_restsFrom 89 = .ok (.aload_n 1, 1) := by decide +kernel
theorem dX9_restsFrom_90 : decode cX9_restsFrom 90 = .ok (.iload_n 2, 1) := by decide +kernel
theorem dX9_restsFrom_91 : decode cX9_restsFrom 91 = .ok (.iconst 1, 1) := by decide +kernel
theorem dX9_restsFrom_92 : decode cX9_restsFrom 92 = .ok (.iadd, 1) := by decide +kernel
theorem dX9_restsFrom_93 : decode cX9_restsFrom 93 = .ok (.invokestatic 291, 3) := by decide +kernel
theorem dX9_restsFrom_96 : decode cX9_restsFrom 96 = .ok (.iadd, 1) := by decide +kernel
theorem dX9_restsFrom_97 : decode cX9_restsFrom 97 = .ok (.istore_n 3, 1) := by decide +kernel
theorem dX9_restsFrom_98 : decode cX9_restsFrom 98 = .ok (.aload_n 0, 1) := by decide +kernel
theorem dX9_restsFrom_99 : decode cX9_restsFrom 99 = .ok (.getfield 301, 3) := by decide +kernel
theorem dX9_restsFrom_102 : decode cX9_restsFrom 102 = .ok (.iload 4, 2) := by decide +kernel
theorem dX9_restsFrom_104 : decode cX9_restsFrom 104 = .ok (.iconst (-1), 1) := by decide +kernel
theorem dX9_restsFrom_105 : decode cX9_restsFrom 105 = .ok (.iastore, 1) := by decide +kernel
theorem dX9_restsFrom_106 : decode cX9_restsFrom 106 = .ok (.aload_n 0, 1) := by decide +kernel
theorem dX9_restsFrom_107 : decode cX9_restsFrom 107 = .ok (.getfield 301, 3) := by decide +kernel
theorem dX9_restsFrom_110 : decode cX9_restsFrom 110 = .ok (.iload 5, 2) := by decide +kernel
theorem dX9_restsFrom_112 : decode cX9_restsFrom 112 = .ok (.iconst (-1), 1) := by decide +kernel
theorem dX9_restsFrom_113 : decode cX9_restsFrom 113 = .ok (.iastore, 1) := by decide +kernel
theorem dX9_restsFrom_114 : decode cX9_restsFrom 114 = .ok (.iload_n 3, 1) := by decide +kernel
theorem dX9_restsFrom_115 : decode cX9_restsFrom 115 = .ok (.ireturn, 1) := by decide +kernel
theorem dX10_init_0 : decode cX10_init 0 = .ok (.aload_n 0, 1) := by decide +kernel
theorem dX10_init_1 : decode cX10_init 1 = .ok (.invokespecial 1, 3) := by decide +kernel
theorem dX10_init_4 : decode cX10_init 4 = .ok (.aload_n 0, 1) := by decide +kernel
theorem dX10_init_5 : decode cX10_init 5 = .ok (.sipush 300, 3) := by decide +kernel
theorem dX10_init_8 : decode cX10_init 8 = .ok (.newarray .byte, 2) := by decide +kernel
theorem dX10_init_10 : decode cX10_init 10 = .ok (.putfield 7, 3) := by decide +kernel
theorem dX10_init_13 : decode cX10_init 13 = .ok (.aload_n 0, 1) := by decide +kernel
theorem dX10_init_14 : decode cX10_init 14 = .ok (.iconst 2, 1) := by decide +kernel
theorem dX10_init_15 : decode cX10_init 15 = .ok (.newarray .int, 2) := by decide +kernel
theorem dX10_init_17 : decode cX10_init 17 = .ok (.putfield 13, 3) := by decide +kernel
theorem dX10_init_20 : decode cX10_init 20 = .ok (.aload_n 0, 1) := by decide +kernel
theorem dX10_init_21 : decode cX10_init 21 = .ok (.bipush 16, 2) := by decide +kernel
theorem dX10_init_23 : decode cX10_init 23 = .ok (.newarray .int, 2) := by decide +kernel
theorem dX10_init_25 : decode cX10_init 25 = .ok (.putfield 17, 3) := by decide +kernel
theorem dX10_init_28 : decode cX10_init 28 = .ok (.aload_n 0, 1) := by decide +kernel
theorem dX10_init_29 : decode cX10_init 29 = .ok (.bipush 16, 2) := by decide +kernel
theorem dX10_init_31 : decode cX10_init 31 = .ok (.newarray .int, 2) := by decide +kernel
theorem dX10_init_33 : decode cX10_init 33 = .ok (.putfield 20, 3) := by decide +kernel
theorem dX10_init_36 : decode cX10_init 36 = .ok (.aload_n 0, 1) := by decide +kernel
theorem dX10_init_37 : decode cX10_init 37 = .ok (.bipush 16, 2) := by decide +kernel
theorem dX10_init_39 : decode cX10_init 39 = .ok (.newarray .int, 2) := by decide +kernel
theorem dX10_init_41 : decode cX10_init 41 = .ok (.putfield 23, 3) := by decide +kernel
theorem dX10_init_44 : decode cX10_init 44 = .ok (.aload_n 0, 1) := by decide +kernel
theorem dX10_init_45 : decode cX10_init 45 = .ok (.bipush 16, 2) := by decide +kernel
theorem dX10_init_47 : decode cX10_init 47 = .ok (.newarray .int, 2) := by decide +kernel
theorem dX10_init_49 : decode cX10_init 49 = .ok (.putfield 26, 3) := by decide +kernel
theorem dX10_init_52 : decode cX10_init 52 = .ok (.aload_n 0, 1) := by decide +kernel
theorem dX10_init_53 : decode cX10_init 53 = .ok (.sipush 128, 3) := by decide +kernel
theorem dX10_init_56 : decode cX10_init 56 = .ok (.newarray .boolean, 2) := by decide +kernel
theorem dX10_init_58 : decode cX10_init 58 = .ok (.putfield 29, 3) := by decide +kernel
theorem dX10_init_61 : decode cX10_init 61 = .ok (.aload_n 0, 1) := by decide +kernel
theorem dX10_init_62 : decode cX10_init 62 = .ok (.iconst 2, 1) := by decide +kernel
theorem dX10_init_63 : decode cX10_init 63 = .ok (.newarray .int, 2) := by decide +kernel
theorem dX10_init_65 : decode cX10_init 65 = .ok (.putfield 33, 3) := by decide +kernel
theorem dX10_init_68 : decode cX10_init 68 = .ok (.aload_n 0, 1) := by decide +kernel
theorem dX10_init_69 : decode cX10_init 69 = .ok (.bipush 10, 2) := by decide +kernel
theorem dX10_init_71 : decode cX10_init 71 = .ok (.newarray .int, 2) := by decide +kernel
theorem dX10_init_73 : decode cX10_init 73 = .ok (.putfield 36, 3) := by decide +kernel
theorem dX10_init_76 : decode cX10_init 76 = .ok (.aload_n 0, 1) := by decide +kernel
theorem dX10_init_77 : decode cX10_init 77 = .ok (.bipush 10, 2) := by decide +kernel
theorem dX10_init_79 : decode cX10_init 79 = .ok (.newarray .int, 2) := by decide +kernel
theorem dX10_init_81 : decode cX10_init 81 = .ok (.putfield 39, 3) := by decide +kernel
theorem dX10_init_84 : decode cX10_init 84 = .ok (.aload_n 0, 1) := by decide +kernel
theorem dX10_init_85 : decode cX10_init 85 = .ok (.bipush 10, 2) := by decide +kernel
theorem dX10_init_87 : decode cX10_init 87 = .ok (.newarray .int, 2) := by decide +kernel
theorem dX10_init_89 : decode cX10_init 89 = .ok (.putfield 42, 3) := by decide +kernel
theorem dX10_init_92 : decode cX10_init 92 = .ok (.aload_n 0, 1) := by decide +kernel
theorem dX10_init_93 : decode cX10_init 93 = .ok (.bipush 48, 2) := by decide +kernel
theorem dX10_init_95 : decode cX10_init 95 = .ok (.newarray .int, 2) := by decide +kernel
theorem dX10_init_97 : decode cX10_init 97 = .ok (.putfield 45, 3) := by decide +kernel
theorem dX10_init_100 : decode cX10_init 100 = .ok (.aload_n 0, 1) := by decide +kernel
theorem dX10_init_101 : decode cX10_init 101 = .ok (.iconst 2, 1) := by decide +kernel
theorem dX10_init_102 : decode cX10_init 102 = .ok (.newarray .boolean, 2) := by decide +kernel
theorem dX10_init_104 : decode cX10_init 104 = .ok (.putfield 48, 3) := by decide +kernel
theorem dX10_init_107 : decode cX10_init 107 = .ok (.aload_n 0, 1) := by decide +kernel
theorem dX10_init_108 : decode cX10_init 108 = .ok (.sipush 1536, 3) := by decide +kernel
theorem dX10_init_111 : decode cX10_init 111 = .ok (.newarray .int, 2) := by decide +kernel
theorem dX10_init_113 : decode cX10_init 113 = .ok (.putfield 51, 3) := by decide +kernel
theorem dX10_init_116 : decode cX10_init 116 = .ok (.aload_n 0, 1) := by decide +kernel
theorem dX10_init_117 : decode cX10_init 117 = .ok (.iconst 5, 1) := by decide +kernel
theorem dX10_init_118 : decode cX10_init 118 = .ok (.newarray .int, 2) := by decide +kernel
theorem dX10_init_120 : decode cX10_init 120 = .ok (.putfield 54, 3) := by decide +kernel
theorem dX10_init_123 : decode cX10_init 123 = .ok (.aload_n 0, 1) := by decide +kernel
theorem dX10_init_124 : decode cX10_init 124 = .ok (.sipush 256, 3) := by decide +kernel
theorem dX10_init_127 : decode cX10_init 127 = .ok (.newarray .int, 2) := by decide +kernel
theorem dX10_init_129 : decode cX10_init 129 = .ok (.putfield 57, 3) := by decide +kernel
theorem dX10_init_132 : decode cX10_init 132 = .ok (.aload_n 0, 1) := by decide +kernel
theorem dX10_init_133 : decode cX10_init 133 = .ok (.bipush 8, 2) := by decide +kernel
theorem dX10_init_135 : decode cX10_init 135 = .ok (.newarray .int, 2) := by decide +kernel
theorem dX10_init_137 : decode cX10_init 137 = .ok (.putfield 60, 3) := by decide +kernel
theorem dX10_init_140 : decode cX10_init 140 = .ok (.aload_n 0, 1) := by decide +kernel
theorem dX10_init_141 : decode cX10_init 141 = .ok (.bipush 8, 2) := by decide +kernel
theorem dX10_init_143 : decode cX10_init 143 = .ok (.newarray .int, 2) := by decide +kernel
theorem dX10_init_145 : decode cX10_init 145 = .ok (.putfield 63, 3) := by decide +kernel
theorem dX10_init_148 : decode cX10_init 148 = .ok (.aload_n 0, 1) := by decide +kernel
theorem dX10_init_149 : decode cX10_init 149 = .ok (.sipush 1280, 3) := by decide +kernel
theorem dX10_init_152 : decode cX10_init 152 = .ok (.newarray .int, 2) := by decide +kernel
theorem dX10_init_154 : decode cX10_init 154 = .ok (.putfield 66, 3) := by decide +kernel
theorem dX10_init_157 : decode cX10_init 157 = .ok (.aload_n 0, 1) := by decide +kernel
theorem dX10_init_158 : decode cX10_init 158 = .ok (.sipush 1280, 3) := by decide +kernel
theorem dX10_init_161 : decode cX10_init 161 = .ok (.newarray .int, 2) := by decide +kernel
theorem dX10_init_163 : decode cX10_init 163 = .ok (.putfield 69, 3) := by decide +kernel
theorem dX10_init_166 : decode cX10_init 166 = .ok (.aload_n 0, 1) := by decide +kernel
theorem dX10_init_167 : decode cX10_init 167 = .ok (.getfield 45, 3) := by decide +kernel
theorem dX10_init_170 : decode cX10_init 170 = .ok (.iconst 5, 1) := by decide +kernel
theorem dX10_init_171 : decode cX10_init 171 = .ok (.iconst 1, 1) := by decide +kernel
theorem dX10_init_172 : decode cX10_init 172 = .ok (.iastore, 1) := by decide +kernel
theorem dX10_init_173 : decode cX10_init 173 = .ok (.return_, 1) := by decide +kernel
theorem dX10_in_0 : decode cX10_in 0 = .ok (.iload_n 0, 1) := by decide +kernel
theorem dX10_in_1 : decode cX10_in 1 = .ok (.iload_n 1, 1) := by decide +kernel
theorem dX10_in_2 : decode cX10_in 2 = .ok (.if_icmp .lt 12, 3) := by decide +kernel
theorem dX10_in_5 : decode cX10_in 5 = .ok (.iload_n 0, 1) := by decide +kernel
theorem dX10_in_6 : decode cX10_in 6 = .ok (.iload_n 2, 1) := by decide +kernel
theorem dX10_in_7 : decode cX10_in 7 = .ok (.if_icmp .gt 7, 3) := by decide +kernel
theorem dX10_in_10 : decode cX10_in 10 = .ok (.iconst 1, 1) := by decide +kernel
theorem dX10_in_11 : decode cX10_in 11 = .ok (.goto 4, 3) := by decide +kernel
theorem dX10_in_14 : decode cX10_in 14 = .ok (.iconst 0, 1) := by decide +kernel
theorem dX10_in_15 : decode cX10_in 15 = .ok (.ireturn, 1) := by decide +kernel
set_option maxRecDepth 20000 in
theorem ggX10_type_X10_in : GoodIn wsX10_type wsX10_in := goodIn_r _ [7] (by decide +kernel) (by decide +kernel)
set_option maxRecDepth 20000 in
theorem gX10_type_X10_in : GoodIn wsX10_type (va_wsS RX10 72 yX10_in wsX10_in) := goodIn_app (goodIn_of _ (by decide +kernel)) ggX10_type_X10_in
theorem dX10_type_0 : decode cX10_type 0 = .ok (.iload_n 3, 1) := by decide +kernel
theorem dX10_type_1 : decode cX10_type 1 = .ok (.iconst 1, 1) := by decide +kernel
theorem dX10_type_2 : decode cX10_type 2 = .ok (.bipush 8, 2) := by decide +kernel
theorem dX10_type_4 : decode cX10_type 4 = .ok (.invokestatic 72, 3) := by decide +kernel
theorem dX10_type_7 : decode cX10_type 7 = .ok (.ifCond .ne 5, 3) := by decide +kernel
theorem dX10_type_10 : decode cX10_type 10 = .ok (.iconst (-1), 1) := by decide +kernel
theorem dX10_type_11 : decode cX10_type 11 = .ok (.ireturn, 1) := by decide +kernel
theorem dX10_type_12 : decode cX10_type 12 = .ok (.aload_n 0, 1) := by decide +kernel
theorem dX10_type_13 : decode cX10_type 13 = .ok (.getfield 76, 3) := by decide +kernel
theorem dX10_type_16 : decode cX10_type 16 = .ok (.iload_n 3, 1) := by decide +kernel
theorem dX10_type_17 : decode cX10_type 17 = .ok (.iadd, 1) := by decide +kernel
theorem dX10_type_18 : decode cX10_type 18 = .ok (.sipush 300, 3) := by decide +kernel
theorem dX10_type_21 : decode cX10_type 21 = .ok (.if_icmp .le 6, 3) := by decide +kernel
theorem dX10_type_24 : decode cX10_type 24 = .ok (.bipush (-3), 2) := by decide +kernel
theorem dX10_type_26 : decode cX10_type 26 = .ok (.ireturn, 1) := by decide +kernel
theorem dX10_type_27 : decode cX10_type 27 = .ok (.iload_n 3, 1) := by decide +kernel
theorem dX10_type_28 : decode cX10_type 28 = .ok (.iconst 1, 1) := by decide +kernel
theorem dX10_type_29 : decode cX10_type 29 = .ok (.isub, 1) := by decide +kernel
theorem dX10_type_30 : decode cX10_type 30 = .ok (.istore 4, 2) := by decide +kernel
theorem dX10_type_32 : decode cX10_type 32 = .ok (.iload 4, 2) := by decide +kernel
theorem dX10_type_34 : decode cX10_type 34 = .ok (.ifCond .lt 41, 3) := by decide +kernel
theorem dX10_type_37 : decode cX10_type 37 = .ok (.aload_n 0, 1) := by decide +kernel
theorem dX10_type_38 : decode cX10_type 38 = .ok (.getfield 7, 3) := by decide +kernel
theorem dX10_type_41 : decode cX10_type 41 = .ok (.aload_n 0, 1) := by decide +kernel
theorem dX10_type_42 : decode cX10_type 42 = .ok (.getfield 76, 3) := by decide +kernel
theorem dX10_type_45 : decode cX10_type 45 = .ok (.lload_n 1, 1) := by decide +kernel
theorem dX10_type_46 : decode cX10_type 46 = .ok (.bipush 8, 2) := by decide +kernel
theorem dX10_type_48 : decode cX10_type 48 = .ok (.iload 4, 2) := by decide +kernel
theorem dX10_type_50 : decode cX10_type 50 = .ok (.imul, 1) := by decide +kernel
theorem dX10_type_51 : decode cX10_type 51 = .ok (.lshr, 1) := by decide +kernel
theorem dX10_type_52 : decode cX10_type 52 = .ok (.ldc2_w 80, 3) := by decide +kernel
theorem dX10_type_55 : decode cX10_type 55 = .ok (.land, 1) := by decide +kernel
theorem dX10_type_56 : decode cX10_type 56 = .ok (.l2i, 1) := by decide +kernel
theorem dX10_type_57 : decode cX10_type 57 = .ok (.i2b, 1) := by decide +kernel
theorem dX10_type_58 : decode cX10_type 58 = .ok (.bastore, 1) := by decide +kernel
theorem dX10_type_59 : decode cX10_type 59 = .ok (.aload_n 0, 1) := by decide +kernel
theorem dX10_type_60 : decode cX10_type 60 = .ok (.dup, 1) := by decide +kernel
theorem dX10_type_61 : decode cX10_type 61 = .ok (.getfield 76, 3) := by decide +kernel
theorem dX10_type_64 : decode cX10_type 64 = .ok (.iconst 1, 1) := by decide +kernel
theorem dX10_type_65 : decode cX10_type 65 = .ok (.iadd, 1) := by decide +kernel
theorem dX10_type_66 : decode cX10_type 66 = .ok (.putfield 76, 3) := by decide +kernel
theorem dX10_type_69 : decode cX10_type 69 = .ok (.iinc 4 (-1), 3) := by decide +kernel
theorem dX10_type_72 : decode cX10_type 72 = .ok (.goto (-40), 3) := by decide +kernel
theorem dX10_type_75 : decode cX10_type 75 = .ok (.aload_n 0, 1) := by decide +kernel
theorem dX10_type_76 : decode cX10_type 76 = .ok (.getfield 76, 3) := by decide +kernel
theorem dX10_type_79 : decode cX10_type 79 = .ok (.ireturn, 1) := by decide +kernel
theorem dX10_clear_0 : decode cX10_clear 0 = .ok (.aload_n 0, 1) := by decide +kernel
theorem dX10_clear_1 : decode cX10_clear 1 = .ok (.getfield 76, 3) := by decide +kernel
theorem dX10_clear_4 : decode cX10_clear 4 = .ok (.istore_n 1, 1) := by decide +kernel
theorem dX10_clear_5 : decode cX10_clear 5 = .ok (.aload_n 0, 1) := by decide +kernel
theorem dX10_clear_6 : decode cX10_clear 6 = .ok (.iconst 0, 1) := by decide +kernel
theorem dX10_clear_7 : decode cX10_clear 7 = .ok (.putfield 76, 3) := by decide +kernel
theorem dX10_clear_10 : decode cX10_clear 10 = .ok (.iload_n 1, 1) := by decide +kernel
theorem dX10_clear_11 : decode cX10_clear 11 = .ok (.ireturn, 1) := by decide +kernel
theorem dX10_here_0 : decode cX10_here 0 = .ok (.aload_n 0, 1) := by decide +kernel
theorem dX10_here_1 : decode cX10_here 1 = .ok (.getfield 82, 3) := by decide +kernel
theorem dX10_here_4 : decode cX10_here 4 = .ok (.aload_n 0, 1) := by decide +kernel
theorem dX10_here_5 : decode cX10_here 5 = .ok (.getfield 76, 3) := by decide +kernel
theorem dX10_here_8 : decode cX10_here 8 = .ok (.if_icmp .ge 19, 3) := by decide +kernel
theorem dX10_here_11 : decode cX10_here 11 = .ok (.aload_n 0, 1) := by decide +kernel
theorem dX10_here_12 : decode cX10_here 12 = .ok (.getfield 7, 3) := by decide +kernel
theorem dX10_here_15 : decode cX10_here 15 = .ok (.aload_n 0, 1) := by decide +kernel
theorem dX10_here_16 : decode cX10_here 16 = .ok (.getfield 82, 3) := by decide +kernel
theorem dX10_here_19 : decode cX10_here 19 = .ok (.baload, 1) := by decide +kernel
theorem dX10_here_20 : decode cX10_here 20 = .ok (.sipush 255, 3) := by decide +kernel
theorem dX10_here_23 : decode cX10_here 23 = .ok (.iand, 1) := by decide +kernel
theorem dX10_here_24 : decode cX10_here 24 = .ok (.goto 4, 3) := by decide +kernel
theorem dX10_here_27 : decode cX10_here 27 = .ok (.iconst (-1), 1) := by decide +kernel
theorem dX10_here_28 : decode cX10_here 28 = .ok (.ireturn, 1) := by decide +kernel
theorem dX10_meaning_0 : decode cX10_meaning 0 = .ok (.iload_n 1, 1) := by decide +kernel
theorem dX10_meaning_1 : decode cX10_meaning 1 = .ok (.ifCond .le 22, 3) := by decide +kernel
theorem dX10_meaning_4 : decode cX10_meaning 4 = .ok (.iload_n 0, 1) := by decide +kernel
theorem dX10_meaning_5 : decode cX10_meaning 5 = .ok (.ldc 85, 2) := by decide +kernel
theorem dX10_meaning_7 : decode cX10_meaning 7 = .ok (.if_icmp .ne 13, 3) := by decide +kernel
theorem dX10_meaning_10 : decode cX10_meaning 10 = .ok (.iload_n 1, 1) := by decide +kernel
theorem dX10_meaning_11 : decode cX10_meaning 11 = .ok (.bipush 12, 2) := by decide +kernel
theorem dX10_meaning_13 : decode cX10_meaning 13 = .ok (.if_icmp .ne 7, 3) := by decide +kernel
theorem dX10_meaning_16 : decode cX10_meaning 16 = .ok (.iconst 2, 1) := by decide +kernel
theorem dX10_meaning_17 : decode cX10_meaning 17 = .ok (.goto 5, 3) := by decide +kernel
theorem dX10_meaning_20 : decode cX10_meaning 20 = .ok (.bipush 7, 2) := by decide +kernel
theorem dX10_meaning_22 : decode cX10_meaning 22 = .ok (.ireturn, 1) := by decide +kernel
theorem dX10_meaning_23 : decode cX10_meaning 23 = .ok (.iload_n 0, 1) := by decide +kernel
theorem dX10_meaning_24 : decode cX10_meaning 24 = .ok (.lookupswitch 42 #[(240023, 36), (406922, 40), (9748424, 38)], 36) := by decide +kernel
theorem dX10_meaning_60 : decode cX10_meaning 60 = .ok (.iconst 0, 1) := by decide +kernel
theorem dX10_meaning_61 : decode cX10_meaning 61 = .ok (.ireturn, 1) := by decide +kernel
theorem dX10_meaning_62 : decode cX10_meaning 62 = .ok (.iconst 1, 1) := by decide +kernel
theorem dX10_meaning_63 : decode cX10_meaning 63 = .ok (.ireturn, 1) := by decide +kernel
theorem dX10_meaning_64 : decode cX10_meaning 64 = .ok (.iconst 3, 1) := by decide +kernel
theorem dX10_meaning_65 : decode cX10_meaning 65 = .ok (.ireturn, 1) := by decide +kernel
theorem dX10_meaning_66 : decode cX10_meaning 66 = .ok (.bipush 7, 2) := by decide +kernel
theorem dX10_meaning_68 : decode cX10_meaning 68 = .ok (.ireturn, 1) := by decide +kernel
set_option maxRecDepth 20000 in
theorem ggX10_next_X10_here : GoodIn wsX10_next wsX10_here := goodIn_r _ [9, 1, 10, 11, 19, 20, 21, 22, 23, 24, 25, 26, 27, 28, 29, 30, 31, 32, 33, 34, 35, 36, 37, 38, 39, 40, 41, 42, 43, 44, 45] (by decide +kernel) (by decide +kernel)
set_option maxRecDepth 20000 in
theorem gX10_next_X10_here : GoodIn wsX10_next (wsV RX10 86 RX10 yX10_here wsX10_here) := goodIn_app (goodIn_of _ (by decide +kernel)) ggX10_next_X10_here
set_option maxRecDepth 20000 in
theorem ggX10_next_X10_in : GoodIn wsX10_next wsX10_in := goodIn_r _ [14] (by decide +kernel) (by decide +kernel)
set_option maxRecDepth 20000 in
theorem gX10_next_X10_in : GoodIn wsX10_next (va_wsS RX10 72 yX10_in wsX10_in) := goodIn_app (goodIn_of _ (by decide +kernel)) ggX10_next_X10_in
set_option maxRecDepth 20000 in
theorem ggX10_next_X10_meaning : GoodIn wsX10_next wsX10_meaning := goodIn_r _ [17, 18] (by decide +kernel) (by decide +kernel)
set_option maxRecDepth 20000 in
theorem gX10_next_X10_meaning : GoodIn wsX10_next (va_wsS RX10 99 yX10_meaning wsX10_meaning) := goodIn_app (goodIn_of _ (by decide +kernel)) ggX10_next_X10_meaning
theorem dX10_next_0 : decode cX10_next 0 = .ok (.aload_n 0, 1) := by decide +kernel
theorem dX10_next_1 : decode cX10_next 1 = .ok (.invokevirtual 86, 3) := by decide +kernel
theorem dX10_next_4 : decode cX10_next 4 = .ok (.bipush 32, 2) := by decide +kernel
theorem dX10_next_6 : decode cX10_next 6 = .ok (.if_icmp .ne 16, 3) := by decide +kernel
theorem dX10_next_9 : decode cX10_next 9 = .ok (.aload_n 0, 1) := by decide +kernel
theorem dX10_next_10 : decode cX10_next 10 = .ok (.dup, 1) := by decide +kernel
theorem dX10_next_11 : decode cX10_next 11 = .ok (.getfield 82, 3) := by decide +kernel
theorem dX10_next_14 : decode cX10_next 14 = .ok (.iconst 1, 1) := by decide +kernel
theorem dX10_next_15 : decode cX10_next 15 = .ok (.iadd, 1) := by decide +kernel
theorem dX10_next_16 : decode cX10_next 16 = .ok (.putfield 82, 3) := by decide +kernel
theorem dX10_next_19 : decode cX10_next 19 = .ok (.goto (-19), 3) := by decide +kernel
theorem dX10_next_22 : decode cX10_next 22 = .ok (.aload_n 0, 1) := by decide +kernel
theorem dX10_next_23 : decode cX10_next 23 = .ok (.aload_n 0, 1) := by decide +kernel
theorem dX10_next_24 : decode cX10_next 24 = .ok (.getfield 82, 3) := by decide +kernel
theorem dX10_next_27 : decode cX10_next 27 = .ok (.putfield 90, 3) := by decide +kernel
theorem dX10_next_30 : decode cX10_next 30 = .ok (.aload_n 0, 1) := by decide +kernel
theorem dX10_next_31 : decode cX10_next 31 = .ok (.iconst 0, 1) := by decide +kernel
theorem dX10_next_32 : decode cX10_next 32 = .ok (.putfield 93, 3) := by decide +kernel
theorem dX10_next_35 : decode cX10_next 35 = .ok (.aload_n 0, 1) := by decide +kernel
theorem dX10_next_36 : decode cX10_next 36 = .ok (.invokevirtual 86, 3) := by decide +kernel
theorem dX10_next_39 : decode cX10_next 39 = .ok (.istore_n 1, 1) := by decide +kernel
theorem dX10_next_40 : decode cX10_next 40 = .ok (.iload_n 1, 1) := by decide +kernel
theorem dX10_next_41 : decode cX10_next 41 = .ok (.ifCond .ge 11, 3) := by decide +kernel
theorem dX10_next_44 : decode cX10_next 44 = .ok (.aload_n 0, 1) := by decide +kernel
theorem dX10_next_45 : decode cX10_next 45 = .ok (.iconst 4, 1) := by decide +kernel
theorem dX10_next_46 : decode cX10_next 46 = .ok (.putfield 96, 3) := by decide +kernel
theorem dX10_next_49 : decode cX10_next 49 = .ok (.goto 264, 3) := by decide +kernel
theorem dX10_next_52 : decode cX10_next 52 = .ok (.iload_n 1, 1) := by decide +kernel
theorem dX10_next_53 : decode cX10_next 53 = .ok (.bipush 97, 2) := by decide +kernel
theorem dX10_next_55 : decode cX10_next 55 = .ok (.bipush 122, 2) := by decide +kernel
theorem dX10_next_57 : decode cX10_next 57 = .ok (.invokestatic 72, 3) := by decide +kernel
theorem dX10_next_60 : decode cX10_next 60 = .ok (.ifCond .eq 112, 3) := by decide +kernel
theorem dX10_next_63 : decode cX10_next 63 = .ok (.iconst 0, 1) := by decide +kernel
theorem dX10_next_64 : decode cX10_next 64 = .ok (.istore_n 2, 1) := by decide +kernel
theorem dX10_next_65 : decode cX10_next 65 = .ok (.iconst 0, 1) := by decide +kernel
theorem dX10_next_66 : decode cX10_next 66 = .ok (.istore_n 3, 1) := by decide +kernel
theorem dX10_next_67 : decode cX10_next 67 = .ok (.aload_n 0, 1) := by decide +kernel
theorem dX10_next_68 : decode cX10_next 68 = .ok (.invokevirtual 86, 3) := by decide +kernel
theorem dX10_next_71 : decode cX10_next 71 = .ok (.bipush 97, 2) := by decide +kernel
theorem dX10_next_73 : decode cX10_next 73 = .ok (.bipush 122, 2) := by decide +kernel
theorem dX10_next_75 : decode cX10_next 75 = .ok (.invokestatic 72, 3) := by decide +kernel
theorem dX10_next_78 : decode cX10_next 78 = .ok (.ifCond .eq 82, 3) := by decide +kernel
theorem dX10_next_81 : decode cX10_next 81 = .ok (.aload_n 0, 1) := by decide +kernel
theorem dX10_next_82 : decode cX10_next 82 = .ok (.getfield 82, 3) := by decide +kernel
theorem dX10_next_85 : decode cX10_next 85 = .ok (.aload_n 0, 1) := by decide +kernel
theorem dX10_next_86 : decode cX10_next 86 = .ok (.getfield 90, 3) := by decide +kernel
theorem dX10_next_89 : decode cX10_next 89 = .ok (.isub, 1) := by decide +kernel
theorem dX10_next_90 : decode cX10_next 90 = .ok (.istore 4, 2) := by decide +kernel
theorem dX10_next_92 : decode cX10_next 92 = .ok (.iload 4, 2) := by decide +kernel
theorem dX10_next_94 : decode cX10_next 94 = .ok (.bipush 6, 2) := by decide +kernel
theorem dX10_next_96 : decode cX10_next 96 = .ok (.if_icmp .ge 18, 3) := by decide +kernel
theorem dX10_next_99 : decode cX10_next 99 = .ok (.bipush 27, 2) := by decide +kernel
theorem dX10_next_101 : decode cX10_next 101 = .ok (.iload_n 2, 1) := by decide +kernel
theorem dX10_next_102 : decode cX10_next 102 = .ok (.imul, 1) := by decide +kernel
theorem dX10_next_103 : decode cX10_next 103 = .ok (.aload_n 0, 1) := by decide +kernel
theorem dX10_next_104 : decode cX10_next 104 = .ok (.invokevirtual 86, 3) := by decide +kernel
theorem dX10_next_107 : decode cX10_next 107 = .ok (.iadd, 1) := by decide +kernel
theorem dX10_next_108 : decode cX10_next 108 = .ok (.bipush 96, 2) := by decide +kernel
theorem dX10_next_110 : decode cX10_next 110 = .ok (.isub, 1) := by decide +kernel
theorem dX10_next_111 : decode cX10_next 111 = .ok (.goto 4, 3) := by decide +kernel
theorem dX10_next_114 : decode cX10_next 114 = .ok (.iload_n 2, 1) := by decide +kernel
theorem dX10_next_115 : decode cX10_next 115 = .ok (.istore_n 2, 1) := by decide +kernel
theorem dX10_next_116 : decode cX10_next 116 = .ok (.iload 4, 2) := by decide +kernel
theorem dX10_next_118 : decode cX10_next 118 = .ok (.bipush 6, 2) := by decide +kernel
theorem dX10_next_120 : decode cX10_next 120 = .ok (.if_icmp .ne 13, 3) := by decide +kernel
theorem dX10_next_123 : decode cX10_next 123 = .ok (.aload_n 0, 1) := by decide +kernel
theorem dX10_next_124 : decode cX10_next 124 = .ok (.invokevirtual 86, 3) := by decide +kernel
theorem dX10_next_127 : decode cX10_next 127 = .ok (.bipush 96, 2) := by decide +kernel
theorem dX10_next_129 : decode cX10_next 129 = .ok (.isub, 1) := by decide +kernel
theorem dX10_next_130 : decode cX10_next 130 = .ok (.goto 16, 3) := by decide +kernel
theorem dX10_next_133 : decode cX10_next 133 = .ok (.iload 4, 2) := by decide +kernel
theorem dX10_next_135 : decode cX10_next 135 = .ok (.bipush 6, 2) := by decide +kernel
theorem dX10_next_137 : decode cX10_next 137 = .ok (.if_icmp .le 8, 3) := by decide +kernel
theorem dX10_next_140 : decode cX10_next 140 = .ok (.bipush 99, 2) := by decide +kernel
theorem dX10_next_142 : decode cX10_next 142 = .ok (.goto 4, 3) := by decide +kernel
theorem dX10_next_145 : decode cX10_next 145 = .ok (.iload_n 3, 1) := by decide +kernel
theorem dX10_next_146 : decode cX10_next 146 = .ok (.istore_n 3, 1) := by decide +kernel
theorem dX10_next_147 : decode cX10_next 147 = .ok (.aload_n 0, 1) := by decide +kernel
theorem dX10_next_148 : decode cX10_next 148 = .ok (.dup, 1) := by decide +kernel
theorem dX10_next_149 : decode cX10_next 149 = .ok (.getfield 82, 3) := by decide +kernel
theorem dX10_next_152 : decode cX10_next 152 = .ok (.iconst 1, 1) := by decide +kernel
theorem dX10_next_153 : decode cX10_next 153 = .ok (.iadd, 1) := by decide +kernel
theorem dX10_next_154 : decode cX10_next 154 = .ok (.putfield 82, 3) := by decide +kernel
theorem dX10_next_157 : decode cX10_next 157 = .ok (.goto (-90), 3) := by decide +kernel
theorem dX10_next_160 : decode cX10_next 160 = .ok (.aload_n 0, 1) := by decide +kernel
theorem dX10_next_161 : decode cX10_next 161 = .ok (.iload_n 2, 1) := by decide +kernel
theorem dX10_next_162 : decode cX10_next 162 = .ok (.iload_n 3, 1) := by decide +kernel
theorem dX10_next_163 : decode cX10_next 163 = .ok (.invokestatic 99, 3) := by decide +kernel
theorem dX10_next_166 : decode cX10_next 166 = .ok (.putfield 96, 3) := by decide +kernel
theorem dX10_next_169 : decode cX10_next 169 = .ok (.goto 144, 3) := by decide +kernel
theorem dX10_next_172 : decode cX10_next 172 = .ok (.iload_n 1, 1) := by decide +kernel
theorem dX10_next_173 : decode cX10_next 173 = .ok (.bipush 48, 2) := by decide +kernel
theorem dX10_next_175 : decode cX10_next 175 = .ok (.bipush 57, 2) := by decide +kernel
theorem dX10_next_177 : decode cX10_next 177 = .ok (.invokestatic 72, 3) := by decide +kernel
theorem dX10_next_180 : decode cX10_next 180 = .ok (.ifCond .eq 106, 3) := by decide +kernel
theorem dX10_next_183 : decode cX10_next 183 = .ok (.aload_n 0, 1) := by decide +kernel
theorem dX10_next_184 : decode cX10_next 184 = .ok (.invokevirtual 86, 3) := by decide +kernel
theorem dX10_next_187 : decode cX10_next 187 = .ok (.bipush 48, 2) := by decide +kernel
theorem dX10_next_189 : decode cX10_next 189 = .ok (.bipush 57, 2) := by decide +kernel
theorem dX10_next_191 : decode cX10_next 191 = .ok (.invokestatic 72, 3) := by decide +kernel
theorem dX10_next_194 : decode cX10_next 194 = .ok (.ifCond .eq 51, 3) := by decide +kernel
theorem dX10_next_197 : decode cX10_next 197 = .ok (.aload_n 0, 1) := by decide +kernel
end
section
theorem dX10_next_198 : decode cX10_next 198 = .ok (.aload_n 0, 1) := by decide +kernel
theorem dX10_next_199 : decode cX10_next 199 = .ok (.getfield 93, 3) := by decide +kernel
theorem dX10_next_202 : decode cX10_next 202 = .ok (.bipush 99, 2) := by decide +kernel
theorem dX10_next_204 : decode cX10_next 204 = .ok (.if_icmp .le 10, 3) := by decide +kernel
theorem dX10_next_207 : decode cX10_next 207 = .ok (.aload_n 0, 1) := by decide +kernel
theorem dX10_next_208 : decode cX10_next 208 = .ok (.getfield 93, 3) := by decide +kernel
theorem dX10_next_211 : decode cX10_next 211 = .ok (.goto 18, 3) := by decide +kernel
theorem dX10_next_214 : decode cX10_next 214 = .ok (.bipush 10, 2) := by decide +kernel
theorem dX10_next_216 : decode cX10_next 216 = .ok (.aload_n 0, 1) := by decide +kernel
theorem dX10_next_217 : decode cX10_next 217 = .ok (.getfield 93, 3) := by decide +kernel
theorem dX10_next_220 : decode cX10_next 220 = .ok (.imul, 1) := by decide +kernel
theorem dX10_next_221 : decode cX10_next 221 = .ok (.aload_n 0, 1) := by decide +kernel
theorem dX10_next_222 : decode cX10_next 222 = .ok (.invokevirtual 86, 3) := by decide +kernel
theorem dX10_next_225 : decode cX10_next 225 = .ok (.iadd, 1) := by decide +kernel
theorem dX10_next_226 : decode cX10_next 226 = .ok (.bipush 48, 2) := by decide +kernel
theorem dX10_next_228 : decode cX10_next 228 = .ok (.isub, 1) := by decide +kernel
theorem dX10_next_229 : decode cX10_next 229 = .ok (.putfield 93, 3) := by decide +kernel
theorem dX10_next_232 : decode cX10_next 232 = .ok (.aload_n 0, 1) := by decide +kernel
theorem dX10_next_233 : decode cX10_next 233 = .ok (.dup, 1) := by decide +kernel
theorem dX10_next_234 : decode cX10_next 234 = .ok (.getfield 82, 3) := by decide +kernel
theorem dX10_next_237 : decode cX10_next 237 = .ok (.iconst 1, 1) := by decide +kernel
theorem dX10_next_238 : decode cX10_next 238 = .ok (.iadd, 1) := by decide +kernel
theorem dX10_next_239 : decode cX10_next 239 = .ok (.putfield 82, 3) := by decide +kernel
theorem dX10_next_242 : decode cX10_next 242 = .ok (.goto (-59), 3) := by decide +kernel
theorem dX10_next_245 : decode cX10_next 245 = .ok (.aload_n 0, 1) := by decide +kernel
theorem dX10_next_246 : decode cX10_next 246 = .ok (.aload_n 0, 1) := by decide +kernel
theorem dX10_next_247 : decode cX10_next 247 = .ok (.getfield 93, 3) := by decide +kernel
theorem dX10_next_250 : decode cX10_next 250 = .ok (.bipush 99, 2) := by decide +kernel
theorem dX10_next_252 : decode cX10_next 252 = .ok (.if_icmp .gt 22, 3) := by decide +kernel
theorem dX10_next_255 : decode cX10_next 255 = .ok (.iload_n 1, 1) := by decide +kernel
theorem dX10_next_256 : decode cX10_next 256 = .ok (.bipush 48, 2) := by decide +kernel
theorem dX10_next_258 : decode cX10_next 258 = .ok (.if_icmp .ne 21, 3) := by decide +kernel
theorem dX10_next_261 : decode cX10_next 261 = .ok (.aload_n 0, 1) := by decide +kernel
theorem dX10_next_262 : decode cX10_next 262 = .ok (.getfield 82, 3) := by decide +kernel
theorem dX10_next_265 : decode cX10_next 265 = .ok (.aload_n 0, 1) := by decide +kernel
theorem dX10_next_266 : decode cX10_next 266 = .ok (.getfield 90, 3) := by decide +kernel
theorem dX10_next_269 : decode cX10_next 269 = .ok (.isub, 1) := by decide +kernel
theorem dX10_next_270 : decode cX10_next 270 = .ok (.iconst 1, 1) := by decide +kernel
theorem dX10_next_271 : decode cX10_next 271 = .ok (.if_icmp .le 8, 3) := by decide +kernel
theorem dX10_next_274 : decode cX10_next 274 = .ok (.bipush 7, 2) := by decide +kernel
theorem dX10_next_276 : decode cX10_next 276 = .ok (.goto 4, 3) := by decide +kernel
theorem dX10_next_279 : decode cX10_next 279 = .ok (.iconst 5, 1) := by decide +kernel
theorem dX10_next_280 : decode cX10_next 280 = .ok (.putfield 96, 3) := by decide +kernel
theorem dX10_next_283 : decode cX10_next 283 = .ok (.goto 30, 3) := by decide +kernel
theorem dX10_next_286 : decode cX10_next 286 = .ok (.aload_n 0, 1) := by decide +kernel
theorem dX10_next_287 : decode cX10_next 287 = .ok (.dup, 1) := by decide +kernel
theorem dX10_next_288 : decode cX10_next 288 = .ok (.getfield 82, 3) := by decide +kernel
theorem dX10_next_291 : decode cX10_next 291 = .ok (.iconst 1, 1) := by decide +kernel
theorem dX10_next_292 : decode cX10_next 292 = .ok (.iadd, 1) := by decide +kernel
theorem dX10_next_293 : decode cX10_next 293 = .ok (.putfield 82, 3) := by decide +kernel
theorem dX10_next_296 : decode cX10_next 296 = .ok (.aload_n 0, 1) := by decide +kernel
theorem dX10_next_297 : decode cX10_next 297 = .ok (.iload_n 1, 1) := by decide +kernel
theorem dX10_next_298 : decode cX10_next 298 = .ok (.bipush 59, 2) := by decide +kernel
theorem dX10_next_300 : decode cX10_next 300 = .ok (.if_icmp .ne 8, 3) := by decide +kernel
theorem dX10_next_303 : decode cX10_next 303 = .ok (.bipush 6, 2) := by decide +kernel
theorem dX10_next_305 : decode cX10_next 305 = .ok (.goto 5, 3) := by decide +kernel
theorem dX10_next_308 : decode cX10_next 308 = .ok (.bipush 7, 2) := by decide +kernel
theorem dX10_next_310 : decode cX10_next 310 = .ok (.putfield 96, 3) := by decide +kernel
theorem dX10_next_313 : decode cX10_next 313 = .ok (.return_, 1) := by decide +kernel
set_option maxRecDepth 20000 in
theorem ggX10_due_X10_next : GoodIn wsX10_due wsX10_next := goodIn_r _ [8, 9, 3, 1, 10, 11, 12, 13, 7, 14, 15, 16, 17, 18, 19, 20, 21, 22, 23, 24, 25, 26, 27, 28, 29, 30, 31, 32, 33, 34, 35, 36, 37, 38, 39, 40, 41, 42, 43, 44, 45, 46, 47, 48, 49, 50] (by decide +kernel) (by decide +kernel)
set_option maxRecDepth 20000 in
theorem gX10_due_X10_next : GoodIn wsX10_due (wsV RX10 106 RX10 yX10_next wsX10_next) := goodIn_app (goodIn_of _ (by decide +kernel)) ggX10_due_X10_next
theorem dX10_due_0 : decode cX10_due 0 = .ok (.aload_n 0, 1) := by decide +kernel
theorem dX10_due_1 : decode cX10_due 1 = .ok (.getfield 93, 3) := by decide +kernel
theorem dX10_due_4 : decode cX10_due 4 = .ok (.istore_n 2, 1) := by decide +kernel
theorem dX10_due_5 : decode cX10_due 5 = .ok (.aload_n 0, 1) := by decide +kernel
theorem dX10_due_6 : decode cX10_due 6 = .ok (.getfield 103, 3) := by decide +kernel
theorem dX10_due_9 : decode cX10_due 9 = .ok (.bipush (-9), 2) := by decide +kernel
theorem dX10_due_11 : decode cX10_due 11 = .ok (.if_icmp .ne 22, 3) := by decide +kernel
theorem dX10_due_14 : decode cX10_due 14 = .ok (.iload_n 1, 1) := by decide +kernel
theorem dX10_due_15 : decode cX10_due 15 = .ok (.ifCond .eq 10, 3) := by decide +kernel
theorem dX10_due_18 : decode cX10_due 18 = .ok (.aload_n 0, 1) := by decide +kernel
theorem dX10_due_19 : decode cX10_due 19 = .ok (.invokevirtual 106, 3) := by decide +kernel
theorem dX10_due_22 : decode cX10_due 22 = .ok (.goto 11, 3) := by decide +kernel
theorem dX10_due_25 : decode cX10_due 25 = .ok (.aload_n 0, 1) := by decide +kernel
theorem dX10_due_26 : decode cX10_due 26 = .ok (.aload_n 0, 1) := by decide +kernel
theorem dX10_due_27 : decode cX10_due 27 = .ok (.getfield 90, 3) := by decide +kernel
theorem dX10_due_30 : decode cX10_due 30 = .ok (.putfield 103, 3) := by decide +kernel
theorem dX10_due_33 : decode cX10_due 33 = .ok (.iload_n 2, 1) := by decide +kernel
theorem dX10_due_34 : decode cX10_due 34 = .ok (.ireturn, 1) := by decide +kernel
set_option maxRecDepth 20000 in
theorem ggX10_number_X10_in : GoodIn wsX10_number wsX10_in := goodIn_r _ [6] (by decide +kernel) (by decide +kernel)
set_option maxRecDepth 20000 in
theorem gX10_number_X10_in : GoodIn wsX10_number (va_wsS RX10 72 yX10_in wsX10_in) := goodIn_app (goodIn_of _ (by decide +kernel)) ggX10_number_X10_in
set_option maxRecDepth 20000 in
theorem ggX10_number_X10_due : GoodIn wsX10_number wsX10_due := goodIn_r _ [10, 2, 11, 12, 13, 14, 15, 5, 16, 17, 1, 18, 19, 20, 21, 22, 23, 3, 4, 6, 24, 25, 26, 27, 28, 29, 30, 31, 32, 33, 34, 35, 36, 37, 38, 39, 40, 41, 42, 43, 44, 45, 46, 47, 48, 49, 50, 51, 52, 53, 54] (by decide +kernel) (by decide +kernel)
set_option maxRecDepth 20000 in
theorem gX10_number_X10_due : GoodIn wsX10_number (wsV RX10 109 RX10 yX10_due wsX10_due) := goodIn_app (goodIn_of _ (by decide +kernel)) ggX10_number_X10_due
theorem dX10_number_0 : decode cX10_number 0 = .ok (.aload_n 0, 1) := by decide +kernel
theorem dX10_number_1 : decode cX10_number 1 = .ok (.aload_n 0, 1) := by decide +kernel
theorem dX10_number_2 : decode cX10_number 2 = .ok (.getfield 96, 3) := by decide +kernel
theorem dX10_number_5 : decode cX10_number 5 = .ok (.iconst 5, 1) := by decide +kernel
theorem dX10_number_6 : decode cX10_number 6 = .ok (.if_icmp .ne 19, 3) := by decide +kernel
theorem dX10_number_9 : decode cX10_number 9 = .ok (.aload_n 0, 1) := by decide +kernel
theorem dX10_number_10 : decode cX10_number 10 = .ok (.getfield 93, 3) := by decide +kernel
theorem dX10_number_13 : decode cX10_number 13 = .ok (.iload_n 1, 1) := by decide +kernel
theorem dX10_number_14 : decode cX10_number 14 = .ok (.iload_n 2, 1) := by decide +kernel
theorem dX10_number_15 : decode cX10_number 15 = .ok (.invokestatic 72, 3) := by decide +kernel
theorem dX10_number_18 : decode cX10_number 18 = .ok (.ifCond .eq 7, 3) := by decide +kernel
theorem dX10_number_21 : decode cX10_number 21 = .ok (.iconst 1, 1) := by decide +kernel
theorem dX10_number_22 : decode cX10_number 22 = .ok (.goto 4, 3) := by decide +kernel
theorem dX10_number_25 : decode cX10_number 25 = .ok (.iconst 0, 1) := by decide +kernel
theorem dX10_number_26 : decode cX10_number 26 = .ok (.invokevirtual 109, 3) := by decide +kernel
theorem dX10_number_29 : decode cX10_number 29 = .ok (.ireturn, 1) := by decide +kernel
set_option maxRecDepth 20000 in
theorem ggX10_readItem_X10_due : GoodIn wsX10_readItem wsX10_due := goodIn_r _ [18, 9, 4, 19, 20, 21, 22, 17, 23, 24, 1, 25, 26, 27, 28, 29, 30, 31, 32, 33, 34, 35, 36, 37, 42, 43, 44, 45, 46, 47, 48, 49, 50, 51, 52, 53, 54, 55, 56, 57, 58, 59, 60, 61, 62, 63, 64, 65, 66, 67, 68] (by decide +kernel) (by decide +kernel)
set_option maxRecDepth 20000 in
theorem gX10_readItem_X10_due : GoodIn wsX10_readItem (wsV RX10 109 RX10 yX10_due wsX10_due) := goodIn_app (goodIn_of _ (by decide +kernel)) ggX10_readItem_X10_due
set_option maxRecDepth 20000 in
theorem ggX10_readItem_X10_number : GoodIn wsX10_readItem wsX10_number := goodIn_r _ [41, 1, 9, 31, 32, 17, 33, 14, 15, 16, 18, 4, 19, 20, 21, 22, 23, 24, 25, 26, 27, 28, 29, 30, 34, 35, 36, 37, 42, 43, 44, 45, 46, 47, 48, 49, 50, 51, 52, 53, 54, 55, 56, 57, 58, 59, 60, 61, 62, 63, 64, 65, 66, 67, 68] (by decide +kernel) (by decide +kernel)
set_option maxRecDepth 20000 in
theorem gX10_readItem_X10_number : GoodIn wsX10_readItem (wsV RX10 113 RX10 yX10_number wsX10_number) := goodIn_app (goodIn_of _ (by decide +kernel)) ggX10_readItem_X10_number
set_option maxRecDepth 20000 in
theorem ggX10_readItem_X10_in : GoodIn wsX10_readItem wsX10_in := goodIn_r _ [33] (by decide +kernel) (by decide +kernel)
set_option maxRecDepth 20000 in
theorem gX10_readItem_X10_in : GoodIn wsX10_readItem (va_wsS RX10 72 yX10_in wsX10_in) := goodIn_app (goodIn_of _ (by decide +kernel)) ggX10_readItem_X10_in
theorem dX10_readItem_0 : decode cX10_readItem 0 = .ok (.aload_n 0, 1) := by decide +kernel
theorem dX10_readItem_1 : decode cX10_readItem 1 = .ok (.getfield 96, 3) := by decide +kernel
theorem dX10_readItem_4 : decode cX10_readItem 4 = .ok (.istore_n 1, 1) := by decide +kernel
theorem dX10_readItem_5 : decode cX10_readItem 5 = .ok (.iload_n 1, 1) := by decide +kernel
theorem dX10_readItem_6 : decode cX10_readItem 6 = .ok (.ifCond .eq 8, 3) := by decide +kernel
theorem dX10_readItem_9 : decode cX10_readItem 9 = .ok (.iload_n 1, 1) := by decide +kernel
theorem dX10_readItem_10 : decode cX10_readItem 10 = .ok (.iconst 1, 1) := by decide +kernel
theorem dX10_readItem_11 : decode cX10_readItem 11 = .ok (.if_icmp .ne 7, 3) := by decide +kernel
theorem dX10_readItem_14 : decode cX10_readItem 14 = .ok (.iconst 1, 1) := by decide +kernel
theorem dX10_readItem_15 : decode cX10_readItem 15 = .ok (.goto 4, 3) := by decide +kernel
theorem dX10_readItem_18 : decode cX10_readItem 18 = .ok (.iconst 0, 1) := by decide +kernel
theorem dX10_readItem_19 : decode cX10_readItem 19 = .ok (.istore_n 2, 1) := by decide +kernel
theorem dX10_readItem_20 : decode cX10_readItem 20 = .ok (.aload_n 0, 1) := by decide +kernel
theorem dX10_readItem_21 : decode cX10_readItem 21 = .ok (.iload_n 2, 1) := by decide +kernel
theorem dX10_readItem_22 : decode cX10_readItem 22 = .ok (.ifCond .eq 14, 3) := by decide +kernel
theorem dX10_readItem_25 : decode cX10_readItem 25 = .ok (.aload_n 0, 1) := by decide +kernel
theorem dX10_readItem_26 : decode cX10_readItem 26 = .ok (.getfield 13, 3) := by decide +kernel
theorem dX10_readItem_29 : decode cX10_readItem 29 = .ok (.iconst 1, 1) := by decide +kernel
theorem dX10_readItem_30 : decode cX10_readItem 30 = .ok (.iaload, 1) := by decide +kernel
theorem dX10_readItem_31 : decode cX10_readItem 31 = .ok (.bipush 8, 2) := by decide +kernel
theorem dX10_readItem_33 : decode cX10_readItem 33 = .ok (.if_icmp .lt 23, 3) := by decide +kernel
theorem dX10_readItem_36 : decode cX10_readItem 36 = .ok (.iload_n 1, 1) := by decide +kernel
theorem dX10_readItem_37 : decode cX10_readItem 37 = .ok (.iconst 2, 1) := by decide +kernel
theorem dX10_readItem_38 : decode cX10_readItem 38 = .ok (.if_icmp .eq 18, 3) := by decide +kernel
theorem dX10_readItem_41 : decode cX10_readItem 41 = .ok (.iload_n 1, 1) := by decide +kernel
theorem dX10_readItem_42 : decode cX10_readItem 42 = .ok (.iconst 3, 1) := by decide +kernel
theorem dX10_readItem_43 : decode cX10_readItem 43 = .ok (.if_icmp .ne 17, 3) := by decide +kernel
theorem dX10_readItem_46 : decode cX10_readItem 46 = .ok (.aload_n 0, 1) := by decide +kernel
theorem dX10_readItem_47 : decode cX10_readItem 47 = .ok (.getfield 33, 3) := by decide +kernel
theorem dX10_readItem_50 : decode cX10_readItem 50 = .ok (.iconst 1, 1) := by decide +kernel
theorem dX10_readItem_51 : decode cX10_readItem 51 = .ok (.iaload, 1) := by decide +kernel
theorem dX10_readItem_52 : decode cX10_readItem 52 = .ok (.iconst 5, 1) := by decide +kernel
theorem dX10_readItem_53 : decode cX10_readItem 53 = .ok (.if_icmp .ge 7, 3) := by decide +kernel
theorem dX10_readItem_56 : decode cX10_readItem 56 = .ok (.iconst 1, 1) := by decide +kernel
theorem dX10_readItem_57 : decode cX10_readItem 57 = .ok (.goto 4, 3) := by decide +kernel
theorem dX10_readItem_60 : decode cX10_readItem 60 = .ok (.iconst 0, 1) := by decide +kernel
theorem dX10_readItem_61 : decode cX10_readItem 61 = .ok (.invokevirtual 109, 3) := by decide +kernel
theorem dX10_readItem_64 : decode cX10_readItem 64 = .ok (.pop, 1) := by decide +kernel
theorem dX10_readItem_65 : decode cX10_readItem 65 = .ok (.aload_n 0, 1) := by decide +kernel
theorem dX10_readItem_66 : decode cX10_readItem 66 = .ok (.getfield 103, 3) := by decide +kernel
theorem dX10_readItem_69 : decode cX10_readItem 69 = .ok (.bipush (-9), 2) := by decide +kernel
theorem dX10_readItem_71 : decode cX10_readItem 71 = .ok (.if_icmp .eq 4, 3) := by decide +kernel
theorem dX10_readItem_74 : decode cX10_readItem 74 = .ok (.return_, 1) := by decide +kernel
theorem dX10_readItem_75 : decode cX10_readItem 75 = .ok (.iload_n 2, 1) := by decide +kernel
theorem dX10_readItem_76 : decode cX10_readItem 76 = .ok (.ifCond .eq 81, 3) := by decide +kernel
theorem dX10_readItem_79 : decode cX10_readItem 79 = .ok (.bipush 8, 2) := by decide +kernel
theorem dX10_readItem_81 : decode cX10_readItem 81 = .ok (.aload_n 0, 1) := by decide +kernel
theorem dX10_readItem_82 : decode cX10_readItem 82 = .ok (.getfield 13, 3) := by decide +kernel
theorem dX10_readItem_85 : decode cX10_readItem 85 = .ok (.iconst 1, 1) := by decide +kernel
theorem dX10_readItem_86 : decode cX10_readItem 86 = .ok (.iaload, 1) := by decide +kernel
theorem dX10_readItem_87 : decode cX10_readItem 87 = .ok (.iadd, 1) := by decide +kernel
theorem dX10_readItem_88 : decode cX10_readItem 88 = .ok (.istore_n 3, 1) := by decide +kernel
theorem dX10_readItem_89 : decode cX10_readItem 89 = .ok (.aload_n 0, 1) := by decide +kernel
theorem dX10_readItem_90 : decode cX10_readItem 90 = .ok (.getfield 17, 3) := by decide +kernel
theorem dX10_readItem_93 : decode cX10_readItem 93 = .ok (.iload_n 3, 1) := by decide +kernel
theorem dX10_readItem_94 : decode cX10_readItem 94 = .ok (.iload_n 1, 1) := by decide +kernel
theorem dX10_readItem_95 : decode cX10_readItem 95 = .ok (.iconst 1, 1) := by decide +kernel
theorem dX10_readItem_96 : decode cX10_readItem 96 = .ok (.if_icmp .ne 7, 3) := by decide +kernel
theorem dX10_readItem_99 : decode cX10_readItem 99 = .ok (.iconst 1, 1) := by decide +kernel
theorem dX10_readItem_100 : decode cX10_readItem 100 = .ok (.goto 4, 3) := by decide +kernel
theorem dX10_readItem_103 : decode cX10_readItem 103 = .ok (.iconst 0, 1) := by decide +kernel
theorem dX10_readItem_104 : decode cX10_readItem 104 = .ok (.iastore, 1) := by decide +kernel
theorem dX10_readItem_105 : decode cX10_readItem 105 = .ok (.aload_n 0, 1) := by decide +kernel
theorem dX10_readItem_106 : decode cX10_readItem 106 = .ok (.getfield 20, 3) := by decide +kernel
theorem dX10_readItem_109 : decode cX10_readItem 109 = .ok (.iload_n 3, 1) := by decide +kernel
theorem dX10_readItem_110 : decode cX10_readItem 110 = .ok (.aload_n 0, 1) := by decide +kernel
theorem dX10_readItem_111 : decode cX10_readItem 111 = .ok (.iconst 1, 1) := by decide +kernel
theorem dX10_readItem_112 : decode cX10_readItem 112 = .ok (.bipush 9, 2) := by decide +kernel
theorem dX10_readItem_114 : decode cX10_readItem 114 = .ok (.invokevirtual 113, 3) := by decide +kernel
theorem dX10_readItem_117 : decode cX10_readItem 117 = .ok (.iastore, 1) := by decide +kernel
theorem dX10_readItem_118 : decode cX10_readItem 118 = .ok (.aload_n 0, 1) := by decide +kernel
theorem dX10_readItem_119 : decode cX10_readItem 119 = .ok (.getfield 23, 3) := by decide +kernel
theorem dX10_readItem_122 : decode cX10_readItem 122 = .ok (.iload_n 3, 1) := by decide +kernel
theorem dX10_readItem_123 : decode cX10_readItem 123 = .ok (.aload_n 0, 1) := by decide +kernel
theorem dX10_readItem_124 : decode cX10_readItem 124 = .ok (.iconst 1, 1) := by decide +kernel
theorem dX10_readItem_125 : decode cX10_readItem 125 = .ok (.bipush 9, 2) := by decide +kernel
theorem dX10_readItem_127 : decode cX10_readItem 127 = .ok (.invokevirtual 113, 3) := by decide +kernel
theorem dX10_readItem_130 : decode cX10_readItem 130 = .ok (.iastore, 1) := by decide +kernel
theorem dX10_readItem_131 : decode cX10_readItem 131 = .ok (.aload_n 0, 1) := by decide +kernel
theorem dX10_readItem_132 : decode cX10_readItem 132 = .ok (.getfield 26, 3) := by decide +kernel
theorem dX10_readItem_135 : decode cX10_readItem 135 = .ok (.iload_n 3, 1) := by decide +kernel
theorem dX10_readItem_136 : decode cX10_readItem 136 = .ok (.aload_n 0, 1) := by decide +kernel
theorem dX10_readItem_137 : decode cX10_readItem 137 = .ok (.iconst 1, 1) := by decide +kernel
theorem dX10_readItem_138 : decode cX10_readItem 138 = .ok (.bipush 9, 2) := by decide +kernel
theorem dX10_readItem_140 : decode cX10_readItem 140 = .ok (.invokevirtual 113, 3) := by decide +kernel
theorem dX10_readItem_143 : decode cX10_readItem 143 = .ok (.iastore, 1) := by decide +kernel
theorem dX10_readItem_144 : decode cX10_readItem 144 = .ok (.aload_n 0, 1) := by decide +kernel
theorem dX10_readItem_145 : decode cX10_readItem 145 = .ok (.getfield 13, 3) := by decide +kernel
theorem dX10_readItem_148 : decode cX10_readItem 148 = .ok (.iconst 1, 1) := by decide +kernel
theorem dX10_readItem_149 : decode cX10_readItem 149 = .ok (.dup2, 1) := by decide +kernel
theorem dX10_readItem_150 : decode cX10_readItem 150 = .ok (.iaload, 1) := by decide +kernel
theorem dX10_readItem_151 : decode cX10_readItem 151 = .ok (.iconst 1, 1) := by decide +kernel
theorem dX10_readItem_152 : decode cX10_readItem 152 = .ok (.iadd, 1) := by decide +kernel
theorem dX10_readItem_153 : decode cX10_readItem 153 = .ok (.iastore, 1) := by decide +kernel
theorem dX10_readItem_154 : decode cX10_readItem 154 = .ok (.goto 174, 3) := by decide +kernel
theorem dX10_readItem_157 : decode cX10_readItem 157 = .ok (.iload_n 1, 1) := by decide +kernel
theorem dX10_readItem_158 : decode cX10_readItem 158 = .ok (.iconst 2, 1) := by decide +kernel
theorem dX10_readItem_159 : decode cX10_readItem 159 = .ok (.if_icmp .ne 111, 3) := by decide +kernel
theorem dX10_readItem_162 : decode cX10_readItem 162 = .ok (.aload_n 0, 1) := by decide +kernel
theorem dX10_readItem_163 : decode cX10_readItem 163 = .ok (.iconst 0, 1) := by decide +kernel
theorem dX10_readItem_164 : decode cX10_readItem 164 = .ok (.aload_n 0, 1) := by decide +kernel
theorem dX10_readItem_165 : decode cX10_readItem 165 = .ok (.getfield 13, 3) := by decide +kernel
theorem dX10_readItem_168 : decode cX10_readItem 168 = .ok (.iconst 1, 1) := by decide +kernel
theorem dX10_readItem_169 : decode cX10_readItem 169 = .ok (.iaload, 1) := by decide +kernel
theorem dX10_readItem_170 : decode cX10_readItem 170 = .ok (.iconst 1, 1) := by decide +kernel
theorem dX10_readItem_171 : decode cX10_readItem 171 = .ok (.isub, 1) := by decide +kernel
theorem dX10_readItem_172 : decode cX10_readItem 172 = .ok (.invokevirtual 113, 3) := by decide +kernel
theorem dX10_readItem_175 : decode cX10_readItem 175 = .ok (.istore_n 3, 1) := by decide +kernel
theorem dX10_readItem_176 : decode cX10_readItem 176 = .ok (.aload_n 0, 1) := by decide +kernel
theorem dX10_readItem_177 : decode cX10_readItem 177 = .ok (.getfield 96, 3) := by decide +kernel
theorem dX10_readItem_180 : decode cX10_readItem 180 = .ok (.iconst 5, 1) := by decide +kernel
theorem dX10_readItem_181 : decode cX10_readItem 181 = .ok (.if_icmp .ne 34, 3) := by decide +kernel
theorem dX10_readItem_184 : decode cX10_readItem 184 = .ok (.aload_n 0, 1) := by decide +kernel
theorem dX10_readItem_185 : decode cX10_readItem 185 = .ok (.getfield 93, 3) := by decide +kernel
theorem dX10_readItem_188 : decode cX10_readItem 188 = .ok (.iconst 0, 1) := by decide +kernel
theorem dX10_readItem_189 : decode cX10_readItem 189 = .ok (.aload_n 0, 1) := by decide +kernel
theorem dX10_readItem_190 : decode cX10_readItem 190 = .ok (.getfield 13, 3) := by decide +kernel
theorem dX10_readItem_193 : decode cX10_readItem 193 = .ok (.iconst 1, 1) := by decide +kernel
theorem dX10_readItem_194 : decode cX10_readItem 194 = .ok (.iaload, 1) := by decide +kernel
theorem dX10_readItem_195 : decode cX10_readItem 195 = .ok (.iconst 1, 1) := by decide +kernel
theorem dX10_readItem_196 : decode cX10_readItem 196 = .ok (.isub, 1) := by decide +kernel
theorem dX10_readItem_197 : decode cX10_readItem 197 = .ok (.invokestatic 72, 3) := by decide +kernel
theorem dX10_readItem_200 : decode cX10_readItem 200 = .ok (.ifCond .eq 15, 3) := by decide +kernel
theorem dX10_readItem_203 : decode cX10_readItem 203 = .ok (.aload_n 0, 1) := by decide +kernel
theorem dX10_readItem_204 : decode cX10_readItem 204 = .ok (.getfield 93, 3) := by decide +kernel
theorem dX10_readItem_207 : decode cX10_readItem 207 = .ok (.iload_n 3, 1) := by decide +kernel
theorem dX10_readItem_208 : decode cX10_readItem 208 = .ok (.if_icmp .eq 7, 3) := by decide +kernel
theorem dX10_readItem_211 : decode cX10_readItem 211 = .ok (.iconst 1, 1) := by decide +kernel
theorem dX10_readItem_212 : decode cX10_readItem 212 = .ok (.goto 4, 3) := by decide +kernel
theorem dX10_readItem_215 : decode cX10_readItem 215 = .ok (.iconst 0, 1) := by decide +kernel
theorem dX10_readItem_216 : decode cX10_readItem 216 = .ok (.istore 4, 2) := by decide +kernel
theorem dX10_readItem_218 : decode cX10_readItem 218 = .ok (.aload_n 0, 1) := by decide +kernel
theorem dX10_readItem_219 : decode cX10_readItem 219 = .ok (.iload 4, 2) := by decide +kernel
theorem dX10_readItem_221 : decode cX10_readItem 221 = .ok (.invokevirtual 109, 3) := by decide +kernel
theorem dX10_readItem_224 : decode cX10_readItem 224 = .ok (.istore 5, 2) := by decide +kernel
theorem dX10_readItem_226 : decode cX10_readItem 226 = .ok (.aload_n 0, 1) := by decide +kernel
theorem dX10_readItem_227 : decode cX10_readItem 227 = .ok (.getfield 103, 3) := by decide +kernel
theorem dX10_readItem_230 : decode cX10_readItem 230 = .ok (.bipush (-9), 2) := by decide +kernel
theorem dX10_readItem_232 : decode cX10_readItem 232 = .ok (.if_icmp .ne 35, 3) := by decide +kernel
theorem dX10_readItem_235 : decode cX10_readItem 235 = .ok (.aload_n 0, 1) := by decide +kernel
theorem dX10_readItem_236 : decode cX10_readItem 236 = .ok (.getfield 29, 3) := by decide +kernel
theorem dX10_readItem_239 : decode cX10_readItem 239 = .ok (.bipush 64, 2) := by decide +kernel
theorem dX10_readItem_241 : decode cX10_readItem 241 = .ok (.bipush 8, 2) := by decide +kernel
theorem dX10_readItem_243 : decode cX10_readItem 243 = .ok (.iload_n 3, 1) := by decide +kernel
theorem dX10_readItem_244 : decode cX10_readItem 244 = .ok (.imul, 1) := by decide +kernel
theorem dX10_readItem_245 : decode cX10_readItem 245 = .ok (.iadd, 1) := by decide +kernel
theorem dX10_readItem_246 : decode cX10_readItem 246 = .ok (.iload 5, 2) := by decide +kernel
theorem dX10_readItem_248 : decode cX10_readItem 248 = .ok (.iadd, 1) := by decide +kernel
theorem dX10_readItem_249 : decode cX10_readItem 249 = .ok (.iconst 1, 1) := by decide +kernel
theorem dX10_readItem_250 : decode cX10_readItem 250 = .ok (.bastore, 1) := by decide +kernel
theorem dX10_readItem_251 : decode cX10_readItem 251 = .ok (.aload_n 0, 1) := by decide +kernel
theorem dX10_readItem_252 : decode cX10_readItem 252 = .ok (.getfield 29, 3) := by decide +kernel
theorem dX10_readItem_255 : decode cX10_readItem 255 = .ok (.bipush 64, 2) := by decide +kernel
theorem dX10_readItem_257 : decode cX10_readItem 257 = .ok (.bipush 8, 2) := by decide +kernel
theorem dX10_readItem_259 : decode cX10_readItem 259 = .ok (.iload 5, 2) := by decide +kernel
theorem dX10_readItem_261 : decode cX10_readItem 261 = .ok (.imul, 1) := by decide +kernel
theorem dX10_readItem_262 : decode cX10_readItem 262 = .ok (.iadd, 1) := by decide +kernel
theorem dX10_readItem_263 : decode cX10_readItem 263 = .ok (.iload_n 3, 1) := by decide +kernel
theorem dX10_readItem_264 : decode cX10_readItem 264 = .ok (.iadd, 1) := by decide +kernel
theorem dX10_readItem_265 : decode cX10_readItem 265 = .ok (.iconst 1, 1) := by decide +kernel
theorem dX10_readItem_266 : decode cX10_readItem 266 = .ok (.bastore, 1) := by decide +kernel
theorem dX10_readItem_267 : decode cX10_readItem 267 = .ok (.goto 61, 3) := by decide +kernel
theorem dX10_readItem_270 : decode cX10_readItem 270 = .ok (.iconst 5, 1) := by decide +kernel
theorem dX10_readItem_271 : decode cX10_readItem 271 = .ok (.aload_n 0, 1) := by decide +kernel
theorem dX10_readItem_272 : decode cX10_readItem 272 = .ok (.getfield 33, 3) := by decide +kernel
theorem dX10_readItem_275 : decode cX10_readItem 275 = .ok (.iconst 1, 1) := by decide +kernel
theorem dX10_readItem_276 : decode cX10_readItem 276 = .ok (.iaload, 1) := by decide +kernel
theorem dX10_readItem_277 : decode cX10_readItem 277 = .ok (.iadd, 1) := by decide +kernel
theorem dX10_readItem_278 : decode cX10_readItem 278 = .ok (.istore_n 3, 1) := by decide +kernel
theorem dX10_readItem_279 : decode cX10_readItem 279 = .ok (.aload_n 0, 1) := by decide +kernel
theorem dX10_readItem_280 : decode cX10_readItem 280 = .ok (.getfield 36, 3) := by decide +kernel
theorem dX10_readItem_283 : decode cX10_readItem 283 = .ok (.iload_n 3, 1) := by decide +kernel
theorem dX10_readItem_284 : decode cX10_readItem 284 = .ok (.aload_n 0, 1) := by decide +kernel
theorem dX10_readItem_285 : decode cX10_readItem 285 = .ok (.iconst 1, 1) := by decide +kernel
theorem dX10_readItem_286 : decode cX10_readItem 286 = .ok (.bipush 9, 2) := by decide +kernel
theorem dX10_readItem_288 : decode cX10_readItem 288 = .ok (.invokevirtual 113, 3) := by decide +kernel
theorem dX10_readItem_291 : decode cX10_readItem 291 = .ok (.iastore, 1) := by decide +kernel
theorem dX10_readItem_292 : decode cX10_readItem 292 = .ok (.aload_n 0, 1) := by decide +kernel
theorem dX10_readItem_293 : decode cX10_readItem 293 = .ok (.getfield 39, 3) := by decide +kernel
theorem dX10_readItem_296 : decode cX10_readItem 296 = .ok (.iload_n 3, 1) := by decide +kernel
theorem dX10_readItem_297 : decode cX10_readItem 297 = .ok (.aload_n 0, 1) := by decide +kernel
theorem dX10_readItem_298 : decode cX10_readItem 298 = .ok (.iconst 0, 1) := by decide +kernel
theorem dX10_readItem_299 : decode cX10_readItem 299 = .ok (.bipush 20, 2) := by decide +kernel
theorem dX10_readItem_301 : decode cX10_readItem 301 = .ok (.invokevirtual 113, 3) := by decide +kernel
theorem dX10_readItem_304 : decode cX10_readItem 304 = .ok (.iastore, 1) := by decide +kernel
theorem dX10_readItem_305 : decode cX10_readItem 305 = .ok (.aload_n 0, 1) := by decide +kernel
theorem dX10_readItem_306 : decode cX10_readItem 306 = .ok (.getfield 42, 3) := by decide +kernel
theorem dX10_readItem_309 : decode cX10_readItem 309 = .ok (.iload_n 3, 1) := by decide +kernel
theorem dX10_readItem_310 : decode cX10_readItem 310 = .ok (.aload_n 0, 1) := by decide +kernel
theorem dX10_readItem_311 : decode cX10_readItem 311 = .ok (.iconst 0, 1) := by decide +kernel
theorem dX10_readItem_312 : decode cX10_readItem 312 = .ok (.bipush 99, 2) := by decide +kernel
theorem dX10_readItem_314 : decode cX10_readItem 314 = .ok (.invokevirtual 113, 3) := by decide +kernel
theorem dX10_readItem_317 : decode cX10_readItem 317 = .ok (.iastore, 1) := by decide +kernel
theorem dX10_readItem_318 : decode cX10_readItem 318 = .ok (.aload_n 0, 1) := by decide +kernel
theorem dX10_readItem_319 : decode cX10_readItem 319 = .ok (.getfield 33, 3) := by decide +kernel
theorem dX10_readItem_322 : decode cX10_readItem 322 = .ok (.iconst 1, 1) := by decide +kernel
theorem dX10_readItem_323 : decode cX10_readItem 323 = .ok (.dup2, 1) := by decide +kernel
theorem dX10_readItem_324 : decode cX10_readItem 324 = .ok (.iaload, 1) := by decide +kernel
theorem dX10_readItem_325 : decode cX10_readItem 325 = .ok (.iconst 1, 1) := by decide +kernel
theorem dX10_readItem_326 : decode cX10_readItem 326 = .ok (.iadd, 1) := by decide +kernel
theorem dX10_readItem_327 : decode cX10_readItem 327 = .ok (.iastore, 1) := by decide +kernel
theorem dX10_readItem_328 : decode cX10_readItem 328 = .ok (.aload_n 0, 1) := by decide +kernel
theorem dX10_readItem_329 : decode cX10_readItem 329 = .ok (.aload_n 0, 1) := by decide +kernel
theorem dX10_readItem_330 : decode cX10_readItem 330 = .ok (.getfield 96, 3) := by decide +kernel
theorem dX10_readItem_333 : decode cX10_readItem 333 = .ok (.bipush 6, 2) := by decide +kernel
theorem dX10_readItem_335 : decode cX10_readItem 335 = .ok (.if_icmp .ne 7, 3) := by decide +kernel
theorem dX10_readItem_338 : decode cX10_readItem 338 = .ok (.iconst 1, 1) := by decide +kernel
theorem dX10_readItem_339 : decode cX10_readItem 339 = .ok (.goto 4, 3) := by decide +kernel
theorem dX10_readItem_342 : decode cX10_readItem 342 = .ok (.iconst 0, 1) := by decide +kernel
theorem dX10_readItem_343 : decode cX10_readItem 343 = .ok (.invokevirtual 109, 3) := by decide +kernel
theorem dX10_readItem_346 : decode cX10_readItem 346 = .ok (.pop, 1) := by decide +kernel
theorem dX10_readItem_347 : decode cX10_readItem 347 = .ok (.return_, 1) := by decide +kernel
set_option maxRecDepth 20000 in
theorem ggX10_orchard_X10_next : GoodIn wsX10_orchard wsX10_next := goodIn_r _ [21, 1, 22, 23, 6, 24, 25, 26, 20, 27, 16, 28, 29, 30, 31, 32, 33, 34, 35, 52, 53, 54, 55, 56, 57, 58, 59, 60, 61, 62, 63, 64, 65, 66, 67, 68, 69, 70, 71, 72, 73, 74, 75, 76, 77, 78] (by decide +kernel) (by decide +kernel)
set_option maxRecDepth 20000 in
theorem gX10_orchard_X10_next : GoodIn wsX10_orchard (wsV RX10 106 RX10 yX10_next wsX10_next) := goodIn_app (goodIn_of _ (by decide +kernel)) ggX10_orchard_X10_next
set_option maxRecDepth 20000 in
theorem ggX10_orchard_X10_readItem : GoodIn wsX10_orchard wsX10_readItem := goodIn_r _ [39, 6, 3, 4, 2, 7, 8, 9, 10, 23, 5, 11, 12, 13, 40, 41, 42, 20, 43, 22, 17, 18, 19, 21, 1, 24, 25, 26, 27, 16, 28, 29, 30, 31, 32, 33, 34, 35, 44, 45, 46, 47, 52, 53, 54, 55, 56, 57, 58, 59, 60, 61, 62, 63, 64, 65, 66, 67, 68, 69, 70, 71, 72, 73, 74, 75, 76, 77, 78] (by decide +kernel) (by decide +kernel)
set_option maxRecDepth 20000 in
theorem gX10_orchard_X10_readItem : GoodIn wsX10_orchard (wsV RX10 116 RX10 yX10_readItem wsX10_readItem) := goodIn_app (goodIn_of _ (by decide +kernel)) ggX10_orchard_X10_readItem
set_option maxRecDepth 20000 in
theorem ggX10_orchard_X10_begin : GoodIn wsX10_orchard wsX10_begin := goodIn_r _ [51, 14, 52, 53, 54, 55, 56, 57, 58, 59, 60, 61, 62, 63, 64, 65, 66, 67, 68, 69, 70, 71, 72, 73, 74, 75, 76, 77, 78] (by decide +kernel) (by decide +kernel)
set_option maxRecDepth 20000 in
theorem gX10_orchard_X10_begin : GoodIn wsX10_orchard (wsV RX10 119 RX10 yX10_begin wsX10_begin) := goodIn_app (goodIn_of _ (by decide +kernel)) ggX10_orchard_X10_begin
theorem dX10_orchard_0 : decode cX10_orchard 0 = .ok (.aload_n 0, 1) := by decide +kernel
theorem dX10_orchard_1 : decode cX10_orchard 1 = .ok (.iconst 0, 1) := by decide +kernel
theorem dX10_orchard_2 : decode cX10_orchard 2 = .ok (.putfield 82, 3) := by decide +kernel
theorem dX10_orchard_5 : decode cX10_orchard 5 = .ok (.aload_n 0, 1) := by decide +kernel
theorem dX10_orchard_6 : decode cX10_orchard 6 = .ok (.bipush (-9), 2) := by decide +kernel
theorem dX10_orchard_8 : decode cX10_orchard 8 = .ok (.putfield 103, 3) := by decide +kernel
theorem dX10_orchard_11 : decode cX10_orchard 11 = .ok (.aload_n 0, 1) := by decide +kernel
theorem dX10_orchard_12 : decode cX10_orchard 12 = .ok (.getfield 13, 3) := by decide +kernel
theorem dX10_orchard_15 : decode cX10_orchard 15 = .ok (.iconst 1, 1) := by decide +kernel
theorem dX10_orchard_16 : decode cX10_orchard 16 = .ok (.iconst 0, 1) := by decide +kernel
theorem dX10_orchard_17 : decode cX10_orchard 17 = .ok (.iastore, 1) := by decide +kernel
theorem dX10_orchard_18 : decode cX10_orchard 18 = .ok (.aload_n 0, 1) := by decide +kernel
theorem dX10_orchard_19 : decode cX10_orchard 19 = .ok (.getfield 33, 3) := by decide +kernel
theorem dX10_orchard_22 : decode cX10_orchard 22 = .ok (.iconst 1, 1) := by decide +kernel
theorem dX10_orchard_23 : decode cX10_orchard 23 = .ok (.iconst 0, 1) := by decide +kernel
theorem dX10_orchard_24 : decode cX10_orchard 24 = .ok (.iastore, 1) := by decide +kernel
theorem dX10_orchard_25 : decode cX10_orchard 25 = .ok (.bipush 64, 2) := by decide +kernel
theorem dX10_orchard_27 : decode cX10_orchard 27 = .ok (.istore_n 1, 1) := by decide +kernel
theorem dX10_orchard_28 : decode cX10_orchard 28 = .ok (.iload_n 1, 1) := by decide +kernel
theorem dX10_orchard_29 : decode cX10_orchard 29 = .ok (.sipush 128, 3) := by decide +kernel
theorem dX10_orchard_32 : decode cX10_orchard 32 = .ok (.if_icmp .ge 16, 3) := by decide +kernel
theorem dX10_orchard_35 : decode cX10_orchard 35 = .ok (.aload_n 0, 1) := by decide +kernel
theorem dX10_orchard_36 : decode cX10_orchard 36 = .ok (.getfield 29, 3) := by decide +kernel
theorem dX10_orchard_39 : decode cX10_orchard 39 = .ok (.iload_n 1, 1) := by decide +kernel
theorem dX10_orchard_40 : decode cX10_orchard 40 = .ok (.iconst 0, 1) := by decide +kernel
theorem dX10_orchard_41 : decode cX10_orchard 41 = .ok (.bastore, 1) := by decide +kernel
theorem dX10_orchard_42 : decode cX10_orchard 42 = .ok (.iinc 1 1, 3) := by decide +kernel
theorem dX10_orchard_45 : decode cX10_orchard 45 = .ok (.goto (-17), 3) := by decide +kernel
theorem dX10_orchard_48 : decode cX10_orchard 48 = .ok (.iconst 0, 1) := by decide +kernel
theorem dX10_orchard_49 : decode cX10_orchard 49 = .ok (.istore_n 1, 1) := by decide +kernel
theorem dX10_orchard_50 : decode cX10_orchard 50 = .ok (.aload_n 0, 1) := by decide +kernel
theorem dX10_orchard_51 : decode cX10_orchard 51 = .ok (.invokevirtual 106, 3) := by decide +kernel
theorem dX10_orchard_54 : decode cX10_orchard 54 = .ok (.aload_n 0, 1) := by decide +kernel
theorem dX10_orchard_55 : decode cX10_orchard 55 = .ok (.getfield 103, 3) := by decide +kernel
theorem dX10_orchard_58 : decode cX10_orchard 58 = .ok (.bipush (-9), 2) := by decide +kernel
theorem dX10_orchard_60 : decode cX10_orchard 60 = .ok (.if_icmp .ne 21, 3) := by decide +kernel
theorem dX10_orchard_63 : decode cX10_orchard 63 = .ok (.aload_n 0, 1) := by decide +kernel
theorem dX10_orchard_64 : decode cX10_orchard 64 = .ok (.getfield 96, 3) := by decide +kernel
theorem dX10_orchard_67 : decode cX10_orchard 67 = .ok (.iconst 4, 1) := by decide +kernel
theorem dX10_orchard_68 : decode cX10_orchard 68 = .ok (.if_icmp .eq 13, 3) := by decide +kernel
theorem dX10_orchard_71 : decode cX10_orchard 71 = .ok (.aload_n 0, 1) := by decide +kernel
theorem dX10_orchard_72 : decode cX10_orchard 72 = .ok (.invokevirtual 116, 3) := by decide +kernel
theorem dX10_orchard_75 : decode cX10_orchard 75 = .ok (.iinc 1 1, 3) := by decide +kernel
theorem dX10_orchard_78 : decode cX10_orchard 78 = .ok (.goto (-24), 3) := by decide +kernel
theorem dX10_orchard_81 : decode cX10_orchard 81 = .ok (.aload_n 0, 1) := by decide +kernel
theorem dX10_orchard_82 : decode cX10_orchard 82 = .ok (.getfield 103, 3) := by decide +kernel
theorem dX10_orchard_85 : decode cX10_orchard 85 = .ok (.bipush (-9), 2) := by decide +kernel
theorem dX10_orchard_87 : decode cX10_orchard 87 = .ok (.if_icmp .eq 11, 3) := by decide +kernel
theorem dX10_orchard_90 : decode cX10_orchard 90 = .ok (.bipush (-10), 2) := by decide +kernel
theorem dX10_orchard_92 : decode cX10_orchard 92 = .ok (.aload_n 0, 1) := by decide +kernel
theorem dX10_orchard_93 : decode cX10_orchard 93 = .ok (.getfield 103, 3) := by decide +kernel
theorem dX10_orchard_96 : decode cX10_orchard 96 = .ok (.isub, 1) := by decide +kernel
theorem dX10_orchard_97 : decode cX10_orchard 97 = .ok (.ireturn, 1) := by decide +kernel
theorem dX10_orchard_98 : decode cX10_orchard 98 = .ok (.aload_n 0, 1) := by decide +kernel
theorem dX10_orchard_99 : decode cX10_orchard 99 = .ok (.getfield 13, 3) := by decide +kernel
theorem dX10_orchard_102 : decode cX10_orchard 102 = .ok (.iconst 0, 1) := by decide +kernel
theorem dX10_orchard_103 : decode cX10_orchard 103 = .ok (.aload_n 0, 1) := by decide +kernel
theorem dX10_orchard_104 : decode cX10_orchard 104 = .ok (.getfield 13, 3) := by decide +kernel
theorem dX10_orchard_107 : decode cX10_orchard 107 = .ok (.iconst 1, 1) := by decide +kernel
theorem dX10_orchard_108 : decode cX10_orchard 108 = .ok (.iaload, 1) := by decide +kernel
theorem dX10_orchard_109 : decode cX10_orchard 109 = .ok (.iastore, 1) := by decide +kernel
theorem dX10_orchard_110 : decode cX10_orchard 110 = .ok (.aload_n 0, 1) := by decide +kernel
theorem dX10_orchard_111 : decode cX10_orchard 111 = .ok (.getfield 33, 3) := by decide +kernel
theorem dX10_orchard_114 : decode cX10_orchard 114 = .ok (.iconst 0, 1) := by decide +kernel
theorem dX10_orchard_115 : decode cX10_orchard 115 = .ok (.aload_n 0, 1) := by decide +kernel
theorem dX10_orchard_116 : decode cX10_orchard 116 = .ok (.getfield 33, 3) := by decide +kernel
theorem dX10_orchard_119 : decode cX10_orchard 119 = .ok (.iconst 1, 1) := by decide +kernel
theorem dX10_orchard_120 : decode cX10_orchard 120 = .ok (.iaload, 1) := by decide +kernel
theorem dX10_orchard_121 : decode cX10_orchard 121 = .ok (.iastore, 1) := by decide +kernel
theorem dX10_orchard_122 : decode cX10_orchard 122 = .ok (.iconst 0, 1) := by decide +kernel
theorem dX10_orchard_123 : decode cX10_orchard 123 = .ok (.istore_n 2, 1) := by decide +kernel
theorem dX10_orchard_124 : decode cX10_orchard 124 = .ok (.iload_n 2, 1) := by decide +kernel
theorem dX10_orchard_125 : decode cX10_orchard 125 = .ok (.bipush 8, 2) := by decide +kernel
theorem dX10_orchard_127 : decode cX10_orchard 127 = .ok (.if_icmp .ge 69, 3) := by decide +kernel
theorem dX10_orchard_130 : decode cX10_orchard 130 = .ok (.aload_n 0, 1) := by decide +kernel
theorem dX10_orchard_131 : decode cX10_orchard 131 = .ok (.getfield 17, 3) := by decide +kernel
theorem dX10_orchard_134 : decode cX10_orchard 134 = .ok (.iload_n 2, 1) := by decide +kernel
theorem dX10_orchard_135 : decode cX10_orchard 135 = .ok (.aload_n 0, 1) := by decide +kernel
theorem dX10_orchard_136 : decode cX10_orchard 136 = .ok (.getfield 17, 3) := by decide +kernel
theorem dX10_orchard_139 : decode cX10_orchard 139 = .ok (.bipush 8, 2) := by decide +kernel
theorem dX10_orchard_141 : decode cX10_orchard 141 = .ok (.iload_n 2, 1) := by decide +kernel
theorem dX10_orchard_142 : decode cX10_orchard 142 = .ok (.iadd, 1) := by decide +kernel
theorem dX10_orchard_143 : decode cX10_orchard 143 = .ok (.iaload, 1) := by decide +kernel
theorem dX10_orchard_144 : decode cX10_orchard 144 = .ok (.iastore, 1) := by decide +kernel
theorem dX10_orchard_145 : decode cX10_orchard 145 = .ok (.aload_n 0, 1) := by decide +kernel
theorem dX10_orchard_146 : decode cX10_orchard 146 = .ok (.getfield 20, 3) := by decide +kernel
theorem dX10_orchard_149 : decode cX10_orchard 149 = .ok (.iload_n 2, 1) := by decide +kernel
theorem dX10_orchard_150 : decode cX10_orchard 150 = .ok (.aload_n 0, 1) := by decide +kernel
theorem dX10_orchard_151 : decode cX10_orchard 151 = .ok (.getfield 20, 3) := by decide +kernel
theorem dX10_orchard_154 : decode cX10_orchard 154 = .ok (.bipush 8, 2) := by decide +kernel
theorem dX10_orchard_156 : decode cX10_orchard 156 = .ok (.iload_n 2, 1) := by decide +kernel
theorem dX10_orchard_157 : decode cX10_orchard 157 = .ok (.iadd, 1) := by decide +kernel
theorem dX10_orchard_158 : decode cX10_orchard 158 = .ok (.iaload, 1) := by decide +kernel
theorem dX10_orchard_159 : decode cX10_orchard 159 = .ok (.iastore, 1) := by decide +kernel
theorem dX10_orchard_160 : decode cX10_orchard 160 = .ok (.aload_n 0, 1) := by decide +kernel
theorem dX10_orchard_161 : decode cX10_orchard 161 = .ok (.getfield 23, 3) := by decide +kernel
theorem dX10_orchard_164 : decode cX10_orchard 164 = .ok (.iload_n 2, 1) := by decide +kernel
theorem dX10_orchard_165 : decode cX10_orchard 165 = .ok (.aload_n 0, 1) := by decide +kernel
theorem dX10_orchard_166 : decode cX10_orchard 166 = .ok (.getfield 23, 3) := by decide +kernel
theorem dX10_orchard_169 : decode cX10_orchard 169 = .ok (.bipush 8, 2) := by decide +kernel
theorem dX10_orchard_171 : decode cX10_orchard 171 = .ok (.iload_n 2, 1) := by decide +kernel
theorem dX10_orchard_172 : decode cX10_orchard 172 = .ok (.iadd, 1) := by decide +kernel
theorem dX10_orchard_173 : decode cX10_orchard 173 = .ok (.iaload, 1) := by decide +kernel
theorem dX10_orchard_174 : decode cX10_orchard 174 = .ok (.iastore, 1) := by decide +kernel
theorem dX10_orchard_175 : decode cX10_orchard 175 = .ok (.aload_n 0, 1) := by decide +kernel
theorem dX10_orchard_176 : decode cX10_orchard 176 = .ok (.getfield 26, 3) := by decide +kernel
theorem dX10_orchard_179 : decode cX10_orchard 179 = .ok (.iload_n 2, 1) := by decide +kernel
theorem dX10_orchard_180 : decode cX10_orchard 180 = .ok (.aload_n 0, 1) := by decide +kernel
theorem dX10_orchard_181 : decode cX10_orchard 181 = .ok (.getfield 26, 3) := by decide +kernel
theorem dX10_orchard_184 : decode cX10_orchard 184 = .ok (.bipush 8, 2) := by decide +kernel
theorem dX10_orchard_186 : decode cX10_orchard 186 = .ok (.iload_n 2, 1) := by decide +kernel
theorem dX10_orchard_187 : decode cX10_orchard 187 = .ok (.iadd, 1) := by decide +kernel
theorem dX10_orchard_188 : decode cX10_orchard 188 = .ok (.iaload, 1) := by decide +kernel
theorem dX10_orchard_189 : decode cX10_orchard 189 = .ok (.iastore, 1) := by decide +kernel
theorem dX10_orchard_190 : decode cX10_orchard 190 = .ok (.iinc 2 1, 3) := by decide +kernel
theorem dX10_orchard_193 : decode cX10_orchard 193 = .ok (.goto (-69), 3) := by decide +kernel
theorem dX10_orchard_196 : decode cX10_orchard 196 = .ok (.iconst 0, 1) := by decide +kernel
theorem dX10_orchard_197 : decode cX10_orchard 197 = .ok (.istore_n 2, 1) := by decide +kernel
theorem dX10_orchard_198 : decode cX10_orchard 198 = .ok (.iload_n 2, 1) := by decide +kernel
theorem dX10_orchard_199 : decode cX10_orchard 199 = .ok (.bipush 64, 2) := by decide +kernel
theorem dX10_orchard_201 : decode cX10_orchard 201 = .ok (.if_icmp .ge 24, 3) := by decide +kernel
theorem dX10_orchard_204 : decode cX10_orchard 204 = .ok (.aload_n 0, 1) := by decide +kernel
theorem dX10_orchard_205 : decode cX10_orchard 205 = .ok (.getfield 29, 3) := by decide +kernel
theorem dX10_orchard_208 : decode cX10_orchard 208 = .ok (.iload_n 2, 1) := by decide +kernel
theorem dX10_orchard_209 : decode cX10_orchard 209 = .ok (.aload_n 0, 1) := by decide +kernel
theorem dX10_orchard_210 : decode cX10_orchard 210 = .ok (.getfield 29, 3) := by decide +kernel
theorem dX10_orchard_213 : decode cX10_orchard 213 = .ok (.bipush 64, 2) := by decide +kernel
theorem dX10_orchard_215 : decode cX10_orchard 215 = .ok (.iload_n 2, 1) := by decide +kernel
theorem dX10_orchard_216 : decode cX10_orchard 216 = .ok (.iadd, 1) := by decide +kernel
theorem dX10_orchard_217 : decode cX10_orchard 217 = .ok (.baload, 1) := by decide +kernel
theorem dX10_orchard_218 : decode cX10_orchard 218 = .ok (.bastore, 1) := by decide +kernel
theorem dX10_orchard_219 : decode cX10_orchard 219 = .ok (.iinc 2 1, 3) := by decide +kernel
theorem dX10_orchard_222 : decode cX10_orchard 222 = .ok (.goto (-24), 3) := by decide +kernel
theorem dX10_orchard_225 : decode cX10_orchard 225 = .ok (.iconst 0, 1) := by decide +kernel
theorem dX10_orchard_226 : decode cX10_orchard 226 = .ok (.istore_n 2, 1) := by decide +kernel
theorem dX10_orchard_227 : decode cX10_orchard 227 = .ok (.iload_n 2, 1) := by decide +kernel
theorem dX10_orchard_228 : decode cX10_orchard 228 = .ok (.iconst 5, 1) := by decide +kernel
theorem dX10_orchard_229 : decode cX10_orchard 229 = .ok (.if_icmp .ge 51, 3) := by decide +kernel
theorem dX10_orchard_232 : decode cX10_orchard 232 = .ok (.aload_n 0, 1) := by decide +kernel
theorem dX10_orchard_233 : decode cX10_orchard 233 = .ok (.getfield 36, 3) := by decide +kernel
theorem dX10_orchard_236 : decode cX10_orchard 236 = .ok (.iload_n 2, 1) := by decide +kernel
theorem dX10_orchard_237 : decode cX10_orchard 237 = .ok (.aload_n 0, 1) := by decide +kernel
theorem dX10_orchard_238 : decode cX10_orchard 238 = .ok (.getfield 36, 3) := by decide +kernel
theorem dX10_orchard_241 : decode cX10_orchard 241 = .ok (.iconst 5, 1) := by decide +kernel
theorem dX10_orchard_242 : decode cX10_orchard 242 = .ok (.iload_n 2, 1) := by decide +kernel
theorem dX10_orchard_243 : decode cX10_orchard 243 = .ok (.iadd, 1) := by decide +kernel
theorem dX10_orchard_244 : decode cX10_orchard 244 = .ok (.iaload, 1) := by decide +kernel
theorem dX10_orchard_245 : decode cX10_orchard 245 = .ok (.iastore, 1) := by decide +kernel
theorem dX10_orchard_246 : decode cX10_orchard 246 = .ok (.aload_n 0, 1) := by decide +kernel
theorem dX10_orchard_247 : decode cX10_orchard 247 = .ok (.getfield 39, 3) := by decide +kernel
theorem dX10_orchard_250 : decode cX10_orchard 250 = .ok (.iload_n 2, 1) := by decide +kernel
theorem dX10_orchard_251 : decode cX10_orchard 251 = .ok (.aload_n 0, 1) := by decide +kernel
theorem dX10_orchard_252 : decode cX10_orchard 252 = .ok (.getfield 39, 3) := by decide +kernel
theorem dX10_orchard_255 : decode cX10_orchard 255 = .ok (.iconst 5, 1) := by decide +kernel
theorem dX10_orchard_256 : decode cX10_orchard 256 = .ok (.iload_n 2, 1) := by decide +kernel
theorem dX10_orchard_257 : decode cX10_orchard 257 = .ok (.iadd, 1) := by decide +kernel
theorem dX10_orchard_258 : decode cX10_orchard 258 = .ok (.iaload, 1) := by decide +kernel
theorem dX10_orchard_259 : decode cX10_orchard 259 = .ok (.iastore, 1) := by decide +kernel
theorem dX10_orchard_260 : decode cX10_orchard 260 = .ok (.aload_n 0, 1) := by decide +kernel
theorem dX10_orchard_261 : decode cX10_orchard 261 = .ok (.getfield 42, 3) := by decide +kernel
theorem dX10_orchard_264 : decode cX10_orchard 264 = .ok (.iload_n 2, 1) := by decide +kernel
theorem dX10_orchard_265 : decode cX10_orchard 265 = .ok (.aload_n 0, 1) := by decide +kernel
theorem dX10_orchard_266 : decode cX10_orchard 266 = .ok (.getfield 42, 3) := by decide +kernel
theorem dX10_orchard_269 : decode cX10_orchard 269 = .ok (.iconst 5, 1) := by decide +kernel
theorem dX10_orchard_270 : decode cX10_orchard 270 = .ok (.iload_n 2, 1) := by decide +kernel
theorem dX10_orchard_271 : decode cX10_orchard 271 = .ok (.iadd, 1) := by decide +kernel
theorem dX10_orchard_272 : decode cX10_orchard 272 = .ok (.iaload, 1) := by decide +kernel
theorem dX10_orchard_273 : decode cX10_orchard 273 = .ok (.iastore, 1) := by decide +kernel
theorem dX10_orchard_274 : decode cX10_orchard 274 = .ok (.iinc 2 1, 3) := by decide +kernel
theorem dX10_orchard_277 : decode cX10_orchard 277 = .ok (.goto (-50), 3) := by decide +kernel
theorem dX10_orchard_280 : decode cX10_orchard 280 = .ok (.aload_n 0, 1) := by decide +kernel
theorem dX10_orchard_281 : decode cX10_orchard 281 = .ok (.invokevirtual 119, 3) := by decide +kernel
theorem dX10_orchard_284 : decode cX10_orchard 284 = .ok (.iconst 0, 1) := by decide +kernel
theorem dX10_orchard_285 : decode cX10_orchard 285 = .ok (.istore_n 2, 1) := by decide +kernel
theorem dX10_orchard_286 : decode cX10_orchard 286 = .ok (.iload_n 2, 1) := by decide +kernel
theorem dX10_orchard_287 : decode cX10_orchard 287 = .ok (.aload_n 0, 1) := by decide +kernel
theorem dX10_orchard_288 : decode cX10_orchard 288 = .ok (.getfield 33, 3) := by decide +kernel
theorem dX10_orchard_291 : decode cX10_orchard 291 = .ok (.iconst 0, 1) := by decide +kernel
theorem dX10_orchard_292 : decode cX10_orchard 292 = .ok (.iaload, 1) := by decide +kernel
theorem dX10_orchard_293 : decode cX10_orchard 293 = .ok (.if_icmp .ge 24, 3) := by decide +kernel
theorem dX10_orchard_296 : decode cX10_orchard 296 = .ok (.aload_n 0, 1) := by decide +kernel
theorem dX10_orchard_297 : decode cX10_orchard 297 = .ok (.getfield 45, 3) := by decide +kernel
theorem dX10_orchard_300 : decode cX10_orchard 300 = .ok (.bipush 6, 2) := by decide +kernel
theorem dX10_orchard_302 : decode cX10_orchard 302 = .ok (.iload_n 2, 1) := by decide +kernel
theorem dX10_orchard_303 : decode cX10_orchard 303 = .ok (.iadd, 1) := by decide +kernel
theorem dX10_orchard_304 : decode cX10_orchard 304 = .ok (.aload_n 0, 1) := by decide +kernel
theorem dX10_orchard_305 : decode cX10_orchard 305 = .ok (.getfield 42, 3) := by decide +kernel
theorem dX10_orchard_308 : decode cX10_orchard 308 = .ok (.iload_n 2, 1) := by decide +kernel
theorem dX10_orchard_309 : decode cX10_orchard 309 = .ok (.iaload, 1) := by decide +kernel
theorem dX10_orchard_310 : decode cX10_orchard 310 = .ok (.iastore, 1) := by decide +kernel
theorem dX10_orchard_311 : decode cX10_orchard 311 = .ok (.iinc 2 1, 3) := by decide +kernel
theorem dX10_orchard_314 : decode cX10_orchard 314 = .ok (.goto (-28), 3) := by decide +kernel
theorem dX10_orchard_317 : decode cX10_orchard 317 = .ok (.aload_n 0, 1) := by decide +kernel
theorem dX10_orchard_318 : decode cX10_orchard 318 = .ok (.getfield 48, 3) := by decide +kernel
theorem dX10_orchard_321 : decode cX10_orchard 321 = .ok (.iconst 0, 1) := by decide +kernel
theorem dX10_orchard_322 : decode cX10_orchard 322 = .ok (.iconst 0, 1) := by decide +kernel
theorem dX10_orchard_323 : decode cX10_orchard 323 = .ok (.bastore, 1) := by decide +kernel
theorem dX10_orchard_324 : decode cX10_orchard 324 = .ok (.aload_n 0, 1) := by decide +kernel
theorem dX10_orchard_325 : decode cX10_orchard 325 = .ok (.getfield 48, 3) := by decide +kernel
theorem dX10_orchard_328 : decode cX10_orchard 328 = .ok (.iconst 1, 1) := by decide +kernel
theorem dX10_orchard_329 : decode cX10_orchard 329 = .ok (.iconst 0, 1) := by decide +kernel
theorem dX10_orchard_330 : decode cX10_orchard 330 = .ok (.bastore, 1) := by decide +kernel
theorem dX10_orchard_331 : decode cX10_orchard 331 = .ok (.aload_n 0, 1) := by decide +kernel
theorem dX10_orchard_332 : decode cX10_orchard 332 = .ok (.iconst 0, 1) := by decide +kernel
theorem dX10_orchard_333 : decode cX10_orchard 333 = .ok (.putfield 76, 3) := by decide +kernel
theorem dX10_orchard_336 : decode cX10_orchard 336 = .ok (.iload_n 1, 1) := by decide +kernel
theorem dX10_orchard_337 : decode cX10_orchard 337 = .ok (.ireturn, 1) := by decide +kernel
set_option maxRecDepth 20000 in
theorem ggX10_isOne_X10_in : GoodIn wsX10_isOne wsX10_in := goodIn_r _ [5] (by decide +kernel) (by decide +kernel)
set_option maxRecDepth 20000 in
theorem gX10_isOne_X10_in : GoodIn wsX10_isOne (va_wsS RX10 72 yX10_in wsX10_in) := goodIn_app (goodIn_of _ (by decide +kernel)) ggX10_isOne_X10_in
theorem dX10_isOne_0 : decode cX10_isOne 0 = .ok (.iload_n 1, 1) := by decide +kernel
theorem dX10_isOne_1 : decode cX10_isOne 1 = .ok (.iconst 0, 1) := by decide +kernel
theorem dX10_isOne_2 : decode cX10_isOne 2 = .ok (.aload_n 0, 1) := by decide +kernel
theorem dX10_isOne_3 : decode cX10_isOne 3 = .ok (.getfield 13, 3) := by decide +kernel
theorem dX10_isOne_6 : decode cX10_isOne 6 = .ok (.iconst 0, 1) := by decide +kernel
theorem dX10_isOne_7 : decode cX10_isOne 7 = .ok (.iaload, 1) := by decide +kernel
theorem dX10_isOne_8 : decode cX10_isOne 8 = .ok (.iconst 1, 1) := by decide +kernel
theorem dX10_isOne_9 : decode cX10_isOne 9 = .ok (.isub, 1) := by decide +kernel
theorem dX10_isOne_10 : decode cX10_isOne 10 = .ok (.invokestatic 72, 3) := by decide +kernel
theorem dX10_isOne_13 : decode cX10_isOne 13 = .ok (.ireturn, 1) := by decide +kernel
set_option maxRecDepth 20000 in
theorem ggX10_isTree_X10_in : GoodIn wsX10_isTree wsX10_in := goodIn_r _ [5] (by decide +kernel) (by decide +kernel)
set_option maxRecDepth 20000 in
theorem gX10_isTree_X10_in : GoodIn wsX10_isTree (va_wsS RX10 72 yX10_in wsX10_in) := goodIn_app (goodIn_of _ (by decide +kernel)) ggX10_isTree_X10_in
theorem dX10_isTree_0 : decode cX10_isTree 0 = .ok (.iload_n 1, 1) := by decide +kernel
theorem dX10_isTree_1 : decode cX10_isTree 1 = .ok (.iconst 0, 1) := by decide +kernel
theorem dX10_isTree_2 : decode cX10_isTree 2 = .ok (.aload_n 0, 1) := by decide +kernel
theorem dX10_isTree_3 : decode cX10_isTree 3 = .ok (.getfield 33, 3) := by decide +kernel
theorem dX10_isTree_6 : decode cX10_isTree 6 = .ok (.iconst 0, 1) := by decide +kernel
theorem dX10_isTree_7 : decode cX10_isTree 7 = .ok (.iaload, 1) := by decide +kernel
theorem dX10_isTree_8 : decode cX10_isTree 8 = .ok (.iconst 1, 1) := by decide +kernel
theorem dX10_isTree_9 : decode cX10_isTree 9 = .ok (.isub, 1) := by decide +kernel
theorem dX10_isTree_10 : decode cX10_isTree 10 = .ok (.invokestatic 72, 3) := by decide +kernel
theorem dX10_isTree_13 : decode cX10_isTree 13 = .ok (.ireturn, 1) := by decide +kernel
theorem dX10_fits_0 : decode cX10_fits 0 = .ok (.aload_n 0, 1) := by decide +kernel
theorem dX10_fits_1 : decode cX10_fits 1 = .ok (.getfield 17, 3) := by decide +kernel
theorem dX10_fits_4 : decode cX10_fits 4 = .ok (.iload_n 1, 1) := by decide +kernel
theorem dX10_fits_5 : decode cX10_fits 5 = .ok (.iaload, 1) := by decide +kernel
theorem dX10_fits_6 : decode cX10_fits 6 = .ok (.aload_n 0, 1) := by decide +kernel
theorem dX10_fits_7 : decode cX10_fits 7 = .ok (.getfield 17, 3) := by decide +kernel
theorem dX10_fits_10 : decode cX10_fits 10 = .ok (.iload_n 2, 1) := by decide +kernel
theorem dX10_fits_11 : decode cX10_fits 11 = .ok (.iaload, 1) := by decide +kernel
theorem dX10_fits_12 : decode cX10_fits 12 = .ok (.if_icmp .eq 36, 3) := by decide +kernel
theorem dX10_fits_15 : decode cX10_fits 15 = .ok (.aload_n 0, 1) := by decide +kernel
theorem dX10_fits_16 : decode cX10_fits 16 = .ok (.getfield 20, 3) := by decide +kernel
theorem dX10_fits_19 : decode cX10_fits 19 = .ok (.iload_n 1, 1) := by decide +kernel
theorem dX10_fits_20 : decode cX10_fits 20 = .ok (.iaload, 1) := by decide +kernel
theorem dX10_fits_21 : decode cX10_fits 21 = .ok (.aload_n 0, 1) := by decide +kernel
theorem dX10_fits_22 : decode cX10_fits 22 = .ok (.getfield 20, 3) := by decide +kernel
theorem dX10_fits_25 : decode cX10_fits 25 = .ok (.iload_n 2, 1) := by decide +kernel
theorem dX10_fits_26 : decode cX10_fits 26 = .ok (.iaload, 1) := by decide +kernel
theorem dX10_fits_27 : decode cX10_fits 27 = .ok (.if_icmp .ne 21, 3) := by decide +kernel
theorem dX10_fits_30 : decode cX10_fits 30 = .ok (.aload_n 0, 1) := by decide +kernel
theorem dX10_fits_31 : decode cX10_fits 31 = .ok (.getfield 29, 3) := by decide +kernel
theorem dX10_fits_34 : decode cX10_fits 34 = .ok (.bipush 8, 2) := by decide +kernel
theorem dX10_fits_36 : decode cX10_fits 36 = .ok (.iload_n 1, 1) := by decide +kernel
theorem dX10_fits_37 : decode cX10_fits 37 = .ok (.imul, 1) := by decide +kernel
theorem dX10_fits_38 : decode cX10_fits 38 = .ok (.iload_n 2, 1) := by decide +kernel
theorem dX10_fits_39 : decode cX10_fits 39 = .ok (.iadd, 1) := by decide +kernel
theorem dX10_fits_40 : decode cX10_fits 40 = .ok (.baload, 1) := by decide +kernel
theorem dX10_fits_41 : decode cX10_fits 41 = .ok (.ifCond .ne 7, 3) := by decide +kernel
theorem dX10_fits_44 : decode cX10_fits 44 = .ok (.iconst 1, 1) := by decide +kernel
theorem dX10_fits_45 : decode cX10_fits 45 = .ok (.goto 4, 3) := by decide +kernel
theorem dX10_fits_48 : decode cX10_fits 48 = .ok (.iconst 0, 1) := by decide +kernel
theorem dX10_fits_49 : decode cX10_fits 49 = .ok (.ireturn, 1) := by decide +kernel
theorem dX10_ladder_0 : decode cX10_ladder 0 = .ok (.aload_n 0, 1) := by decide +kernel
theorem dX10_ladder_1 : decode cX10_ladder 1 = .ok (.getfield 23, 3) := by decide +kernel
theorem dX10_ladder_4 : decode cX10_ladder 4 = .ok (.iload_n 1, 1) := by decide +kernel
theorem dX10_ladder_5 : decode cX10_ladder 5 = .ok (.iaload, 1) := by decide +kernel
theorem dX10_ladder_6 : decode cX10_ladder 6 = .ok (.aload_n 0, 1) := by decide +kernel
theorem dX10_ladder_7 : decode cX10_ladder 7 = .ok (.getfield 23, 3) := by decide +kernel
theorem dX10_ladder_10 : decode cX10_ladder 10 = .ok (.iload_n 2, 1) := by decide +kernel
theorem dX10_ladder_11 : decode cX10_ladder 11 = .ok (.iaload, 1) := by decide +kernel
theorem dX10_ladder_12 : decode cX10_ladder 12 = .ok (.if_icmp .ge 12, 3) := by decide +kernel
theorem dX10_ladder_15 : decode cX10_ladder 15 = .ok (.aload_n 0, 1) := by decide +kernel
theorem dX10_ladder_16 : decode cX10_ladder 16 = .ok (.getfield 23, 3) := by decide +kernel
theorem dX10_ladder_19 : decode cX10_ladder 19 = .ok (.iload_n 1, 1) := by decide +kernel
theorem dX10_ladder_20 : decode cX10_ladder 20 = .ok (.iaload, 1) := by decide +kernel
theorem dX10_ladder_21 : decode cX10_ladder 21 = .ok (.goto 9, 3) := by decide +kernel
theorem dX10_ladder_24 : decode cX10_ladder 24 = .ok (.aload_n 0, 1) := by decide +kernel
theorem dX10_ladder_25 : decode cX10_ladder 25 = .ok (.getfield 23, 3) := by decide +kernel
theorem dX10_ladder_28 : decode cX10_ladder 28 = .ok (.iload_n 2, 1) := by decide +kernel
theorem dX10_ladder_29 : decode cX10_ladder 29 = .ok (.iaload, 1) := by decide +kernel
theorem dX10_ladder_30 : decode cX10_ladder 30 = .ok (.ireturn, 1) := by decide +kernel
set_option maxRecDepth 20000 in
theorem ggX10_half_X10_isOne : GoodIn wsX10_half wsX10_isOne := goodIn_r _ [10, 11, 12, 13, 9, 14, 15, 16, 17, 18, 19, 20, 21, 22, 23, 24, 25, 26, 27, 28, 29, 30, 31, 32, 33, 34, 35, 36, 37, 38, 39, 40, 41] (by decide +kernel) (by decide +kernel)
set_option maxRecDepth 20000 in
theorem gX10_half_X10_isOne : GoodIn wsX10_half (wsV RX10 122 RX10 yX10_isOne wsX10_isOne) := goodIn_app (goodIn_of _ (by decide +kernel)) ggX10_half_X10_isOne
set_option maxRecDepth 20000 in
theorem ggX10_half_X10_in : GoodIn wsX10_half wsX10_in := goodIn_r _ [14] (by decide +kernel) (by decide +kernel)
set_option maxRecDepth 20000 in
theorem gX10_half_X10_in : GoodIn wsX10_half (va_wsS RX10 72 yX10_in wsX10_in) := goodIn_app (goodIn_of _ (by decide +kernel)) ggX10_half_X10_in
theorem dX10_half_0 : decode cX10_half 0 = .ok (.aload_n 0, 1) := by decide +kernel
theorem dX10_half_1 : decode cX10_half 1 = .ok (.iload_n 1, 1) := by decide +kernel
theorem dX10_half_2 : decode cX10_half 2 = .ok (.invokevirtual 122, 3) := by decide +kernel
theorem dX10_half_5 : decode cX10_half 5 = .ok (.ifCond .eq 12, 3) := by decide +kernel
theorem dX10_half_8 : decode cX10_half 8 = .ok (.iload_n 2, 1) := by decide +kernel
theorem dX10_half_9 : decode cX10_half 9 = .ok (.iconst 0, 1) := by decide +kernel
theorem dX10_half_10 : decode cX10_half 10 = .ok (.iconst 4, 1) := by decide +kernel
theorem dX10_half_11 : decode cX10_half 11 = .ok (.invokestatic 72, 3) := by decide +kernel
theorem dX10_half_14 : decode cX10_half 14 = .ok (.ifCond .ne 5, 3) := by decide +kernel
theorem dX10_half_17 : decode cX10_half 17 = .ok (.iconst (-1), 1) := by decide +kernel
theorem dX10_half_18 : decode cX10_half 18 = .ok (.ireturn, 1) := by decide +kernel
end
section
theorem dX10_half_19 : decode cX10_half 19 = .ok (.iload_n 2, 1) := by decide +kernel
theorem dX10_half_20 : decode cX10_half 20 = .ok (.ifCond .ne 12, 3) := by decide +kernel
theorem dX10_half_23 : decode cX10_half 23 = .ok (.aload_n 0, 1) := by decide +kernel
theorem dX10_half_24 : decode cX10_half 24 = .ok (.getfield 17, 3) := by decide +kernel
theorem dX10_half_27 : decode cX10_half 27 = .ok (.iload_n 1, 1) := by decide +kernel
theorem dX10_half_28 : decode cX10_half 28 = .ok (.iaload, 1) := by decide +kernel
theorem dX10_half_29 : decode cX10_half 29 = .ok (.goto 55, 3) := by decide +kernel
theorem dX10_half_32 : decode cX10_half 32 = .ok (.iload_n 2, 1) := by decide +kernel
theorem dX10_half_33 : decode cX10_half 33 = .ok (.iconst 1, 1) := by decide +kernel
theorem dX10_half_34 : decode cX10_half 34 = .ok (.if_icmp .ne 12, 3) := by decide +kernel
theorem dX10_half_37 : decode cX10_half 37 = .ok (.aload_n 0, 1) := by decide +kernel
theorem dX10_half_38 : decode cX10_half 38 = .ok (.getfield 20, 3) := by decide +kernel
theorem dX10_half_41 : decode cX10_half 41 = .ok (.iload_n 1, 1) := by decide +kernel
theorem dX10_half_42 : decode cX10_half 42 = .ok (.iaload, 1) := by decide +kernel
theorem dX10_half_43 : decode cX10_half 43 = .ok (.goto 41, 3) := by decide +kernel
theorem dX10_half_46 : decode cX10_half 46 = .ok (.iload_n 2, 1) := by decide +kernel
theorem dX10_half_47 : decode cX10_half 47 = .ok (.iconst 2, 1) := by decide +kernel
theorem dX10_half_48 : decode cX10_half 48 = .ok (.if_icmp .ne 12, 3) := by decide +kernel
theorem dX10_half_51 : decode cX10_half 51 = .ok (.aload_n 0, 1) := by decide +kernel
theorem dX10_half_52 : decode cX10_half 52 = .ok (.getfield 23, 3) := by decide +kernel
theorem dX10_half_55 : decode cX10_half 55 = .ok (.iload_n 1, 1) := by decide +kernel
theorem dX10_half_56 : decode cX10_half 56 = .ok (.iaload, 1) := by decide +kernel
theorem dX10_half_57 : decode cX10_half 57 = .ok (.goto 27, 3) := by decide +kernel
theorem dX10_half_60 : decode cX10_half 60 = .ok (.iload_n 2, 1) := by decide +kernel
theorem dX10_half_61 : decode cX10_half 61 = .ok (.iconst 3, 1) := by decide +kernel
theorem dX10_half_62 : decode cX10_half 62 = .ok (.if_icmp .ne 12, 3) := by decide +kernel
theorem dX10_half_65 : decode cX10_half 65 = .ok (.aload_n 0, 1) := by decide +kernel
theorem dX10_half_66 : decode cX10_half 66 = .ok (.getfield 26, 3) := by decide +kernel
theorem dX10_half_69 : decode cX10_half 69 = .ok (.iload_n 1, 1) := by decide +kernel
theorem dX10_half_70 : decode cX10_half 70 = .ok (.iaload, 1) := by decide +kernel
theorem dX10_half_71 : decode cX10_half 71 = .ok (.goto 13, 3) := by decide +kernel
theorem dX10_half_74 : decode cX10_half 74 = .ok (.aload_n 0, 1) := by decide +kernel
theorem dX10_half_75 : decode cX10_half 75 = .ok (.getfield 45, 3) := by decide +kernel
theorem dX10_half_78 : decode cX10_half 78 = .ok (.iconst 3, 1) := by decide +kernel
theorem dX10_half_79 : decode cX10_half 79 = .ok (.iaload, 1) := by decide +kernel
theorem dX10_half_80 : decode cX10_half 80 = .ok (.iload_n 1, 1) := by decide +kernel
theorem dX10_half_81 : decode cX10_half 81 = .ok (.ishr, 1) := by decide +kernel
theorem dX10_half_82 : decode cX10_half 82 = .ok (.iconst 1, 1) := by decide +kernel
theorem dX10_half_83 : decode cX10_half 83 = .ok (.iand, 1) := by decide +kernel
theorem dX10_half_84 : decode cX10_half 84 = .ok (.ireturn, 1) := by decide +kernel
set_option maxRecDepth 20000 in
theorem ggX10_tree_X10_isTree : GoodIn wsX10_tree wsX10_isTree := goodIn_r _ [9, 10, 11, 12, 8, 13, 14, 15, 16, 17, 18, 19, 20, 21, 22, 23, 24, 25, 26, 27, 28, 29, 30, 31, 32, 33, 34, 35, 36, 37, 38, 39, 40] (by decide +kernel) (by decide +kernel)
set_option maxRecDepth 20000 in
theorem gX10_tree_X10_isTree : GoodIn wsX10_tree (wsV RX10 126 RX10 yX10_isTree wsX10_isTree) := goodIn_app (goodIn_of _ (by decide +kernel)) ggX10_tree_X10_isTree
set_option maxRecDepth 20000 in
theorem ggX10_tree_X10_in : GoodIn wsX10_tree wsX10_in := goodIn_r _ [13] (by decide +kernel) (by decide +kernel)
set_option maxRecDepth 20000 in
theorem gX10_tree_X10_in : GoodIn wsX10_tree (va_wsS RX10 72 yX10_in wsX10_in) := goodIn_app (goodIn_of _ (by decide +kernel)) ggX10_tree_X10_in
theorem dX10_tree_0 : decode cX10_tree 0 = .ok (.aload_n 0, 1) := by decide +kernel
theorem dX10_tree_1 : decode cX10_tree 1 = .ok (.iload_n 1, 1) := by decide +kernel
theorem dX10_tree_2 : decode cX10_tree 2 = .ok (.invokevirtual 126, 3) := by decide +kernel
theorem dX10_tree_5 : decode cX10_tree 5 = .ok (.ifCond .eq 12, 3) := by decide +kernel
theorem dX10_tree_8 : decode cX10_tree 8 = .ok (.iload_n 2, 1) := by decide +kernel
theorem dX10_tree_9 : decode cX10_tree 9 = .ok (.iconst 0, 1) := by decide +kernel
theorem dX10_tree_10 : decode cX10_tree 10 = .ok (.iconst 4, 1) := by decide +kernel
theorem dX10_tree_11 : decode cX10_tree 11 = .ok (.invokestatic 72, 3) := by decide +kernel
theorem dX10_tree_14 : decode cX10_tree 14 = .ok (.ifCond .ne 5, 3) := by decide +kernel
theorem dX10_tree_17 : decode cX10_tree 17 = .ok (.iconst (-1), 1) := by decide +kernel
theorem dX10_tree_18 : decode cX10_tree 18 = .ok (.ireturn, 1) := by decide +kernel
theorem dX10_tree_19 : decode cX10_tree 19 = .ok (.iload_n 2, 1) := by decide +kernel
theorem dX10_tree_20 : decode cX10_tree 20 = .ok (.ifCond .ne 12, 3) := by decide +kernel
theorem dX10_tree_23 : decode cX10_tree 23 = .ok (.aload_n 0, 1) := by decide +kernel
theorem dX10_tree_24 : decode cX10_tree 24 = .ok (.getfield 36, 3) := by decide +kernel
theorem dX10_tree_27 : decode cX10_tree 27 = .ok (.iload_n 1, 1) := by decide +kernel
theorem dX10_tree_28 : decode cX10_tree 28 = .ok (.iaload, 1) := by decide +kernel
theorem dX10_tree_29 : decode cX10_tree 29 = .ok (.goto 58, 3) := by decide +kernel
theorem dX10_tree_32 : decode cX10_tree 32 = .ok (.iload_n 2, 1) := by decide +kernel
theorem dX10_tree_33 : decode cX10_tree 33 = .ok (.iconst 1, 1) := by decide +kernel
theorem dX10_tree_34 : decode cX10_tree 34 = .ok (.if_icmp .ne 12, 3) := by decide +kernel
theorem dX10_tree_37 : decode cX10_tree 37 = .ok (.aload_n 0, 1) := by decide +kernel
theorem dX10_tree_38 : decode cX10_tree 38 = .ok (.getfield 39, 3) := by decide +kernel
theorem dX10_tree_41 : decode cX10_tree 41 = .ok (.iload_n 1, 1) := by decide +kernel
theorem dX10_tree_42 : decode cX10_tree 42 = .ok (.iaload, 1) := by decide +kernel
theorem dX10_tree_43 : decode cX10_tree 43 = .ok (.goto 44, 3) := by decide +kernel
theorem dX10_tree_46 : decode cX10_tree 46 = .ok (.iload_n 2, 1) := by decide +kernel
theorem dX10_tree_47 : decode cX10_tree 47 = .ok (.iconst 2, 1) := by decide +kernel
theorem dX10_tree_48 : decode cX10_tree 48 = .ok (.if_icmp .ne 12, 3) := by decide +kernel
theorem dX10_tree_51 : decode cX10_tree 51 = .ok (.aload_n 0, 1) := by decide +kernel
theorem dX10_tree_52 : decode cX10_tree 52 = .ok (.getfield 42, 3) := by decide +kernel
theorem dX10_tree_55 : decode cX10_tree 55 = .ok (.iload_n 1, 1) := by decide +kernel
theorem dX10_tree_56 : decode cX10_tree 56 = .ok (.iaload, 1) := by decide +kernel
theorem dX10_tree_57 : decode cX10_tree 57 = .ok (.goto 30, 3) := by decide +kernel
theorem dX10_tree_60 : decode cX10_tree 60 = .ok (.iload_n 2, 1) := by decide +kernel
theorem dX10_tree_61 : decode cX10_tree 61 = .ok (.iconst 3, 1) := by decide +kernel
theorem dX10_tree_62 : decode cX10_tree 62 = .ok (.if_icmp .ne 15, 3) := by decide +kernel
theorem dX10_tree_65 : decode cX10_tree 65 = .ok (.aload_n 0, 1) := by decide +kernel
theorem dX10_tree_66 : decode cX10_tree 66 = .ok (.getfield 45, 3) := by decide +kernel
theorem dX10_tree_69 : decode cX10_tree 69 = .ok (.bipush 6, 2) := by decide +kernel
theorem dX10_tree_71 : decode cX10_tree 71 = .ok (.iload_n 1, 1) := by decide +kernel
theorem dX10_tree_72 : decode cX10_tree 72 = .ok (.iadd, 1) := by decide +kernel
theorem dX10_tree_73 : decode cX10_tree 73 = .ok (.iaload, 1) := by decide +kernel
theorem dX10_tree_74 : decode cX10_tree 74 = .ok (.goto 13, 3) := by decide +kernel
theorem dX10_tree_77 : decode cX10_tree 77 = .ok (.aload_n 0, 1) := by decide +kernel
theorem dX10_tree_78 : decode cX10_tree 78 = .ok (.getfield 45, 3) := by decide +kernel
theorem dX10_tree_81 : decode cX10_tree 81 = .ok (.iconst 4, 1) := by decide +kernel
theorem dX10_tree_82 : decode cX10_tree 82 = .ok (.iaload, 1) := by decide +kernel
theorem dX10_tree_83 : decode cX10_tree 83 = .ok (.iload_n 1, 1) := by decide +kernel
theorem dX10_tree_84 : decode cX10_tree 84 = .ok (.ishr, 1) := by decide +kernel
theorem dX10_tree_85 : decode cX10_tree 85 = .ok (.iconst 1, 1) := by decide +kernel
theorem dX10_tree_86 : decode cX10_tree 86 = .ok (.iand, 1) := by decide +kernel
theorem dX10_tree_87 : decode cX10_tree 87 = .ok (.ireturn, 1) := by decide +kernel
set_option maxRecDepth 20000 in
theorem ggX10_fit_X10_isOne : GoodIn wsX10_fit wsX10_isOne := goodIn_r _ [5, 6, 7, 8, 4, 9, 17, 18, 19, 20, 21, 22, 23, 24, 25, 26, 27, 28, 29, 30, 31, 32, 33, 34, 35, 36, 37, 38, 39, 40, 41, 42, 43] (by decide +kernel) (by decide +kernel)
set_option maxRecDepth 20000 in
theorem gX10_fit_X10_isOne : GoodIn wsX10_fit (wsV RX10 122 RX10 yX10_isOne wsX10_isOne) := goodIn_app (goodIn_of _ (by decide +kernel)) ggX10_fit_X10_isOne
set_option maxRecDepth 20000 in
theorem ggX10_fit_X10_fits : GoodIn wsX10_fit wsX10_fits := goodIn_r _ [13, 14, 15, 16, 17, 18, 19, 20, 21, 22, 23, 24, 25, 26, 27, 28, 29, 30, 31, 32, 33, 34, 35, 36, 37, 38, 39, 40, 41, 42, 43] (by decide +kernel) (by decide +kernel)
set_option maxRecDepth 20000 in
theorem gX10_fit_X10_fits : GoodIn wsX10_fit (wsV RX10 129 RX10 yX10_fits wsX10_fits) := goodIn_app (goodIn_of _ (by decide +kernel)) ggX10_fit_X10_fits
theorem dX10_fit_0 : decode cX10_fit 0 = .ok (.aload_n 0, 1) := by decide +kernel
theorem dX10_fit_1 : decode cX10_fit 1 = .ok (.iload_n 1, 1) := by decide +kernel
theorem dX10_fit_2 : decode cX10_fit 2 = .ok (.invokevirtual 122, 3) := by decide +kernel
theorem dX10_fit_5 : decode cX10_fit 5 = .ok (.ifCond .eq 33, 3) := by decide +kernel
theorem dX10_fit_8 : decode cX10_fit 8 = .ok (.aload_n 0, 1) := by decide +kernel
theorem dX10_fit_9 : decode cX10_fit 9 = .ok (.iload_n 2, 1) := by decide +kernel
theorem dX10_fit_10 : decode cX10_fit 10 = .ok (.invokevirtual 122, 3) := by decide +kernel
theorem dX10_fit_13 : decode cX10_fit 13 = .ok (.ifCond .eq 25, 3) := by decide +kernel
theorem dX10_fit_16 : decode cX10_fit 16 = .ok (.iload_n 1, 1) := by decide +kernel
theorem dX10_fit_17 : decode cX10_fit 17 = .ok (.iload_n 2, 1) := by decide +kernel
theorem dX10_fit_18 : decode cX10_fit 18 = .ok (.if_icmp .eq 20, 3) := by decide +kernel
theorem dX10_fit_21 : decode cX10_fit 21 = .ok (.aload_n 0, 1) := by decide +kernel
theorem dX10_fit_22 : decode cX10_fit 22 = .ok (.iload_n 1, 1) := by decide +kernel
theorem dX10_fit_23 : decode cX10_fit 23 = .ok (.iload_n 2, 1) := by decide +kernel
theorem dX10_fit_24 : decode cX10_fit 24 = .ok (.invokevirtual 129, 3) := by decide +kernel
theorem dX10_fit_27 : decode cX10_fit 27 = .ok (.ifCond .eq 7, 3) := by decide +kernel
theorem dX10_fit_30 : decode cX10_fit 30 = .ok (.iconst 1, 1) := by decide +kernel
theorem dX10_fit_31 : decode cX10_fit 31 = .ok (.goto 8, 3) := by decide +kernel
theorem dX10_fit_34 : decode cX10_fit 34 = .ok (.iconst 0, 1) := by decide +kernel
theorem dX10_fit_35 : decode cX10_fit 35 = .ok (.goto 4, 3) := by decide +kernel
theorem dX10_fit_38 : decode cX10_fit 38 = .ok (.iconst (-1), 1) := by decide +kernel
theorem dX10_fit_39 : decode cX10_fit 39 = .ok (.ireturn, 1) := by decide +kernel
theorem dX10_begin_0 : decode cX10_begin 0 = .ok (.aload_n 0, 1) := by decide +kernel
theorem dX10_begin_1 : decode cX10_begin 1 = .ok (.getfield 45, 3) := by decide +kernel
theorem dX10_begin_4 : decode cX10_begin 4 = .ok (.iconst 0, 1) := by decide +kernel
theorem dX10_begin_5 : decode cX10_begin 5 = .ok (.iconst 0, 1) := by decide +kernel
theorem dX10_begin_6 : decode cX10_begin 6 = .ok (.iastore, 1) := by decide +kernel
theorem dX10_begin_7 : decode cX10_begin 7 = .ok (.aload_n 0, 1) := by decide +kernel
theorem dX10_begin_8 : decode cX10_begin 8 = .ok (.getfield 45, 3) := by decide +kernel
theorem dX10_begin_11 : decode cX10_begin 11 = .ok (.iconst 1, 1) := by decide +kernel
theorem dX10_begin_12 : decode cX10_begin 12 = .ok (.iconst 0, 1) := by decide +kernel
theorem dX10_begin_13 : decode cX10_begin 13 = .ok (.iastore, 1) := by decide +kernel
theorem dX10_begin_14 : decode cX10_begin 14 = .ok (.aload_n 0, 1) := by decide +kernel
theorem dX10_begin_15 : decode cX10_begin 15 = .ok (.getfield 45, 3) := by decide +kernel
theorem dX10_begin_18 : decode cX10_begin 18 = .ok (.iconst 2, 1) := by decide +kernel
theorem dX10_begin_19 : decode cX10_begin 19 = .ok (.iconst 0, 1) := by decide +kernel
theorem dX10_begin_20 : decode cX10_begin 20 = .ok (.iastore, 1) := by decide +kernel
theorem dX10_begin_21 : decode cX10_begin 21 = .ok (.aload_n 0, 1) := by decide +kernel
theorem dX10_begin_22 : decode cX10_begin 22 = .ok (.getfield 45, 3) := by decide +kernel
theorem dX10_begin_25 : decode cX10_begin 25 = .ok (.iconst 3, 1) := by decide +kernel
theorem dX10_begin_26 : decode cX10_begin 26 = .ok (.iconst 0, 1) := by decide +kernel
theorem dX10_begin_27 : decode cX10_begin 27 = .ok (.iastore, 1) := by decide +kernel
theorem dX10_begin_28 : decode cX10_begin 28 = .ok (.aload_n 0, 1) := by decide +kernel
theorem dX10_begin_29 : decode cX10_begin 29 = .ok (.getfield 45, 3) := by decide +kernel
theorem dX10_begin_32 : decode cX10_begin 32 = .ok (.iconst 4, 1) := by decide +kernel
theorem dX10_begin_33 : decode cX10_begin 33 = .ok (.iconst 0, 1) := by decide +kernel
theorem dX10_begin_34 : decode cX10_begin 34 = .ok (.iastore, 1) := by decide +kernel
theorem dX10_begin_35 : decode cX10_begin 35 = .ok (.return_, 1) := by decide +kernel
set_option maxRecDepth 20000 in
theorem ggX10_mayClimb_X10_fits : GoodIn wsX10_mayClimb wsX10_fits := goodIn_r _ [8, 9, 10, 11, 20, 21, 22, 23, 24, 25, 26, 27, 28, 29, 30, 31, 32, 33, 34, 35, 36, 37, 38, 39, 40, 41, 42, 43, 44, 45, 46] (by decide +kernel) (by decide +kernel)
set_option maxRecDepth 20000 in
theorem gX10_mayClimb_X10_fits : GoodIn wsX10_mayClimb (wsV RX10 129 RX10 yX10_fits wsX10_fits) := goodIn_app (goodIn_of _ (by decide +kernel)) ggX10_mayClimb_X10_fits
set_option maxRecDepth 20000 in
theorem ggX10_mayClimb_X10_in : GoodIn wsX10_mayClimb wsX10_in := goodIn_r _ [14] (by decide +kernel) (by decide +kernel)
set_option maxRecDepth 20000 in
theorem gX10_mayClimb_X10_in : GoodIn wsX10_mayClimb (va_wsS RX10 72 yX10_in wsX10_in) := goodIn_app (goodIn_of _ (by decide +kernel)) ggX10_mayClimb_X10_in
set_option maxRecDepth 20000 in
theorem ggX10_mayClimb_X10_ladder : GoodIn wsX10_mayClimb wsX10_ladder := goodIn_r _ [18, 19, 20, 21, 22, 23, 24, 25, 26, 27, 28, 29, 30, 31, 32, 33, 34, 35, 36, 37, 38, 39, 40, 41, 42, 43, 44, 45, 46] (by decide +kernel) (by decide +kernel)
set_option maxRecDepth 20000 in
theorem gX10_mayClimb_X10_ladder : GoodIn wsX10_mayClimb (wsV RX10 133 RX10 yX10_ladder wsX10_ladder) := goodIn_app (goodIn_of _ (by decide +kernel)) ggX10_mayClimb_X10_ladder
theorem dX10_mayClimb_0 : decode cX10_mayClimb 0 = .ok (.aload_n 0, 1) := by decide +kernel
theorem dX10_mayClimb_1 : decode cX10_mayClimb 1 = .ok (.getfield 45, 3) := by decide +kernel
theorem dX10_mayClimb_4 : decode cX10_mayClimb 4 = .ok (.iload_n 1, 1) := by decide +kernel
theorem dX10_mayClimb_5 : decode cX10_mayClimb 5 = .ok (.iconst 3, 1) := by decide +kernel
theorem dX10_mayClimb_6 : decode cX10_mayClimb 6 = .ok (.iadd, 1) := by decide +kernel
theorem dX10_mayClimb_7 : decode cX10_mayClimb 7 = .ok (.iaload, 1) := by decide +kernel
theorem dX10_mayClimb_8 : decode cX10_mayClimb 8 = .ok (.iload_n 2, 1) := by decide +kernel
theorem dX10_mayClimb_9 : decode cX10_mayClimb 9 = .ok (.ishr, 1) := by decide +kernel
theorem dX10_mayClimb_10 : decode cX10_mayClimb 10 = .ok (.iconst 1, 1) := by decide +kernel
theorem dX10_mayClimb_11 : decode cX10_mayClimb 11 = .ok (.iand, 1) := by decide +kernel
theorem dX10_mayClimb_12 : decode cX10_mayClimb 12 = .ok (.ifCond .ne 38, 3) := by decide +kernel
theorem dX10_mayClimb_15 : decode cX10_mayClimb 15 = .ok (.aload_n 0, 1) := by decide +kernel
theorem dX10_mayClimb_16 : decode cX10_mayClimb 16 = .ok (.getfield 45, 3) := by decide +kernel
theorem dX10_mayClimb_19 : decode cX10_mayClimb 19 = .ok (.iload_n 1, 1) := by decide +kernel
theorem dX10_mayClimb_20 : decode cX10_mayClimb 20 = .ok (.iconst 3, 1) := by decide +kernel
theorem dX10_mayClimb_21 : decode cX10_mayClimb 21 = .ok (.iadd, 1) := by decide +kernel
theorem dX10_mayClimb_22 : decode cX10_mayClimb 22 = .ok (.iaload, 1) := by decide +kernel
theorem dX10_mayClimb_23 : decode cX10_mayClimb 23 = .ok (.iload_n 3, 1) := by decide +kernel
theorem dX10_mayClimb_24 : decode cX10_mayClimb 24 = .ok (.ishr, 1) := by decide +kernel
theorem dX10_mayClimb_25 : decode cX10_mayClimb 25 = .ok (.iconst 1, 1) := by decide +kernel
theorem dX10_mayClimb_26 : decode cX10_mayClimb 26 = .ok (.iand, 1) := by decide +kernel
theorem dX10_mayClimb_27 : decode cX10_mayClimb 27 = .ok (.ifCond .ne 23, 3) := by decide +kernel
theorem dX10_mayClimb_30 : decode cX10_mayClimb 30 = .ok (.aload_n 0, 1) := by decide +kernel
theorem dX10_mayClimb_31 : decode cX10_mayClimb 31 = .ok (.getfield 45, 3) := by decide +kernel
theorem dX10_mayClimb_34 : decode cX10_mayClimb 34 = .ok (.iload_n 1, 1) := by decide +kernel
theorem dX10_mayClimb_35 : decode cX10_mayClimb 35 = .ok (.iconst 4, 1) := by decide +kernel
theorem dX10_mayClimb_36 : decode cX10_mayClimb 36 = .ok (.iadd, 1) := by decide +kernel
theorem dX10_mayClimb_37 : decode cX10_mayClimb 37 = .ok (.iaload, 1) := by decide +kernel
theorem dX10_mayClimb_38 : decode cX10_mayClimb 38 = .ok (.iload 4, 2) := by decide +kernel
theorem dX10_mayClimb_40 : decode cX10_mayClimb 40 = .ok (.ishr, 1) := by decide +kernel
theorem dX10_mayClimb_41 : decode cX10_mayClimb 41 = .ok (.iconst 1, 1) := by decide +kernel
theorem dX10_mayClimb_42 : decode cX10_mayClimb 42 = .ok (.iand, 1) := by decide +kernel
theorem dX10_mayClimb_43 : decode cX10_mayClimb 43 = .ok (.ifCond .ne 7, 3) := by decide +kernel
theorem dX10_mayClimb_46 : decode cX10_mayClimb 46 = .ok (.iconst 1, 1) := by decide +kernel
theorem dX10_mayClimb_47 : decode cX10_mayClimb 47 = .ok (.goto 4, 3) := by decide +kernel
theorem dX10_mayClimb_50 : decode cX10_mayClimb 50 = .ok (.iconst 0, 1) := by decide +kernel
theorem dX10_mayClimb_51 : decode cX10_mayClimb 51 = .ok (.istore 5, 2) := by decide +kernel
theorem dX10_mayClimb_53 : decode cX10_mayClimb 53 = .ok (.iload 5, 2) := by decide +kernel
theorem dX10_mayClimb_55 : decode cX10_mayClimb 55 = .ok (.ifCond .eq 71, 3) := by decide +kernel
theorem dX10_mayClimb_58 : decode cX10_mayClimb 58 = .ok (.aload_n 0, 1) := by decide +kernel
theorem dX10_mayClimb_59 : decode cX10_mayClimb 59 = .ok (.iload_n 2, 1) := by decide +kernel
theorem dX10_mayClimb_60 : decode cX10_mayClimb 60 = .ok (.iload_n 3, 1) := by decide +kernel
theorem dX10_mayClimb_61 : decode cX10_mayClimb 61 = .ok (.invokevirtual 129, 3) := by decide +kernel
theorem dX10_mayClimb_64 : decode cX10_mayClimb 64 = .ok (.ifCond .eq 62, 3) := by decide +kernel
theorem dX10_mayClimb_67 : decode cX10_mayClimb 67 = .ok (.aload_n 0, 1) := by decide +kernel
theorem dX10_mayClimb_68 : decode cX10_mayClimb 68 = .ok (.getfield 45, 3) := by decide +kernel
theorem dX10_mayClimb_71 : decode cX10_mayClimb 71 = .ok (.iload_n 1, 1) := by decide +kernel
theorem dX10_mayClimb_72 : decode cX10_mayClimb 72 = .ok (.iconst 0, 1) := by decide +kernel
theorem dX10_mayClimb_73 : decode cX10_mayClimb 73 = .ok (.iadd, 1) := by decide +kernel
theorem dX10_mayClimb_74 : decode cX10_mayClimb 74 = .ok (.iaload, 1) := by decide +kernel
theorem dX10_mayClimb_75 : decode cX10_mayClimb 75 = .ok (.aload_n 0, 1) := by decide +kernel
theorem dX10_mayClimb_76 : decode cX10_mayClimb 76 = .ok (.getfield 39, 3) := by decide +kernel
theorem dX10_mayClimb_79 : decode cX10_mayClimb 79 = .ok (.iload 4, 2) := by decide +kernel
theorem dX10_mayClimb_81 : decode cX10_mayClimb 81 = .ok (.iaload, 1) := by decide +kernel
theorem dX10_mayClimb_82 : decode cX10_mayClimb 82 = .ok (.isub, 1) := by decide +kernel
theorem dX10_mayClimb_83 : decode cX10_mayClimb 83 = .ok (.iconst 0, 1) := by decide +kernel
theorem dX10_mayClimb_84 : decode cX10_mayClimb 84 = .ok (.iconst 3, 1) := by decide +kernel
theorem dX10_mayClimb_85 : decode cX10_mayClimb 85 = .ok (.invokestatic 72, 3) := by decide +kernel
theorem dX10_mayClimb_88 : decode cX10_mayClimb 88 = .ok (.ifCond .eq 38, 3) := by decide +kernel
theorem dX10_mayClimb_91 : decode cX10_mayClimb 91 = .ok (.aload_n 0, 1) := by decide +kernel
theorem dX10_mayClimb_92 : decode cX10_mayClimb 92 = .ok (.getfield 45, 3) := by decide +kernel
theorem dX10_mayClimb_95 : decode cX10_mayClimb 95 = .ok (.iload_n 1, 1) := by decide +kernel
theorem dX10_mayClimb_96 : decode cX10_mayClimb 96 = .ok (.bipush 6, 2) := by decide +kernel
theorem dX10_mayClimb_98 : decode cX10_mayClimb 98 = .ok (.iadd, 1) := by decide +kernel
theorem dX10_mayClimb_99 : decode cX10_mayClimb 99 = .ok (.iload 4, 2) := by decide +kernel
theorem dX10_mayClimb_101 : decode cX10_mayClimb 101 = .ok (.iadd, 1) := by decide +kernel
theorem dX10_mayClimb_102 : decode cX10_mayClimb 102 = .ok (.iaload, 1) := by decide +kernel
theorem dX10_mayClimb_103 : decode cX10_mayClimb 103 = .ok (.ifCond .le 23, 3) := by decide +kernel
theorem dX10_mayClimb_106 : decode cX10_mayClimb 106 = .ok (.aload_n 0, 1) := by decide +kernel
theorem dX10_mayClimb_107 : decode cX10_mayClimb 107 = .ok (.iload_n 2, 1) := by decide +kernel
theorem dX10_mayClimb_108 : decode cX10_mayClimb 108 = .ok (.iload_n 3, 1) := by decide +kernel
theorem dX10_mayClimb_109 : decode cX10_mayClimb 109 = .ok (.invokevirtual 133, 3) := by decide +kernel
theorem dX10_mayClimb_112 : decode cX10_mayClimb 112 = .ok (.aload_n 0, 1) := by decide +kernel
theorem dX10_mayClimb_113 : decode cX10_mayClimb 113 = .ok (.getfield 36, 3) := by decide +kernel
theorem dX10_mayClimb_116 : decode cX10_mayClimb 116 = .ok (.iload 4, 2) := by decide +kernel
theorem dX10_mayClimb_118 : decode cX10_mayClimb 118 = .ok (.iaload, 1) := by decide +kernel
theorem dX10_mayClimb_119 : decode cX10_mayClimb 119 = .ok (.if_icmp .lt 7, 3) := by decide +kernel
theorem dX10_mayClimb_122 : decode cX10_mayClimb 122 = .ok (.iconst 1, 1) := by decide +kernel
theorem dX10_mayClimb_123 : decode cX10_mayClimb 123 = .ok (.goto 4, 3) := by decide +kernel
theorem dX10_mayClimb_126 : decode cX10_mayClimb 126 = .ok (.iconst 0, 1) := by decide +kernel
theorem dX10_mayClimb_127 : decode cX10_mayClimb 127 = .ok (.ireturn, 1) := by decide +kernel
theorem dX10_picks_0 : decode cX10_picks 0 = .ok (.aload_n 0, 1) := by decide +kernel
theorem dX10_picks_1 : decode cX10_picks 1 = .ok (.getfield 26, 3) := by decide +kernel
theorem dX10_picks_4 : decode cX10_picks 4 = .ok (.iload_n 2, 1) := by decide +kernel
theorem dX10_picks_5 : decode cX10_picks 5 = .ok (.iaload, 1) := by decide +kernel
theorem dX10_picks_6 : decode cX10_picks 6 = .ok (.aload_n 0, 1) := by decide +kernel
theorem dX10_picks_7 : decode cX10_picks 7 = .ok (.getfield 26, 3) := by decide +kernel
theorem dX10_picks_10 : decode cX10_picks 10 = .ok (.iload_n 3, 1) := by decide +kernel
theorem dX10_picks_11 : decode cX10_picks 11 = .ok (.iaload, 1) := by decide +kernel
theorem dX10_picks_12 : decode cX10_picks 12 = .ok (.iadd, 1) := by decide +kernel
theorem dX10_picks_13 : decode cX10_picks 13 = .ok (.istore 5, 2) := by decide +kernel
theorem dX10_picks_15 : decode cX10_picks 15 = .ok (.iload 5, 2) := by decide +kernel
theorem dX10_picks_17 : decode cX10_picks 17 = .ok (.aload_n 0, 1) := by decide +kernel
theorem dX10_picks_18 : decode cX10_picks 18 = .ok (.getfield 45, 3) := by decide +kernel
theorem dX10_picks_21 : decode cX10_picks 21 = .ok (.iload_n 1, 1) := by decide +kernel
theorem dX10_picks_22 : decode cX10_picks 22 = .ok (.bipush 6, 2) := by decide +kernel
theorem dX10_picks_24 : decode cX10_picks 24 = .ok (.iadd, 1) := by decide +kernel
theorem dX10_picks_25 : decode cX10_picks 25 = .ok (.iload 4, 2) := by decide +kernel
theorem dX10_picks_27 : decode cX10_picks 27 = .ok (.iadd, 1) := by decide +kernel
theorem dX10_picks_28 : decode cX10_picks 28 = .ok (.iaload, 1) := by decide +kernel
theorem dX10_picks_29 : decode cX10_picks 29 = .ok (.if_icmp .ge 8, 3) := by decide +kernel
theorem dX10_picks_32 : decode cX10_picks 32 = .ok (.iload 5, 2) := by decide +kernel
theorem dX10_picks_34 : decode cX10_picks 34 = .ok (.goto 15, 3) := by decide +kernel
theorem dX10_picks_37 : decode cX10_picks 37 = .ok (.aload_n 0, 1) := by decide +kernel
theorem dX10_picks_38 : decode cX10_picks 38 = .ok (.getfield 45, 3) := by decide +kernel
theorem dX10_picks_41 : decode cX10_picks 41 = .ok (.iload_n 1, 1) := by decide +kernel
theorem dX10_picks_42 : decode cX10_picks 42 = .ok (.bipush 6, 2) := by decide +kernel
theorem dX10_picks_44 : decode cX10_picks 44 = .ok (.iadd, 1) := by decide +kernel
theorem dX10_picks_45 : decode cX10_picks 45 = .ok (.iload 4, 2) := by decide +kernel
theorem dX10_picks_47 : decode cX10_picks 47 = .ok (.iadd, 1) := by decide +kernel
theorem dX10_picks_48 : decode cX10_picks 48 = .ok (.iaload, 1) := by decide +kernel
theorem dX10_picks_49 : decode cX10_picks 49 = .ok (.ireturn, 1) := by decide +kernel
set_option maxRecDepth 20000 in
theorem ggX10_climbs_X10_picks : GoodIn wsX10_climbs wsX10_picks := goodIn_r _ [6, 7, 1, 8, 9, 10, 11, 12, 13, 14, 15, 16, 17, 18, 19, 20, 21, 22, 23, 24, 25, 26, 27, 28, 29, 30, 31, 32, 33, 34] (by decide +kernel) (by decide +kernel)
set_option maxRecDepth 20000 in
theorem gX10_climbs_X10_picks : GoodIn wsX10_climbs (wsV RX10 136 RX10 yX10_picks wsX10_picks) := goodIn_app (goodIn_of _ (by decide +kernel)) ggX10_climbs_X10_picks
theorem dX10_climbs_0 : decode cX10_climbs 0 = .ok (.aload_n 0, 1) := by decide +kernel
theorem dX10_climbs_1 : decode cX10_climbs 1 = .ok (.iload_n 1, 1) := by decide +kernel
theorem dX10_climbs_2 : decode cX10_climbs 2 = .ok (.iload_n 2, 1) := by decide +kernel
theorem dX10_climbs_3 : decode cX10_climbs 3 = .ok (.iload_n 3, 1) := by decide +kernel
theorem dX10_climbs_4 : decode cX10_climbs 4 = .ok (.iload 4, 2) := by decide +kernel
theorem dX10_climbs_6 : decode cX10_climbs 6 = .ok (.invokevirtual 136, 3) := by decide +kernel
theorem dX10_climbs_9 : decode cX10_climbs 9 = .ok (.istore 5, 2) := by decide +kernel
theorem dX10_climbs_11 : decode cX10_climbs 11 = .ok (.aload_n 0, 1) := by decide +kernel
theorem dX10_climbs_12 : decode cX10_climbs 12 = .ok (.getfield 45, 3) := by decide +kernel
theorem dX10_climbs_15 : decode cX10_climbs 15 = .ok (.iload_n 1, 1) := by decide +kernel
theorem dX10_climbs_16 : decode cX10_climbs 16 = .ok (.bipush 6, 2) := by decide +kernel
theorem dX10_climbs_18 : decode cX10_climbs 18 = .ok (.iadd, 1) := by decide +kernel
theorem dX10_climbs_19 : decode cX10_climbs 19 = .ok (.iload 4, 2) := by decide +kernel
theorem dX10_climbs_21 : decode cX10_climbs 21 = .ok (.iadd, 1) := by decide +kernel
theorem dX10_climbs_22 : decode cX10_climbs 22 = .ok (.dup2, 1) := by decide +kernel
theorem dX10_climbs_23 : decode cX10_climbs 23 = .ok (.iaload, 1) := by decide +kernel
theorem dX10_climbs_24 : decode cX10_climbs 24 = .ok (.iload 5, 2) := by decide +kernel
theorem dX10_climbs_26 : decode cX10_climbs 26 = .ok (.isub, 1) := by decide +kernel
theorem dX10_climbs_27 : decode cX10_climbs 27 = .ok (.iastore, 1) := by decide +kernel
theorem dX10_climbs_28 : decode cX10_climbs 28 = .ok (.aload_n 0, 1) := by decide +kernel
theorem dX10_climbs_29 : decode cX10_climbs 29 = .ok (.getfield 45, 3) := by decide +kernel
theorem dX10_climbs_32 : decode cX10_climbs 32 = .ok (.iload_n 1, 1) := by decide +kernel
theorem dX10_climbs_33 : decode cX10_climbs 33 = .ok (.iconst 1, 1) := by decide +kernel
theorem dX10_climbs_34 : decode cX10_climbs 34 = .ok (.iadd, 1) := by decide +kernel
theorem dX10_climbs_35 : decode cX10_climbs 35 = .ok (.dup2, 1) := by decide +kernel
theorem dX10_climbs_36 : decode cX10_climbs 36 = .ok (.iaload, 1) := by decide +kernel
theorem dX10_climbs_37 : decode cX10_climbs 37 = .ok (.iload 5, 2) := by decide +kernel
theorem dX10_climbs_39 : decode cX10_climbs 39 = .ok (.iadd, 1) := by decide +kernel
theorem dX10_climbs_40 : decode cX10_climbs 40 = .ok (.iastore, 1) := by decide +kernel
theorem dX10_climbs_41 : decode cX10_climbs 41 = .ok (.aload_n 0, 1) := by decide +kernel
theorem dX10_climbs_42 : decode cX10_climbs 42 = .ok (.getfield 45, 3) := by decide +kernel
theorem dX10_climbs_45 : decode cX10_climbs 45 = .ok (.iload_n 1, 1) := by decide +kernel
theorem dX10_climbs_46 : decode cX10_climbs 46 = .ok (.iconst 3, 1) := by decide +kernel
theorem dX10_climbs_47 : decode cX10_climbs 47 = .ok (.iadd, 1) := by decide +kernel
theorem dX10_climbs_48 : decode cX10_climbs 48 = .ok (.dup2, 1) := by decide +kernel
theorem dX10_climbs_49 : decode cX10_climbs 49 = .ok (.iaload, 1) := by decide +kernel
theorem dX10_climbs_50 : decode cX10_climbs 50 = .ok (.iconst 1, 1) := by decide +kernel
theorem dX10_climbs_51 : decode cX10_climbs 51 = .ok (.iload_n 2, 1) := by decide +kernel
theorem dX10_climbs_52 : decode cX10_climbs 52 = .ok (.ishl, 1) := by decide +kernel
theorem dX10_climbs_53 : decode cX10_climbs 53 = .ok (.iconst 1, 1) := by decide +kernel
theorem dX10_climbs_54 : decode cX10_climbs 54 = .ok (.iload_n 3, 1) := by decide +kernel
theorem dX10_climbs_55 : decode cX10_climbs 55 = .ok (.ishl, 1) := by decide +kernel
theorem dX10_climbs_56 : decode cX10_climbs 56 = .ok (.ior, 1) := by decide +kernel
theorem dX10_climbs_57 : decode cX10_climbs 57 = .ok (.ior, 1) := by decide +kernel
theorem dX10_climbs_58 : decode cX10_climbs 58 = .ok (.iastore, 1) := by decide +kernel
theorem dX10_climbs_59 : decode cX10_climbs 59 = .ok (.aload_n 0, 1) := by decide +kernel
theorem dX10_climbs_60 : decode cX10_climbs 60 = .ok (.getfield 45, 3) := by decide +kernel
theorem dX10_climbs_63 : decode cX10_climbs 63 = .ok (.iload_n 1, 1) := by decide +kernel
theorem dX10_climbs_64 : decode cX10_climbs 64 = .ok (.iconst 4, 1) := by decide +kernel
theorem dX10_climbs_65 : decode cX10_climbs 65 = .ok (.iadd, 1) := by decide +kernel
theorem dX10_climbs_66 : decode cX10_climbs 66 = .ok (.dup2, 1) := by decide +kernel
theorem dX10_climbs_67 : decode cX10_climbs 67 = .ok (.iaload, 1) := by decide +kernel
theorem dX10_climbs_68 : decode cX10_climbs 68 = .ok (.iconst 1, 1) := by decide +kernel
theorem dX10_climbs_69 : decode cX10_climbs 69 = .ok (.iload 4, 2) := by decide +kernel
theorem dX10_climbs_71 : decode cX10_climbs 71 = .ok (.ishl, 1) := by decide +kernel
theorem dX10_climbs_72 : decode cX10_climbs 72 = .ok (.ior, 1) := by decide +kernel
theorem dX10_climbs_73 : decode cX10_climbs 73 = .ok (.iastore, 1) := by decide +kernel
theorem dX10_climbs_74 : decode cX10_climbs 74 = .ok (.iload 5, 2) := by decide +kernel
theorem dX10_climbs_76 : decode cX10_climbs 76 = .ok (.ireturn, 1) := by decide +kernel
theorem dX10_endDay_0 : decode cX10_endDay 0 = .ok (.aload_n 0, 1) := by decide +kernel
theorem dX10_endDay_1 : decode cX10_endDay 1 = .ok (.getfield 45, 3) := by decide +kernel
theorem dX10_endDay_4 : decode cX10_endDay 4 = .ok (.iload_n 1, 1) := by decide +kernel
theorem dX10_endDay_5 : decode cX10_endDay 5 = .ok (.iconst 0, 1) := by decide +kernel
theorem dX10_endDay_6 : decode cX10_endDay 6 = .ok (.iadd, 1) := by decide +kernel
theorem dX10_endDay_7 : decode cX10_endDay 7 = .ok (.dup2, 1) := by decide +kernel
theorem dX10_endDay_8 : decode cX10_endDay 8 = .ok (.iaload, 1) := by decide +kernel
theorem dX10_endDay_9 : decode cX10_endDay 9 = .ok (.iconst 1, 1) := by decide +kernel
theorem dX10_endDay_10 : decode cX10_endDay 10 = .ok (.iadd, 1) := by decide +kernel
theorem dX10_endDay_11 : decode cX10_endDay 11 = .ok (.iastore, 1) := by decide +kernel
theorem dX10_endDay_12 : decode cX10_endDay 12 = .ok (.aload_n 0, 1) := by decide +kernel
theorem dX10_endDay_13 : decode cX10_endDay 13 = .ok (.getfield 45, 3) := by decide +kernel
theorem dX10_endDay_16 : decode cX10_endDay 16 = .ok (.iload_n 1, 1) := by decide +kernel
theorem dX10_endDay_17 : decode cX10_endDay 17 = .ok (.iconst 3, 1) := by decide +kernel
theorem dX10_endDay_18 : decode cX10_endDay 18 = .ok (.iadd, 1) := by decide +kernel
theorem dX10_endDay_19 : decode cX10_endDay 19 = .ok (.iconst 0, 1) := by decide +kernel
theorem dX10_endDay_20 : decode cX10_endDay 20 = .ok (.iastore, 1) := by decide +kernel
theorem dX10_endDay_21 : decode cX10_endDay 21 = .ok (.aload_n 0, 1) := by decide +kernel
theorem dX10_endDay_22 : decode cX10_endDay 22 = .ok (.getfield 45, 3) := by decide +kernel
theorem dX10_endDay_25 : decode cX10_endDay 25 = .ok (.iload_n 1, 1) := by decide +kernel
theorem dX10_endDay_26 : decode cX10_endDay 26 = .ok (.iconst 4, 1) := by decide +kernel
theorem dX10_endDay_27 : decode cX10_endDay 27 = .ok (.iadd, 1) := by decide +kernel
theorem dX10_endDay_28 : decode cX10_endDay 28 = .ok (.iconst 0, 1) := by decide +kernel
theorem dX10_endDay_29 : decode cX10_endDay 29 = .ok (.iastore, 1) := by decide +kernel
theorem dX10_endDay_30 : decode cX10_endDay 30 = .ok (.iconst 0, 1) := by decide +kernel
theorem dX10_endDay_31 : decode cX10_endDay 31 = .ok (.istore_n 2, 1) := by decide +kernel
theorem dX10_endDay_32 : decode cX10_endDay 32 = .ok (.iconst 0, 1) := by decide +kernel
theorem dX10_endDay_33 : decode cX10_endDay 33 = .ok (.istore_n 3, 1) := by decide +kernel
theorem dX10_endDay_34 : decode cX10_endDay 34 = .ok (.iload_n 3, 1) := by decide +kernel
theorem dX10_endDay_35 : decode cX10_endDay 35 = .ok (.aload_n 0, 1) := by decide +kernel
theorem dX10_endDay_36 : decode cX10_endDay 36 = .ok (.getfield 33, 3) := by decide +kernel
theorem dX10_endDay_39 : decode cX10_endDay 39 = .ok (.iconst 0, 1) := by decide +kernel
theorem dX10_endDay_40 : decode cX10_endDay 40 = .ok (.iaload, 1) := by decide +kernel
theorem dX10_endDay_41 : decode cX10_endDay 41 = .ok (.if_icmp .ge 54, 3) := by decide +kernel
theorem dX10_endDay_44 : decode cX10_endDay 44 = .ok (.aload_n 0, 1) := by decide +kernel
theorem dX10_endDay_45 : decode cX10_endDay 45 = .ok (.getfield 45, 3) := by decide +kernel
theorem dX10_endDay_48 : decode cX10_endDay 48 = .ok (.iload_n 1, 1) := by decide +kernel
theorem dX10_endDay_49 : decode cX10_endDay 49 = .ok (.iconst 0, 1) := by decide +kernel
theorem dX10_endDay_50 : decode cX10_endDay 50 = .ok (.iadd, 1) := by decide +kernel
theorem dX10_endDay_51 : decode cX10_endDay 51 = .ok (.iaload, 1) := by decide +kernel
theorem dX10_endDay_52 : decode cX10_endDay 52 = .ok (.aload_n 0, 1) := by decide +kernel
theorem dX10_endDay_53 : decode cX10_endDay 53 = .ok (.getfield 39, 3) := by decide +kernel
theorem dX10_endDay_56 : decode cX10_endDay 56 = .ok (.iload_n 3, 1) := by decide +kernel
theorem dX10_endDay_57 : decode cX10_endDay 57 = .ok (.iaload, 1) := by decide +kernel
theorem dX10_endDay_58 : decode cX10_endDay 58 = .ok (.iconst 3, 1) := by decide +kernel
theorem dX10_endDay_59 : decode cX10_endDay 59 = .ok (.iadd, 1) := by decide +kernel
theorem dX10_endDay_60 : decode cX10_endDay 60 = .ok (.if_icmp .le 29, 3) := by decide +kernel
theorem dX10_endDay_63 : decode cX10_endDay 63 = .ok (.iload_n 2, 1) := by decide +kernel
theorem dX10_endDay_64 : decode cX10_endDay 64 = .ok (.aload_n 0, 1) := by decide +kernel
theorem dX10_endDay_65 : decode cX10_endDay 65 = .ok (.getfield 45, 3) := by decide +kernel
theorem dX10_endDay_68 : decode cX10_endDay 68 = .ok (.iload_n 1, 1) := by decide +kernel
theorem dX10_endDay_69 : decode cX10_endDay 69 = .ok (.bipush 6, 2) := by decide +kernel
theorem dX10_endDay_71 : decode cX10_endDay 71 = .ok (.iadd, 1) := by decide +kernel
theorem dX10_endDay_72 : decode cX10_endDay 72 = .ok (.iload_n 3, 1) := by decide +kernel
theorem dX10_endDay_73 : decode cX10_endDay 73 = .ok (.iadd, 1) := by decide +kernel
theorem dX10_endDay_74 : decode cX10_endDay 74 = .ok (.iaload, 1) := by decide +kernel
theorem dX10_endDay_75 : decode cX10_endDay 75 = .ok (.iadd, 1) := by decide +kernel
theorem dX10_endDay_76 : decode cX10_endDay 76 = .ok (.istore_n 2, 1) := by decide +kernel
theorem dX10_endDay_77 : decode cX10_endDay 77 = .ok (.aload_n 0, 1) := by decide +kernel
theorem dX10_endDay_78 : decode cX10_endDay 78 = .ok (.getfield 45, 3) := by decide +kernel
theorem dX10_endDay_81 : decode cX10_endDay 81 = .ok (.iload_n 1, 1) := by decide +kernel
theorem dX10_endDay_82 : decode cX10_endDay 82 = .ok (.bipush 6, 2) := by decide +kernel
theorem dX10_endDay_84 : decode cX10_endDay 84 = .ok (.iadd, 1) := by decide +kernel
theorem dX10_endDay_85 : decode cX10_endDay 85 = .ok (.iload_n 3, 1) := by decide +kernel
theorem dX10_endDay_86 : decode cX10_endDay 86 = .ok (.iadd, 1) := by decide +kernel
theorem dX10_endDay_87 : decode cX10_endDay 87 = .ok (.iconst 0, 1) := by decide +kernel
theorem dX10_endDay_88 : decode cX10_endDay 88 = .ok (.iastore, 1) := by decide +kernel
theorem dX10_endDay_89 : decode cX10_endDay 89 = .ok (.iinc 3 1, 3) := by decide +kernel
theorem dX10_endDay_92 : decode cX10_endDay 92 = .ok (.goto (-58), 3) := by decide +kernel
theorem dX10_endDay_95 : decode cX10_endDay 95 = .ok (.aload_n 0, 1) := by decide +kernel
theorem dX10_endDay_96 : decode cX10_endDay 96 = .ok (.getfield 45, 3) := by decide +kernel
theorem dX10_endDay_99 : decode cX10_endDay 99 = .ok (.iload_n 1, 1) := by decide +kernel
theorem dX10_endDay_100 : decode cX10_endDay 100 = .ok (.iconst 2, 1) := by decide +kernel
theorem dX10_endDay_101 : decode cX10_endDay 101 = .ok (.iadd, 1) := by decide +kernel
theorem dX10_endDay_102 : decode cX10_endDay 102 = .ok (.dup2, 1) := by decide +kernel
theorem dX10_endDay_103 : decode cX10_endDay 103 = .ok (.iaload, 1) := by decide +kernel
theorem dX10_endDay_104 : decode cX10_endDay 104 = .ok (.iload_n 2, 1) := by decide +kernel
theorem dX10_endDay_105 : decode cX10_endDay 105 = .ok (.iadd, 1) := by decide +kernel
theorem dX10_endDay_106 : decode cX10_endDay 106 = .ok (.iastore, 1) := by decide +kernel
theorem dX10_endDay_107 : decode cX10_endDay 107 = .ok (.iload_n 2, 1) := by decide +kernel
theorem dX10_endDay_108 : decode cX10_endDay 108 = .ok (.ireturn, 1) := by decide +kernel
set_option maxRecDepth 20000 in
theorem ggX10_climb_X10_isOne : GoodIn wsX10_climb wsX10_isOne := goodIn_r _ [5, 6, 7, 8, 4, 9, 43, 44, 45, 46, 47, 48, 49, 50, 51, 52, 53, 54, 55, 56, 57, 58, 59, 60, 61, 62, 63, 64, 65, 66, 67, 68, 69] (by decide +kernel) (by decide +kernel)
set_option maxRecDepth 20000 in
theorem gX10_climb_X10_isOne : GoodIn wsX10_climb (wsV RX10 122 RX10 yX10_isOne wsX10_isOne) := goodIn_app (goodIn_of _ (by decide +kernel)) ggX10_climb_X10_isOne
set_option maxRecDepth 20000 in
theorem ggX10_climb_X10_isTree : GoodIn wsX10_climb wsX10_isTree := goodIn_r _ [13, 14, 7, 8, 4, 9, 43, 44, 45, 46, 47, 48, 49, 50, 51, 52, 53, 54, 55, 56, 57, 58, 59, 60, 61, 62, 63, 64, 65, 66, 67, 68, 69] (by decide +kernel) (by decide +kernel)
set_option maxRecDepth 20000 in
theorem gX10_climb_X10_isTree : GoodIn wsX10_climb (wsV RX10 126 RX10 yX10_isTree wsX10_isTree) := goodIn_app (goodIn_of _ (by decide +kernel)) ggX10_climb_X10_isTree
set_option maxRecDepth 20000 in
theorem ggX10_climb_X10_mayClimb : GoodIn wsX10_climb wsX10_mayClimb := goodIn_r _ [18, 19, 20, 21, 22, 23, 24, 4, 25, 26, 27, 28, 7, 8, 9, 29, 30, 31, 32, 33, 43, 44, 45, 46, 47, 48, 49, 50, 51, 52, 53, 54, 55, 56, 57, 58, 59, 60, 61, 62, 63, 64, 65, 66, 67, 68, 69] (by decide +kernel) (by decide +kernel)
set_option maxRecDepth 20000 in
theorem gX10_climb_X10_mayClimb : GoodIn wsX10_climb (wsV RX10 140 RX10 yX10_mayClimb wsX10_mayClimb) := goodIn_app (goodIn_of _ (by decide +kernel)) ggX10_climb_X10_mayClimb
set_option maxRecDepth 20000 in
theorem ggX10_climb_X10_climbs : GoodIn wsX10_climb wsX10_climbs := goodIn_r _ [37, 19, 38, 39, 40, 4, 41, 42, 43, 44, 45, 46, 47, 48, 49, 50, 51, 52, 53, 54, 55, 56, 57, 58, 59, 60, 61, 62, 63, 64, 65, 66, 67, 68, 69] (by decide +kernel) (by decide +kernel)
set_option maxRecDepth 20000 in
theorem gX10_climb_X10_climbs : GoodIn wsX10_climb (wsV RX10 144 RX10 yX10_climbs wsX10_climbs) := goodIn_app (goodIn_of _ (by decide +kernel)) ggX10_climb_X10_climbs
theorem dX10_climb_0 : decode cX10_climb 0 = .ok (.aload_n 0, 1) := by decide +kernel
theorem dX10_climb_1 : decode cX10_climb 1 = .ok (.iload_n 1, 1) := by decide +kernel
theorem dX10_climb_2 : decode cX10_climb 2 = .ok (.invokevirtual 122, 3) := by decide +kernel
theorem dX10_climb_5 : decode cX10_climb 5 = .ok (.ifCond .eq 24, 3) := by decide +kernel
theorem dX10_climb_8 : decode cX10_climb 8 = .ok (.aload_n 0, 1) := by decide +kernel
theorem dX10_climb_9 : decode cX10_climb 9 = .ok (.iload_n 2, 1) := by decide +kernel
theorem dX10_climb_10 : decode cX10_climb 10 = .ok (.invokevirtual 122, 3) := by decide +kernel
theorem dX10_climb_13 : decode cX10_climb 13 = .ok (.ifCond .eq 16, 3) := by decide +kernel
theorem dX10_climb_16 : decode cX10_climb 16 = .ok (.iload_n 1, 1) := by decide +kernel
theorem dX10_climb_17 : decode cX10_climb 17 = .ok (.iload_n 2, 1) := by decide +kernel
theorem dX10_climb_18 : decode cX10_climb 18 = .ok (.if_icmp .eq 11, 3) := by decide +kernel
theorem dX10_climb_21 : decode cX10_climb 21 = .ok (.aload_n 0, 1) := by decide +kernel
theorem dX10_climb_22 : decode cX10_climb 22 = .ok (.iload_n 3, 1) := by decide +kernel
theorem dX10_climb_23 : decode cX10_climb 23 = .ok (.invokevirtual 126, 3) := by decide +kernel
theorem dX10_climb_26 : decode cX10_climb 26 = .ok (.ifCond .ne 5, 3) := by decide +kernel
theorem dX10_climb_29 : decode cX10_climb 29 = .ok (.iconst (-1), 1) := by decide +kernel
theorem dX10_climb_30 : decode cX10_climb 30 = .ok (.ireturn, 1) := by decide +kernel
theorem dX10_climb_31 : decode cX10_climb 31 = .ok (.aload_n 0, 1) := by decide +kernel
theorem dX10_climb_32 : decode cX10_climb 32 = .ok (.iconst 0, 1) := by decide +kernel
theorem dX10_climb_33 : decode cX10_climb 33 = .ok (.iload_n 1, 1) := by decide +kernel
theorem dX10_climb_34 : decode cX10_climb 34 = .ok (.iload_n 2, 1) := by decide +kernel
theorem dX10_climb_35 : decode cX10_climb 35 = .ok (.iload_n 3, 1) := by decide +kernel
theorem dX10_climb_36 : decode cX10_climb 36 = .ok (.invokevirtual 140, 3) := by decide +kernel
theorem dX10_climb_39 : decode cX10_climb 39 = .ok (.ifCond .eq 14, 3) := by decide +kernel
theorem dX10_climb_42 : decode cX10_climb 42 = .ok (.aload_n 0, 1) := by decide +kernel
theorem dX10_climb_43 : decode cX10_climb 43 = .ok (.iconst 0, 1) := by decide +kernel
theorem dX10_climb_44 : decode cX10_climb 44 = .ok (.iload_n 1, 1) := by decide +kernel
theorem dX10_climb_45 : decode cX10_climb 45 = .ok (.iload_n 2, 1) := by decide +kernel
theorem dX10_climb_46 : decode cX10_climb 46 = .ok (.iload_n 3, 1) := by decide +kernel
theorem dX10_climb_47 : decode cX10_climb 47 = .ok (.invokevirtual 144, 3) := by decide +kernel
theorem dX10_climb_50 : decode cX10_climb 50 = .ok (.goto 5, 3) := by decide +kernel
theorem dX10_climb_53 : decode cX10_climb 53 = .ok (.bipush (-2), 2) := by decide +kernel
theorem dX10_climb_55 : decode cX10_climb 55 = .ok (.ireturn, 1) := by decide +kernel
set_option maxRecDepth 20000 in
theorem ggX10_ends_X10_endDay : GoodIn wsX10_ends wsX10_endDay := goodIn_r _ [6, 1, 7, 8, 9, 10, 11, 12, 13, 14, 15, 16, 17, 18, 19, 20, 21, 22, 23, 24, 25, 26, 27, 28, 29, 30, 31, 32, 33, 34, 35] (by decide +kernel) (by decide +kernel)
set_option maxRecDepth 20000 in
theorem gX10_ends_X10_endDay : GoodIn wsX10_ends (wsV RX10 147 RX10 yX10_endDay wsX10_endDay) := goodIn_app (goodIn_of _ (by decide +kernel)) ggX10_ends_X10_endDay
theorem dX10_ends_0 : decode cX10_ends 0 = .ok (.aload_n 0, 1) := by decide +kernel
theorem dX10_ends_1 : decode cX10_ends 1 = .ok (.getfield 45, 3) := by decide +kernel
theorem dX10_ends_4 : decode cX10_ends 4 = .ok (.iconst 0, 1) := by decide +kernel
theorem dX10_ends_5 : decode cX10_ends 5 = .ok (.iaload, 1) := by decide +kernel
theorem dX10_ends_6 : decode cX10_ends 6 = .ok (.bipush 30, 2) := by decide +kernel
theorem dX10_ends_8 : decode cX10_ends 8 = .ok (.if_icmp .ne 8, 3) := by decide +kernel
theorem dX10_ends_11 : decode cX10_ends 11 = .ok (.bipush (-2), 2) := by decide +kernel
theorem dX10_ends_13 : decode cX10_ends 13 = .ok (.goto 8, 3) := by decide +kernel
theorem dX10_ends_16 : decode cX10_ends 16 = .ok (.aload_n 0, 1) := by decide +kernel
theorem dX10_ends_17 : decode cX10_ends 17 = .ok (.iconst 0, 1) := by decide +kernel
theorem dX10_ends_18 : decode cX10_ends 18 = .ok (.invokevirtual 147, 3) := by decide +kernel
theorem dX10_ends_21 : decode cX10_ends 21 = .ok (.ireturn, 1) := by decide +kernel
theorem dX10_now_0 : decode cX10_now 0 = .ok (.iconst 0, 1) := by decide +kernel
theorem dX10_now_1 : decode cX10_now 1 = .ok (.istore_n 2, 1) := by decide +kernel
theorem dX10_now_2 : decode cX10_now 2 = .ok (.iconst 0, 1) := by decide +kernel
theorem dX10_now_3 : decode cX10_now 3 = .ok (.istore_n 3, 1) := by decide +kernel
theorem dX10_now_4 : decode cX10_now 4 = .ok (.iload_n 3, 1) := by decide +kernel
theorem dX10_now_5 : decode cX10_now 5 = .ok (.aload_n 0, 1) := by decide +kernel
theorem dX10_now_6 : decode cX10_now 6 = .ok (.getfield 33, 3) := by decide +kernel
theorem dX10_now_9 : decode cX10_now 9 = .ok (.iconst 0, 1) := by decide +kernel
theorem dX10_now_10 : decode cX10_now 10 = .ok (.iaload, 1) := by decide +kernel
theorem dX10_now_11 : decode cX10_now 11 = .ok (.if_icmp .ge 21, 3) := by decide +kernel
theorem dX10_now_14 : decode cX10_now 14 = .ok (.iload_n 2, 1) := by decide +kernel
theorem dX10_now_15 : decode cX10_now 15 = .ok (.aload_n 0, 1) := by decide +kernel
theorem dX10_now_16 : decode cX10_now 16 = .ok (.getfield 45, 3) := by decide +kernel
theorem dX10_now_19 : decode cX10_now 19 = .ok (.bipush 6, 2) := by decide +kernel
theorem dX10_now_21 : decode cX10_now 21 = .ok (.iload_n 3, 1) := by decide +kernel
theorem dX10_now_22 : decode cX10_now 22 = .ok (.iadd, 1) := by decide +kernel
theorem dX10_now_23 : decode cX10_now 23 = .ok (.iaload, 1) := by decide +kernel
theorem dX10_now_24 : decode cX10_now 24 = .ok (.iadd, 1) := by decide +kernel
theorem dX10_now_25 : decode cX10_now 25 = .ok (.istore_n 2, 1) := by decide +kernel
theorem dX10_now_26 : decode cX10_now 26 = .ok (.iinc 3 1, 3) := by decide +kernel
theorem dX10_now_29 : decode cX10_now 29 = .ok (.goto (-25), 3) := by decide +kernel
theorem dX10_now_32 : decode cX10_now 32 = .ok (.iload_n 1, 1) := by decide +kernel
theorem dX10_now_33 : decode cX10_now 33 = .ok (.ifCond .ne 12, 3) := by decide +kernel
theorem dX10_now_36 : decode cX10_now 36 = .ok (.aload_n 0, 1) := by decide +kernel
theorem dX10_now_37 : decode cX10_now 37 = .ok (.getfield 45, 3) := by decide +kernel
theorem dX10_now_40 : decode cX10_now 40 = .ok (.iconst 0, 1) := by decide +kernel
theorem dX10_now_41 : decode cX10_now 41 = .ok (.iaload, 1) := by decide +kernel
theorem dX10_now_42 : decode cX10_now 42 = .ok (.goto 55, 3) := by decide +kernel
theorem dX10_now_45 : decode cX10_now 45 = .ok (.iload_n 1, 1) := by decide +kernel
theorem dX10_now_46 : decode cX10_now 46 = .ok (.iconst 1, 1) := by decide +kernel
theorem dX10_now_47 : decode cX10_now 47 = .ok (.if_icmp .ne 12, 3) := by decide +kernel
theorem dX10_now_50 : decode cX10_now 50 = .ok (.aload_n 0, 1) := by decide +kernel
theorem dX10_now_51 : decode cX10_now 51 = .ok (.getfield 45, 3) := by decide +kernel
theorem dX10_now_54 : decode cX10_now 54 = .ok (.iconst 1, 1) := by decide +kernel
theorem dX10_now_55 : decode cX10_now 55 = .ok (.iaload, 1) := by decide +kernel
theorem dX10_now_56 : decode cX10_now 56 = .ok (.goto 41, 3) := by decide +kernel
theorem dX10_now_59 : decode cX10_now 59 = .ok (.iload_n 1, 1) := by decide +kernel
theorem dX10_now_60 : decode cX10_now 60 = .ok (.iconst 2, 1) := by decide +kernel
theorem dX10_now_61 : decode cX10_now 61 = .ok (.if_icmp .ne 12, 3) := by decide +kernel
theorem dX10_now_64 : decode cX10_now 64 = .ok (.aload_n 0, 1) := by decide +kernel
theorem dX10_now_65 : decode cX10_now 65 = .ok (.getfield 45, 3) := by decide +kernel
theorem dX10_now_68 : decode cX10_now 68 = .ok (.iconst 2, 1) := by decide +kernel
theorem dX10_now_69 : decode cX10_now 69 = .ok (.iaload, 1) := by decide +kernel
theorem dX10_now_70 : decode cX10_now 70 = .ok (.goto 27, 3) := by decide +kernel
theorem dX10_now_73 : decode cX10_now 73 = .ok (.iload_n 1, 1) := by decide +kernel
theorem dX10_now_74 : decode cX10_now 74 = .ok (.iconst 3, 1) := by decide +kernel
theorem dX10_now_75 : decode cX10_now 75 = .ok (.if_icmp .ne 7, 3) := by decide +kernel
theorem dX10_now_78 : decode cX10_now 78 = .ok (.iload_n 2, 1) := by decide +kernel
theorem dX10_now_79 : decode cX10_now 79 = .ok (.goto 18, 3) := by decide +kernel
theorem dX10_now_82 : decode cX10_now 82 = .ok (.iload_n 1, 1) := by decide +kernel
theorem dX10_now_83 : decode cX10_now 83 = .ok (.iconst 4, 1) := by decide +kernel
theorem dX10_now_84 : decode cX10_now 84 = .ok (.if_icmp .ne 12, 3) := by decide +kernel
theorem dX10_now_87 : decode cX10_now 87 = .ok (.aload_n 0, 1) := by decide +kernel
theorem dX10_now_88 : decode cX10_now 88 = .ok (.getfield 45, 3) := by decide +kernel
theorem dX10_now_91 : decode cX10_now 91 = .ok (.iconst 3, 1) := by decide +kernel
theorem dX10_now_92 : decode cX10_now 92 = .ok (.iaload, 1) := by decide +kernel
theorem dX10_now_93 : decode cX10_now 93 = .ok (.goto 4, 3) := by decide +kernel
theorem dX10_now_96 : decode cX10_now 96 = .ok (.iconst (-1), 1) := by decide +kernel
theorem dX10_now_97 : decode cX10_now 97 = .ok (.ireturn, 1) := by decide +kernel
set_option maxRecDepth 20000 in
theorem ggX10_year_X10_begin : GoodIn wsX10_year wsX10_begin := goodIn_r _ [9, 2, 10, 11, 12, 13, 14, 15, 16, 17, 18, 19, 20, 21, 22, 23, 24, 25, 26, 27, 28, 29, 30, 31, 32, 33, 34, 35, 36] (by decide +kernel) (by decide +kernel)
set_option maxRecDepth 20000 in
theorem gX10_year_X10_begin : GoodIn wsX10_year (wsV RX10 119 RX10 yX10_begin wsX10_begin) := goodIn_app (goodIn_of _ (by decide +kernel)) ggX10_year_X10_begin
theorem dX10_year_0 : decode cX10_year 0 = .ok (.aload_n 0, 1) := by decide +kernel
theorem dX10_year_1 : decode cX10_year 1 = .ok (.invokevirtual 119, 3) := by decide +kernel
theorem dX10_year_4 : decode cX10_year 4 = .ok (.iconst 0, 1) := by decide +kernel
theorem dX10_year_5 : decode cX10_year 5 = .ok (.istore_n 1, 1) := by decide +kernel
theorem dX10_year_6 : decode cX10_year 6 = .ok (.iconst 0, 1) := by decide +kernel
theorem dX10_year_7 : decode cX10_year 7 = .ok (.istore_n 2, 1) := by decide +kernel
theorem dX10_year_8 : decode cX10_year 8 = .ok (.iload_n 2, 1) := by decide +kernel
theorem dX10_year_9 : decode cX10_year 9 = .ok (.aload_n 0, 1) := by decide +kernel
theorem dX10_year_10 : decode cX10_year 10 = .ok (.getfield 33, 3) := by decide +kernel
theorem dX10_year_13 : decode cX10_year 13 = .ok (.iconst 0, 1) := by decide +kernel
theorem dX10_year_14 : decode cX10_year 14 = .ok (.iaload, 1) := by decide +kernel
theorem dX10_year_15 : decode cX10_year 15 = .ok (.if_icmp .ge 71, 3) := by decide +kernel
theorem dX10_year_18 : decode cX10_year 18 = .ok (.aload_n 0, 1) := by decide +kernel
theorem dX10_year_19 : decode cX10_year 19 = .ok (.getfield 45, 3) := by decide +kernel
theorem dX10_year_22 : decode cX10_year 22 = .ok (.iconst 5, 1) := by decide +kernel
theorem dX10_year_23 : decode cX10_year 23 = .ok (.aload_n 0, 1) := by decide +kernel
theorem dX10_year_24 : decode cX10_year 24 = .ok (.getfield 45, 3) := by decide +kernel
theorem dX10_year_27 : decode cX10_year 27 = .ok (.iconst 5, 1) := by decide +kernel
theorem dX10_year_28 : decode cX10_year 28 = .ok (.iaload, 1) := by decide +kernel
theorem dX10_year_29 : decode cX10_year 29 = .ok (.ldc 151, 2) := by decide +kernel
theorem dX10_year_31 : decode cX10_year 31 = .ok (.imul, 1) := by decide +kernel
theorem dX10_year_32 : decode cX10_year 32 = .ok (.sipush 12345, 3) := by decide +kernel
theorem dX10_year_35 : decode cX10_year 35 = .ok (.iadd, 1) := by decide +kernel
theorem dX10_year_36 : decode cX10_year 36 = .ok (.iastore, 1) := by decide +kernel
theorem dX10_year_37 : decode cX10_year 37 = .ok (.aload_n 0, 1) := by decide +kernel
theorem dX10_year_38 : decode cX10_year 38 = .ok (.getfield 45, 3) := by decide +kernel
theorem dX10_year_41 : decode cX10_year 41 = .ok (.bipush 6, 2) := by decide +kernel
theorem dX10_year_43 : decode cX10_year 43 = .ok (.iload_n 2, 1) := by decide +kernel
theorem dX10_year_44 : decode cX10_year 44 = .ok (.iadd, 1) := by decide +kernel
theorem dX10_year_45 : decode cX10_year 45 = .ok (.aload_n 0, 1) := by decide +kernel
theorem dX10_year_46 : decode cX10_year 46 = .ok (.getfield 42, 3) := by decide +kernel
theorem dX10_year_49 : decode cX10_year 49 = .ok (.iload_n 2, 1) := by decide +kernel
theorem dX10_year_50 : decode cX10_year 50 = .ok (.iaload, 1) := by decide +kernel
theorem dX10_year_51 : decode cX10_year 51 = .ok (.aload_n 0, 1) := by decide +kernel
theorem dX10_year_52 : decode cX10_year 52 = .ok (.getfield 45, 3) := by decide +kernel
theorem dX10_year_55 : decode cX10_year 55 = .ok (.iconst 5, 1) := by decide +kernel
theorem dX10_year_56 : decode cX10_year 56 = .ok (.iaload, 1) := by decide +kernel
theorem dX10_year_57 : decode cX10_year 57 = .ok (.bipush 16, 2) := by decide +kernel
theorem dX10_year_59 : decode cX10_year 59 = .ok (.iushr, 1) := by decide +kernel
theorem dX10_year_60 : decode cX10_year 60 = .ok (.bipush 21, 2) := by decide +kernel
theorem dX10_year_62 : decode cX10_year 62 = .ok (.irem, 1) := by decide +kernel
theorem dX10_year_63 : decode cX10_year 63 = .ok (.imul, 1) := by decide +kernel
theorem dX10_year_64 : decode cX10_year 64 = .ok (.bipush 10, 2) := by decide +kernel
theorem dX10_year_66 : decode cX10_year 66 = .ok (.idiv, 1) := by decide +kernel
theorem dX10_year_67 : decode cX10_year 67 = .ok (.iastore, 1) := by decide +kernel
theorem dX10_year_68 : decode cX10_year 68 = .ok (.iload_n 1, 1) := by decide +kernel
theorem dX10_year_69 : decode cX10_year 69 = .ok (.aload_n 0, 1) := by decide +kernel
theorem dX10_year_70 : decode cX10_year 70 = .ok (.getfield 45, 3) := by decide +kernel
theorem dX10_year_73 : decode cX10_year 73 = .ok (.bipush 6, 2) := by decide +kernel
theorem dX10_year_75 : decode cX10_year 75 = .ok (.iload_n 2, 1) := by decide +kernel
theorem dX10_year_76 : decode cX10_year 76 = .ok (.iadd, 1) := by decide +kernel
theorem dX10_year_77 : decode cX10_year 77 = .ok (.iaload, 1) := by decide +kernel
theorem dX10_year_78 : decode cX10_year 78 = .ok (.iadd, 1) := by decide +kernel
theorem dX10_year_79 : decode cX10_year 79 = .ok (.istore_n 1, 1) := by decide +kernel
theorem dX10_year_80 : decode cX10_year 80 = .ok (.iinc 2 1, 3) := by decide +kernel
theorem dX10_year_83 : decode cX10_year 83 = .ok (.goto (-75), 3) := by decide +kernel
theorem dX10_year_86 : decode cX10_year 86 = .ok (.iload_n 1, 1) := by decide +kernel
theorem dX10_year_87 : decode cX10_year 87 = .ok (.ireturn, 1) := by decide +kernel
theorem dX10_lot_0 : decode cX10_lot 0 = .ok (.aload_n 0, 1) := by decide +kernel
theorem dX10_lot_1 : decode cX10_lot 1 = .ok (.getfield 45, 3) := by decide +kernel
theorem dX10_lot_4 : decode cX10_lot 4 = .ok (.iconst 5, 1) := by decide +kernel
theorem dX10_lot_5 : decode cX10_lot 5 = .ok (.iaload, 1) := by decide +kernel
theorem dX10_lot_6 : decode cX10_lot 6 = .ok (.istore_n 2, 1) := by decide +kernel
theorem dX10_lot_7 : decode cX10_lot 7 = .ok (.aload_n 0, 1) := by decide +kernel
theorem dX10_lot_8 : decode cX10_lot 8 = .ok (.getfield 45, 3) := by decide +kernel
theorem dX10_lot_11 : decode cX10_lot 11 = .ok (.iconst 5, 1) := by decide +kernel
theorem dX10_lot_12 : decode cX10_lot 12 = .ok (.iload_n 1, 1) := by decide +kernel
theorem dX10_lot_13 : decode cX10_lot 13 = .ok (.iastore, 1) := by decide +kernel
theorem dX10_lot_14 : decode cX10_lot 14 = .ok (.iload_n 2, 1) := by decide +kernel
theorem dX10_lot_15 : decode cX10_lot 15 = .ok (.ireturn, 1) := by decide +kernel
theorem dX10_leftOf_0 : decode cX10_leftOf 0 = .ok (.iload_n 0, 1) := by decide +kernel
theorem dX10_leftOf_1 : decode cX10_leftOf 1 = .ok (.bipush 10, 2) := by decide +kernel
theorem dX10_leftOf_3 : decode cX10_leftOf 3 = .ok (.idiv, 1) := by decide +kernel
theorem dX10_leftOf_4 : decode cX10_leftOf 4 = .ok (.ireturn, 1) := by decide +kernel
set_option maxRecDepth 20000 in
theorem ggX10_mayPair_X10_isOne : GoodIn wsX10_mayPair wsX10_isOne := goodIn_r _ [6, 7, 8, 9, 5, 10, 29, 30, 31, 32, 33, 34, 35, 36, 37, 38, 39, 40, 41, 42, 43, 44, 45, 46, 47, 48, 49, 50, 51, 52, 53, 54, 55] (by decide +kernel) (by decide +kernel)
set_option maxRecDepth 20000 in
theorem gX10_mayPair_X10_isOne : GoodIn wsX10_mayPair (wsV RX10 122 RX10 yX10_isOne wsX10_isOne) := goodIn_app (goodIn_of _ (by decide +kernel)) ggX10_mayPair_X10_isOne
set_option maxRecDepth 20000 in
theorem ggX10_mayPair_X10_mayClimb : GoodIn wsX10_mayPair wsX10_mayClimb := goodIn_r _ [14, 15, 16, 17, 18, 19, 20, 5, 21, 1, 22, 23, 8, 9, 10, 24, 25, 26, 27, 28, 29, 30, 31, 32, 33, 34, 35, 36, 37, 38, 39, 40, 41, 42, 43, 44, 45, 46, 47, 48, 49, 50, 51, 52, 53, 54, 55] (by decide +kernel) (by decide +kernel)
set_option maxRecDepth 20000 in
theorem gX10_mayPair_X10_mayClimb : GoodIn wsX10_mayPair (wsV RX10 140 RX10 yX10_mayClimb wsX10_mayClimb) := goodIn_app (goodIn_of _ (by decide +kernel)) ggX10_mayPair_X10_mayClimb
theorem dX10_mayPair_0 : decode cX10_mayPair 0 = .ok (.iload_n 2, 1) := by decide +kernel
theorem dX10_mayPair_1 : decode cX10_mayPair 1 = .ok (.bipush 10, 2) := by decide +kernel
theorem dX10_mayPair_3 : decode cX10_mayPair 3 = .ok (.idiv, 1) := by decide +kernel
theorem dX10_mayPair_4 : decode cX10_mayPair 4 = .ok (.istore 5, 2) := by decide +kernel
theorem dX10_mayPair_6 : decode cX10_mayPair 6 = .ok (.iload_n 2, 1) := by decide +kernel
theorem dX10_mayPair_7 : decode cX10_mayPair 7 = .ok (.bipush 10, 2) := by decide +kernel
theorem dX10_mayPair_9 : decode cX10_mayPair 9 = .ok (.irem, 1) := by decide +kernel
theorem dX10_mayPair_10 : decode cX10_mayPair 10 = .ok (.istore 6, 2) := by decide +kernel
theorem dX10_mayPair_12 : decode cX10_mayPair 12 = .ok (.aload_n 0, 1) := by decide +kernel
theorem dX10_mayPair_13 : decode cX10_mayPair 13 = .ok (.iload 5, 2) := by decide +kernel
theorem dX10_mayPair_15 : decode cX10_mayPair 15 = .ok (.invokevirtual 122, 3) := by decide +kernel
theorem dX10_mayPair_18 : decode cX10_mayPair 18 = .ok (.ifCond .eq 70, 3) := by decide +kernel
theorem dX10_mayPair_21 : decode cX10_mayPair 21 = .ok (.aload_n 0, 1) := by decide +kernel
theorem dX10_mayPair_22 : decode cX10_mayPair 22 = .ok (.iload 6, 2) := by decide +kernel
theorem dX10_mayPair_24 : decode cX10_mayPair 24 = .ok (.invokevirtual 122, 3) := by decide +kernel
theorem dX10_mayPair_27 : decode cX10_mayPair 27 = .ok (.ifCond .eq 61, 3) := by decide +kernel
theorem dX10_mayPair_30 : decode cX10_mayPair 30 = .ok (.aload_n 0, 1) := by decide +kernel
theorem dX10_mayPair_31 : decode cX10_mayPair 31 = .ok (.getfield 17, 3) := by decide +kernel
theorem dX10_mayPair_34 : decode cX10_mayPair 34 = .ok (.iload 5, 2) := by decide +kernel
theorem dX10_mayPair_36 : decode cX10_mayPair 36 = .ok (.iaload, 1) := by decide +kernel
theorem dX10_mayPair_37 : decode cX10_mayPair 37 = .ok (.ifCond .ne 51, 3) := by decide +kernel
theorem dX10_mayPair_40 : decode cX10_mayPair 40 = .ok (.aload_n 0, 1) := by decide +kernel
theorem dX10_mayPair_41 : decode cX10_mayPair 41 = .ok (.getfield 17, 3) := by decide +kernel
theorem dX10_mayPair_44 : decode cX10_mayPair 44 = .ok (.iload 6, 2) := by decide +kernel
theorem dX10_mayPair_46 : decode cX10_mayPair 46 = .ok (.iaload, 1) := by decide +kernel
theorem dX10_mayPair_47 : decode cX10_mayPair 47 = .ok (.iconst 1, 1) := by decide +kernel
theorem dX10_mayPair_48 : decode cX10_mayPair 48 = .ok (.if_icmp .ne 40, 3) := by decide +kernel
theorem dX10_mayPair_51 : decode cX10_mayPair 51 = .ok (.iload 4, 2) := by decide +kernel
theorem dX10_mayPair_53 : decode cX10_mayPair 53 = .ok (.iload 5, 2) := by decide +kernel
theorem dX10_mayPair_55 : decode cX10_mayPair 55 = .ok (.ishr, 1) := by decide +kernel
theorem dX10_mayPair_56 : decode cX10_mayPair 56 = .ok (.iconst 1, 1) := by decide +kernel
theorem dX10_mayPair_57 : decode cX10_mayPair 57 = .ok (.iand, 1) := by decide +kernel
theorem dX10_mayPair_58 : decode cX10_mayPair 58 = .ok (.ifCond .ne 30, 3) := by decide +kernel
theorem dX10_mayPair_61 : decode cX10_mayPair 61 = .ok (.iload 4, 2) := by decide +kernel
theorem dX10_mayPair_63 : decode cX10_mayPair 63 = .ok (.iload 6, 2) := by decide +kernel
theorem dX10_mayPair_65 : decode cX10_mayPair 65 = .ok (.ishr, 1) := by decide +kernel
theorem dX10_mayPair_66 : decode cX10_mayPair 66 = .ok (.iconst 1, 1) := by decide +kernel
end
section
theorem dX10_mayPair_67 : decode cX10_mayPair 67 = .ok (.iand, 1) := by decide +kernel
theorem dX10_mayPair_68 : decode cX10_mayPair 68 = .ok (.ifCond .ne 20, 3) := by decide +kernel
theorem dX10_mayPair_71 : decode cX10_mayPair 71 = .ok (.aload_n 0, 1) := by decide +kernel
theorem dX10_mayPair_72 : decode cX10_mayPair 72 = .ok (.iload_n 1, 1) := by decide +kernel
theorem dX10_mayPair_73 : decode cX10_mayPair 73 = .ok (.iload 5, 2) := by decide +kernel
theorem dX10_mayPair_75 : decode cX10_mayPair 75 = .ok (.iload 6, 2) := by decide +kernel
theorem dX10_mayPair_77 : decode cX10_mayPair 77 = .ok (.iload_n 3, 1) := by decide +kernel
theorem dX10_mayPair_78 : decode cX10_mayPair 78 = .ok (.invokevirtual 140, 3) := by decide +kernel
theorem dX10_mayPair_81 : decode cX10_mayPair 81 = .ok (.ifCond .eq 7, 3) := by decide +kernel
theorem dX10_mayPair_84 : decode cX10_mayPair 84 = .ok (.iconst 1, 1) := by decide +kernel
theorem dX10_mayPair_85 : decode cX10_mayPair 85 = .ok (.goto 4, 3) := by decide +kernel
theorem dX10_mayPair_88 : decode cX10_mayPair 88 = .ok (.iconst 0, 1) := by decide +kernel
theorem dX10_mayPair_89 : decode cX10_mayPair 89 = .ok (.ireturn, 1) := by decide +kernel
set_option maxRecDepth 20000 in
theorem ggX10_findBest_X10_mayPair : GoodIn wsX10_findBest wsX10_mayPair := goodIn_r _ [8, 9, 10, 11, 12, 7, 13, 14, 15, 16, 17, 18, 19, 20, 21, 22, 23, 24, 25, 26, 27, 28, 29, 30, 31, 32, 33, 34, 35, 44, 45, 46, 47, 48, 49, 50, 51, 52, 53, 54, 55, 56, 57, 58, 59, 60, 61, 62, 63, 64, 65, 66, 67, 68, 69, 70] (by decide +kernel) (by decide +kernel)
set_option maxRecDepth 20000 in
theorem gX10_findBest_X10_mayPair : GoodIn wsX10_findBest (wsV RX10 152 RX10 yX10_mayPair wsX10_mayPair) := goodIn_app (goodIn_of _ (by decide +kernel)) ggX10_findBest_X10_mayPair
set_option maxRecDepth 20000 in
theorem ggX10_findBest_X10_leftOf : GoodIn wsX10_findBest wsX10_leftOf := goodIn_r _ [38] (by decide +kernel) (by decide +kernel)
set_option maxRecDepth 20000 in
theorem gX10_findBest_X10_leftOf : GoodIn wsX10_findBest (va_wsS RX10 155 yX10_leftOf wsX10_leftOf) := goodIn_app (goodIn_of _ (by decide +kernel)) ggX10_findBest_X10_leftOf
set_option maxRecDepth 20000 in
theorem ggX10_findBest_X10_picks : GoodIn wsX10_findBest wsX10_picks := goodIn_r _ [42, 43, 22, 44, 45, 46, 47, 48, 49, 50, 51, 52, 53, 54, 55, 56, 57, 58, 59, 60, 61, 62, 63, 64, 65, 66, 67, 68, 69, 70] (by decide +kernel) (by decide +kernel)
set_option maxRecDepth 20000 in
theorem gX10_findBest_X10_picks : GoodIn wsX10_findBest (wsV RX10 136 RX10 yX10_picks wsX10_picks) := goodIn_app (goodIn_of _ (by decide +kernel)) ggX10_findBest_X10_picks
theorem dX10_findBest_0 : decode cX10_findBest 0 = .ok (.iconst 5, 1) := by decide +kernel
theorem dX10_findBest_1 : decode cX10_findBest 1 = .ok (.istore_n 2, 1) := by decide +kernel
theorem dX10_findBest_2 : decode cX10_findBest 2 = .ok (.iload_n 2, 1) := by decide +kernel
theorem dX10_findBest_3 : decode cX10_findBest 3 = .ok (.ifCond .lt 171, 3) := by decide +kernel
theorem dX10_findBest_6 : decode cX10_findBest 6 = .ok (.iconst 0, 1) := by decide +kernel
theorem dX10_findBest_7 : decode cX10_findBest 7 = .ok (.istore_n 3, 1) := by decide +kernel
theorem dX10_findBest_8 : decode cX10_findBest 8 = .ok (.iload_n 3, 1) := by decide +kernel
theorem dX10_findBest_9 : decode cX10_findBest 9 = .ok (.sipush 256, 3) := by decide +kernel
theorem dX10_findBest_12 : decode cX10_findBest 12 = .ok (.if_icmp .ge 156, 3) := by decide +kernel
theorem dX10_findBest_15 : decode cX10_findBest 15 = .ok (.iload_n 2, 1) := by decide +kernel
theorem dX10_findBest_16 : decode cX10_findBest 16 = .ok (.aload_n 0, 1) := by decide +kernel
theorem dX10_findBest_17 : decode cX10_findBest 17 = .ok (.getfield 33, 3) := by decide +kernel
theorem dX10_findBest_20 : decode cX10_findBest 20 = .ok (.iconst 0, 1) := by decide +kernel
theorem dX10_findBest_21 : decode cX10_findBest 21 = .ok (.iaload, 1) := by decide +kernel
theorem dX10_findBest_22 : decode cX10_findBest 22 = .ok (.if_icmp .lt 7, 3) := by decide +kernel
theorem dX10_findBest_25 : decode cX10_findBest 25 = .ok (.iconst 0, 1) := by decide +kernel
theorem dX10_findBest_26 : decode cX10_findBest 26 = .ok (.goto 17, 3) := by decide +kernel
theorem dX10_findBest_29 : decode cX10_findBest 29 = .ok (.aload_n 0, 1) := by decide +kernel
theorem dX10_findBest_30 : decode cX10_findBest 30 = .ok (.getfield 51, 3) := by decide +kernel
theorem dX10_findBest_33 : decode cX10_findBest 33 = .ok (.sipush 256, 3) := by decide +kernel
theorem dX10_findBest_36 : decode cX10_findBest 36 = .ok (.iload_n 2, 1) := by decide +kernel
theorem dX10_findBest_37 : decode cX10_findBest 37 = .ok (.iconst 1, 1) := by decide +kernel
theorem dX10_findBest_38 : decode cX10_findBest 38 = .ok (.iadd, 1) := by decide +kernel
theorem dX10_findBest_39 : decode cX10_findBest 39 = .ok (.imul, 1) := by decide +kernel
theorem dX10_findBest_40 : decode cX10_findBest 40 = .ok (.iload_n 3, 1) := by decide +kernel
theorem dX10_findBest_41 : decode cX10_findBest 41 = .ok (.iadd, 1) := by decide +kernel
theorem dX10_findBest_42 : decode cX10_findBest 42 = .ok (.iaload, 1) := by decide +kernel
theorem dX10_findBest_43 : decode cX10_findBest 43 = .ok (.istore 4, 2) := by decide +kernel
theorem dX10_findBest_45 : decode cX10_findBest 45 = .ok (.iconst 0, 1) := by decide +kernel
theorem dX10_findBest_46 : decode cX10_findBest 46 = .ok (.istore 5, 2) := by decide +kernel
theorem dX10_findBest_48 : decode cX10_findBest 48 = .ok (.iload 5, 2) := by decide +kernel
theorem dX10_findBest_50 : decode cX10_findBest 50 = .ok (.bipush 78, 2) := by decide +kernel
theorem dX10_findBest_52 : decode cX10_findBest 52 = .ok (.if_icmp .ge 96, 3) := by decide +kernel
theorem dX10_findBest_55 : decode cX10_findBest 55 = .ok (.iload_n 2, 1) := by decide +kernel
theorem dX10_findBest_56 : decode cX10_findBest 56 = .ok (.aload_n 0, 1) := by decide +kernel
theorem dX10_findBest_57 : decode cX10_findBest 57 = .ok (.getfield 33, 3) := by decide +kernel
theorem dX10_findBest_60 : decode cX10_findBest 60 = .ok (.iconst 0, 1) := by decide +kernel
theorem dX10_findBest_61 : decode cX10_findBest 61 = .ok (.iaload, 1) := by decide +kernel
theorem dX10_findBest_62 : decode cX10_findBest 62 = .ok (.if_icmp .ge 86, 3) := by decide +kernel
theorem dX10_findBest_65 : decode cX10_findBest 65 = .ok (.aload_n 0, 1) := by decide +kernel
theorem dX10_findBest_66 : decode cX10_findBest 66 = .ok (.iload_n 1, 1) := by decide +kernel
theorem dX10_findBest_67 : decode cX10_findBest 67 = .ok (.iload 5, 2) := by decide +kernel
theorem dX10_findBest_69 : decode cX10_findBest 69 = .ok (.iload_n 2, 1) := by decide +kernel
theorem dX10_findBest_70 : decode cX10_findBest 70 = .ok (.iload_n 3, 1) := by decide +kernel
theorem dX10_findBest_71 : decode cX10_findBest 71 = .ok (.invokevirtual 152, 3) := by decide +kernel
theorem dX10_findBest_74 : decode cX10_findBest 74 = .ok (.ifCond .eq 68, 3) := by decide +kernel
theorem dX10_findBest_77 : decode cX10_findBest 77 = .ok (.aload_n 0, 1) := by decide +kernel
theorem dX10_findBest_78 : decode cX10_findBest 78 = .ok (.iload_n 1, 1) := by decide +kernel
theorem dX10_findBest_79 : decode cX10_findBest 79 = .ok (.iload 5, 2) := by decide +kernel
theorem dX10_findBest_81 : decode cX10_findBest 81 = .ok (.invokestatic 155, 3) := by decide +kernel
theorem dX10_findBest_84 : decode cX10_findBest 84 = .ok (.iload 5, 2) := by decide +kernel
theorem dX10_findBest_86 : decode cX10_findBest 86 = .ok (.bipush 10, 2) := by decide +kernel
theorem dX10_findBest_88 : decode cX10_findBest 88 = .ok (.irem, 1) := by decide +kernel
theorem dX10_findBest_89 : decode cX10_findBest 89 = .ok (.iload_n 2, 1) := by decide +kernel
theorem dX10_findBest_90 : decode cX10_findBest 90 = .ok (.invokevirtual 136, 3) := by decide +kernel
theorem dX10_findBest_93 : decode cX10_findBest 93 = .ok (.aload_n 0, 1) := by decide +kernel
theorem dX10_findBest_94 : decode cX10_findBest 94 = .ok (.getfield 51, 3) := by decide +kernel
theorem dX10_findBest_97 : decode cX10_findBest 97 = .ok (.sipush 256, 3) := by decide +kernel
theorem dX10_findBest_100 : decode cX10_findBest 100 = .ok (.iload_n 2, 1) := by decide +kernel
theorem dX10_findBest_101 : decode cX10_findBest 101 = .ok (.iconst 1, 1) := by decide +kernel
theorem dX10_findBest_102 : decode cX10_findBest 102 = .ok (.iadd, 1) := by decide +kernel
theorem dX10_findBest_103 : decode cX10_findBest 103 = .ok (.imul, 1) := by decide +kernel
theorem dX10_findBest_104 : decode cX10_findBest 104 = .ok (.iload_n 3, 1) := by decide +kernel
theorem dX10_findBest_105 : decode cX10_findBest 105 = .ok (.iconst 1, 1) := by decide +kernel
theorem dX10_findBest_106 : decode cX10_findBest 106 = .ok (.iload 5, 2) := by decide +kernel
theorem dX10_findBest_108 : decode cX10_findBest 108 = .ok (.invokestatic 155, 3) := by decide +kernel
theorem dX10_findBest_111 : decode cX10_findBest 111 = .ok (.ishl, 1) := by decide +kernel
theorem dX10_findBest_112 : decode cX10_findBest 112 = .ok (.ior, 1) := by decide +kernel
theorem dX10_findBest_113 : decode cX10_findBest 113 = .ok (.iconst 1, 1) := by decide +kernel
theorem dX10_findBest_114 : decode cX10_findBest 114 = .ok (.iload 5, 2) := by decide +kernel
theorem dX10_findBest_116 : decode cX10_findBest 116 = .ok (.bipush 10, 2) := by decide +kernel
theorem dX10_findBest_118 : decode cX10_findBest 118 = .ok (.irem, 1) := by decide +kernel
theorem dX10_findBest_119 : decode cX10_findBest 119 = .ok (.ishl, 1) := by decide +kernel
theorem dX10_findBest_120 : decode cX10_findBest 120 = .ok (.ior, 1) := by decide +kernel
theorem dX10_findBest_121 : decode cX10_findBest 121 = .ok (.iadd, 1) := by decide +kernel
theorem dX10_findBest_122 : decode cX10_findBest 122 = .ok (.iaload, 1) := by decide +kernel
theorem dX10_findBest_123 : decode cX10_findBest 123 = .ok (.iadd, 1) := by decide +kernel
theorem dX10_findBest_124 : decode cX10_findBest 124 = .ok (.istore 6, 2) := by decide +kernel
theorem dX10_findBest_126 : decode cX10_findBest 126 = .ok (.iload 6, 2) := by decide +kernel
theorem dX10_findBest_128 : decode cX10_findBest 128 = .ok (.iload 4, 2) := by decide +kernel
theorem dX10_findBest_130 : decode cX10_findBest 130 = .ok (.if_icmp .le 8, 3) := by decide +kernel
theorem dX10_findBest_133 : decode cX10_findBest 133 = .ok (.iload 6, 2) := by decide +kernel
theorem dX10_findBest_135 : decode cX10_findBest 135 = .ok (.goto 5, 3) := by decide +kernel
theorem dX10_findBest_138 : decode cX10_findBest 138 = .ok (.iload 4, 2) := by decide +kernel
theorem dX10_findBest_140 : decode cX10_findBest 140 = .ok (.istore 4, 2) := by decide +kernel
theorem dX10_findBest_142 : decode cX10_findBest 142 = .ok (.iinc 5 1, 3) := by decide +kernel
theorem dX10_findBest_145 : decode cX10_findBest 145 = .ok (.goto (-97), 3) := by decide +kernel
theorem dX10_findBest_148 : decode cX10_findBest 148 = .ok (.aload_n 0, 1) := by decide +kernel
theorem dX10_findBest_149 : decode cX10_findBest 149 = .ok (.getfield 51, 3) := by decide +kernel
theorem dX10_findBest_152 : decode cX10_findBest 152 = .ok (.sipush 256, 3) := by decide +kernel
theorem dX10_findBest_155 : decode cX10_findBest 155 = .ok (.iload_n 2, 1) := by decide +kernel
theorem dX10_findBest_156 : decode cX10_findBest 156 = .ok (.imul, 1) := by decide +kernel
theorem dX10_findBest_157 : decode cX10_findBest 157 = .ok (.iload_n 3, 1) := by decide +kernel
theorem dX10_findBest_158 : decode cX10_findBest 158 = .ok (.iadd, 1) := by decide +kernel
theorem dX10_findBest_159 : decode cX10_findBest 159 = .ok (.iload 4, 2) := by decide +kernel
theorem dX10_findBest_161 : decode cX10_findBest 161 = .ok (.iastore, 1) := by decide +kernel
theorem dX10_findBest_162 : decode cX10_findBest 162 = .ok (.iinc 3 1, 3) := by decide +kernel
theorem dX10_findBest_165 : decode cX10_findBest 165 = .ok (.goto (-157), 3) := by decide +kernel
theorem dX10_findBest_168 : decode cX10_findBest 168 = .ok (.iinc 2 (-1), 3) := by decide +kernel
theorem dX10_findBest_171 : decode cX10_findBest 171 = .ok (.goto (-169), 3) := by decide +kernel
theorem dX10_findBest_174 : decode cX10_findBest 174 = .ok (.iconst 0, 1) := by decide +kernel
theorem dX10_findBest_175 : decode cX10_findBest 175 = .ok (.istore_n 2, 1) := by decide +kernel
theorem dX10_findBest_176 : decode cX10_findBest 176 = .ok (.iconst 0, 1) := by decide +kernel
theorem dX10_findBest_177 : decode cX10_findBest 177 = .ok (.istore_n 3, 1) := by decide +kernel
theorem dX10_findBest_178 : decode cX10_findBest 178 = .ok (.iload_n 3, 1) := by decide +kernel
theorem dX10_findBest_179 : decode cX10_findBest 179 = .ok (.aload_n 0, 1) := by decide +kernel
theorem dX10_findBest_180 : decode cX10_findBest 180 = .ok (.getfield 33, 3) := by decide +kernel
theorem dX10_findBest_183 : decode cX10_findBest 183 = .ok (.iconst 0, 1) := by decide +kernel
theorem dX10_findBest_184 : decode cX10_findBest 184 = .ok (.iaload, 1) := by decide +kernel
theorem dX10_findBest_185 : decode cX10_findBest 185 = .ok (.if_icmp .ge 149, 3) := by decide +kernel
theorem dX10_findBest_188 : decode cX10_findBest 188 = .ok (.aload_n 0, 1) := by decide +kernel
theorem dX10_findBest_189 : decode cX10_findBest 189 = .ok (.getfield 54, 3) := by decide +kernel
theorem dX10_findBest_192 : decode cX10_findBest 192 = .ok (.iload_n 3, 1) := by decide +kernel
theorem dX10_findBest_193 : decode cX10_findBest 193 = .ok (.bipush (-9), 2) := by decide +kernel
theorem dX10_findBest_195 : decode cX10_findBest 195 = .ok (.iastore, 1) := by decide +kernel
theorem dX10_findBest_196 : decode cX10_findBest 196 = .ok (.aload_n 0, 1) := by decide +kernel
theorem dX10_findBest_197 : decode cX10_findBest 197 = .ok (.getfield 51, 3) := by decide +kernel
theorem dX10_findBest_200 : decode cX10_findBest 200 = .ok (.sipush 256, 3) := by decide +kernel
theorem dX10_findBest_203 : decode cX10_findBest 203 = .ok (.iload_n 3, 1) := by decide +kernel
theorem dX10_findBest_204 : decode cX10_findBest 204 = .ok (.imul, 1) := by decide +kernel
theorem dX10_findBest_205 : decode cX10_findBest 205 = .ok (.iload_n 2, 1) := by decide +kernel
theorem dX10_findBest_206 : decode cX10_findBest 206 = .ok (.iadd, 1) := by decide +kernel
theorem dX10_findBest_207 : decode cX10_findBest 207 = .ok (.iaload, 1) := by decide +kernel
theorem dX10_findBest_208 : decode cX10_findBest 208 = .ok (.istore 4, 2) := by decide +kernel
theorem dX10_findBest_210 : decode cX10_findBest 210 = .ok (.aload_n 0, 1) := by decide +kernel
theorem dX10_findBest_211 : decode cX10_findBest 211 = .ok (.getfield 51, 3) := by decide +kernel
theorem dX10_findBest_214 : decode cX10_findBest 214 = .ok (.sipush 256, 3) := by decide +kernel
theorem dX10_findBest_217 : decode cX10_findBest 217 = .ok (.iload_n 3, 1) := by decide +kernel
theorem dX10_findBest_218 : decode cX10_findBest 218 = .ok (.iconst 1, 1) := by decide +kernel
theorem dX10_findBest_219 : decode cX10_findBest 219 = .ok (.iadd, 1) := by decide +kernel
theorem dX10_findBest_220 : decode cX10_findBest 220 = .ok (.imul, 1) := by decide +kernel
theorem dX10_findBest_221 : decode cX10_findBest 221 = .ok (.iload_n 2, 1) := by decide +kernel
theorem dX10_findBest_222 : decode cX10_findBest 222 = .ok (.iadd, 1) := by decide +kernel
theorem dX10_findBest_223 : decode cX10_findBest 223 = .ok (.iaload, 1) := by decide +kernel
theorem dX10_findBest_224 : decode cX10_findBest 224 = .ok (.iload 4, 2) := by decide +kernel
theorem dX10_findBest_226 : decode cX10_findBest 226 = .ok (.if_icmp .eq 102, 3) := by decide +kernel
theorem dX10_findBest_229 : decode cX10_findBest 229 = .ok (.iconst 0, 1) := by decide +kernel
theorem dX10_findBest_230 : decode cX10_findBest 230 = .ok (.istore 5, 2) := by decide +kernel
theorem dX10_findBest_232 : decode cX10_findBest 232 = .ok (.aload_n 0, 1) := by decide +kernel
theorem dX10_findBest_233 : decode cX10_findBest 233 = .ok (.iload_n 1, 1) := by decide +kernel
theorem dX10_findBest_234 : decode cX10_findBest 234 = .ok (.iload 5, 2) := by decide +kernel
theorem dX10_findBest_236 : decode cX10_findBest 236 = .ok (.iload_n 3, 1) := by decide +kernel
theorem dX10_findBest_237 : decode cX10_findBest 237 = .ok (.iload_n 2, 1) := by decide +kernel
theorem dX10_findBest_238 : decode cX10_findBest 238 = .ok (.invokevirtual 152, 3) := by decide +kernel
theorem dX10_findBest_241 : decode cX10_findBest 241 = .ok (.ifCond .eq 55, 3) := by decide +kernel
theorem dX10_findBest_244 : decode cX10_findBest 244 = .ok (.aload_n 0, 1) := by decide +kernel
theorem dX10_findBest_245 : decode cX10_findBest 245 = .ok (.iload_n 1, 1) := by decide +kernel
theorem dX10_findBest_246 : decode cX10_findBest 246 = .ok (.iload 5, 2) := by decide +kernel
theorem dX10_findBest_248 : decode cX10_findBest 248 = .ok (.invokestatic 155, 3) := by decide +kernel
theorem dX10_findBest_251 : decode cX10_findBest 251 = .ok (.iload 5, 2) := by decide +kernel
theorem dX10_findBest_253 : decode cX10_findBest 253 = .ok (.bipush 10, 2) := by decide +kernel
theorem dX10_findBest_255 : decode cX10_findBest 255 = .ok (.irem, 1) := by decide +kernel
theorem dX10_findBest_256 : decode cX10_findBest 256 = .ok (.iload_n 3, 1) := by decide +kernel
theorem dX10_findBest_257 : decode cX10_findBest 257 = .ok (.invokevirtual 136, 3) := by decide +kernel
theorem dX10_findBest_260 : decode cX10_findBest 260 = .ok (.aload_n 0, 1) := by decide +kernel
theorem dX10_findBest_261 : decode cX10_findBest 261 = .ok (.getfield 51, 3) := by decide +kernel
theorem dX10_findBest_264 : decode cX10_findBest 264 = .ok (.sipush 256, 3) := by decide +kernel
theorem dX10_findBest_267 : decode cX10_findBest 267 = .ok (.iload_n 3, 1) := by decide +kernel
theorem dX10_findBest_268 : decode cX10_findBest 268 = .ok (.iconst 1, 1) := by decide +kernel
theorem dX10_findBest_269 : decode cX10_findBest 269 = .ok (.iadd, 1) := by decide +kernel
theorem dX10_findBest_270 : decode cX10_findBest 270 = .ok (.imul, 1) := by decide +kernel
theorem dX10_findBest_271 : decode cX10_findBest 271 = .ok (.iload_n 2, 1) := by decide +kernel
theorem dX10_findBest_272 : decode cX10_findBest 272 = .ok (.iconst 1, 1) := by decide +kernel
theorem dX10_findBest_273 : decode cX10_findBest 273 = .ok (.iload 5, 2) := by decide +kernel
theorem dX10_findBest_275 : decode cX10_findBest 275 = .ok (.invokestatic 155, 3) := by decide +kernel
theorem dX10_findBest_278 : decode cX10_findBest 278 = .ok (.ishl, 1) := by decide +kernel
theorem dX10_findBest_279 : decode cX10_findBest 279 = .ok (.ior, 1) := by decide +kernel
theorem dX10_findBest_280 : decode cX10_findBest 280 = .ok (.iconst 1, 1) := by decide +kernel
theorem dX10_findBest_281 : decode cX10_findBest 281 = .ok (.iload 5, 2) := by decide +kernel
theorem dX10_findBest_283 : decode cX10_findBest 283 = .ok (.bipush 10, 2) := by decide +kernel
theorem dX10_findBest_285 : decode cX10_findBest 285 = .ok (.irem, 1) := by decide +kernel
theorem dX10_findBest_286 : decode cX10_findBest 286 = .ok (.ishl, 1) := by decide +kernel
theorem dX10_findBest_287 : decode cX10_findBest 287 = .ok (.ior, 1) := by decide +kernel
theorem dX10_findBest_288 : decode cX10_findBest 288 = .ok (.iadd, 1) := by decide +kernel
theorem dX10_findBest_289 : decode cX10_findBest 289 = .ok (.iaload, 1) := by decide +kernel
theorem dX10_findBest_290 : decode cX10_findBest 290 = .ok (.iadd, 1) := by decide +kernel
theorem dX10_findBest_291 : decode cX10_findBest 291 = .ok (.iload 4, 2) := by decide +kernel
theorem dX10_findBest_293 : decode cX10_findBest 293 = .ok (.if_icmp .eq 9, 3) := by decide +kernel
theorem dX10_findBest_296 : decode cX10_findBest 296 = .ok (.iinc 5 1, 3) := by decide +kernel
theorem dX10_findBest_299 : decode cX10_findBest 299 = .ok (.goto (-67), 3) := by decide +kernel
theorem dX10_findBest_302 : decode cX10_findBest 302 = .ok (.aload_n 0, 1) := by decide +kernel
theorem dX10_findBest_303 : decode cX10_findBest 303 = .ok (.getfield 54, 3) := by decide +kernel
theorem dX10_findBest_306 : decode cX10_findBest 306 = .ok (.iload_n 3, 1) := by decide +kernel
theorem dX10_findBest_307 : decode cX10_findBest 307 = .ok (.iload 5, 2) := by decide +kernel
theorem dX10_findBest_309 : decode cX10_findBest 309 = .ok (.iastore, 1) := by decide +kernel
theorem dX10_findBest_310 : decode cX10_findBest 310 = .ok (.iload_n 2, 1) := by decide +kernel
theorem dX10_findBest_311 : decode cX10_findBest 311 = .ok (.iconst 1, 1) := by decide +kernel
theorem dX10_findBest_312 : decode cX10_findBest 312 = .ok (.iload 5, 2) := by decide +kernel
theorem dX10_findBest_314 : decode cX10_findBest 314 = .ok (.invokestatic 155, 3) := by decide +kernel
theorem dX10_findBest_317 : decode cX10_findBest 317 = .ok (.ishl, 1) := by decide +kernel
theorem dX10_findBest_318 : decode cX10_findBest 318 = .ok (.iconst 1, 1) := by decide +kernel
theorem dX10_findBest_319 : decode cX10_findBest 319 = .ok (.iload 5, 2) := by decide +kernel
theorem dX10_findBest_321 : decode cX10_findBest 321 = .ok (.bipush 10, 2) := by decide +kernel
theorem dX10_findBest_323 : decode cX10_findBest 323 = .ok (.irem, 1) := by decide +kernel
theorem dX10_findBest_324 : decode cX10_findBest 324 = .ok (.ishl, 1) := by decide +kernel
theorem dX10_findBest_325 : decode cX10_findBest 325 = .ok (.ior, 1) := by decide +kernel
theorem dX10_findBest_326 : decode cX10_findBest 326 = .ok (.ior, 1) := by decide +kernel
theorem dX10_findBest_327 : decode cX10_findBest 327 = .ok (.istore_n 2, 1) := by decide +kernel
theorem dX10_findBest_328 : decode cX10_findBest 328 = .ok (.iinc 3 1, 3) := by decide +kernel
theorem dX10_findBest_331 : decode cX10_findBest 331 = .ok (.goto (-153), 3) := by decide +kernel
theorem dX10_findBest_334 : decode cX10_findBest 334 = .ok (.return_, 1) := by decide +kernel
set_option maxRecDepth 20000 in
theorem ggX10_best_X10_in : GoodIn wsX10_best wsX10_in := goodIn_r _ [7] (by decide +kernel) (by decide +kernel)
set_option maxRecDepth 20000 in
theorem gX10_best_X10_in : GoodIn wsX10_best (va_wsS RX10 72 yX10_in wsX10_in) := goodIn_app (goodIn_of _ (by decide +kernel)) ggX10_best_X10_in
set_option maxRecDepth 20000 in
theorem ggX10_best_X10_findBest : GoodIn wsX10_best wsX10_findBest := goodIn_r _ [11, 1, 2, 3, 12, 13, 14, 6, 15, 16, 17, 18, 19, 20, 21, 4, 5, 7, 22, 23, 24, 25, 26, 27, 28, 29, 30, 31, 32, 33, 34, 35, 36, 37, 38, 39, 40, 41, 42, 43, 44, 45, 46, 47, 48, 49, 50, 51, 52, 53, 54, 55, 56, 57, 58, 59, 60, 61, 62, 63, 64, 65, 66, 67, 68, 69, 70, 71, 72, 73, 74] (by decide +kernel) (by decide +kernel)
set_option maxRecDepth 20000 in
theorem gX10_best_X10_findBest : GoodIn wsX10_best (wsV RX10 158 RX10 yX10_findBest wsX10_findBest) := goodIn_app (goodIn_of _ (by decide +kernel)) ggX10_best_X10_findBest
theorem dX10_best_0 : decode cX10_best 0 = .ok (.iload_n 1, 1) := by decide +kernel
theorem dX10_best_1 : decode cX10_best 1 = .ok (.iconst (-1), 1) := by decide +kernel
theorem dX10_best_2 : decode cX10_best 2 = .ok (.aload_n 0, 1) := by decide +kernel
theorem dX10_best_3 : decode cX10_best 3 = .ok (.getfield 33, 3) := by decide +kernel
theorem dX10_best_6 : decode cX10_best 6 = .ok (.iconst 0, 1) := by decide +kernel
theorem dX10_best_7 : decode cX10_best 7 = .ok (.iaload, 1) := by decide +kernel
theorem dX10_best_8 : decode cX10_best 8 = .ok (.iconst 1, 1) := by decide +kernel
theorem dX10_best_9 : decode cX10_best 9 = .ok (.isub, 1) := by decide +kernel
theorem dX10_best_10 : decode cX10_best 10 = .ok (.invokestatic 72, 3) := by decide +kernel
theorem dX10_best_13 : decode cX10_best 13 = .ok (.ifCond .ne 5, 3) := by decide +kernel
theorem dX10_best_16 : decode cX10_best 16 = .ok (.iconst (-1), 1) := by decide +kernel
theorem dX10_best_17 : decode cX10_best 17 = .ok (.ireturn, 1) := by decide +kernel
theorem dX10_best_18 : decode cX10_best 18 = .ok (.aload_n 0, 1) := by decide +kernel
theorem dX10_best_19 : decode cX10_best 19 = .ok (.iconst 0, 1) := by decide +kernel
theorem dX10_best_20 : decode cX10_best 20 = .ok (.invokevirtual 158, 3) := by decide +kernel
theorem dX10_best_23 : decode cX10_best 23 = .ok (.iload_n 1, 1) := by decide +kernel
theorem dX10_best_24 : decode cX10_best 24 = .ok (.iconst (-1), 1) := by decide +kernel
theorem dX10_best_25 : decode cX10_best 25 = .ok (.if_icmp .ne 12, 3) := by decide +kernel
theorem dX10_best_28 : decode cX10_best 28 = .ok (.aload_n 0, 1) := by decide +kernel
theorem dX10_best_29 : decode cX10_best 29 = .ok (.getfield 51, 3) := by decide +kernel
theorem dX10_best_32 : decode cX10_best 32 = .ok (.iconst 0, 1) := by decide +kernel
theorem dX10_best_33 : decode cX10_best 33 = .ok (.iaload, 1) := by decide +kernel
theorem dX10_best_34 : decode cX10_best 34 = .ok (.goto 9, 3) := by decide +kernel
theorem dX10_best_37 : decode cX10_best 37 = .ok (.aload_n 0, 1) := by decide +kernel
theorem dX10_best_38 : decode cX10_best 38 = .ok (.getfield 54, 3) := by decide +kernel
theorem dX10_best_41 : decode cX10_best 41 = .ok (.iload_n 1, 1) := by decide +kernel
theorem dX10_best_42 : decode cX10_best 42 = .ok (.iaload, 1) := by decide +kernel
theorem dX10_best_43 : decode cX10_best 43 = .ok (.ireturn, 1) := by decide +kernel
theorem dX10_copy_0 : decode cX10_copy 0 = .ok (.iconst 0, 1) := by decide +kernel
theorem dX10_copy_1 : decode cX10_copy 1 = .ok (.istore_n 3, 1) := by decide +kernel
theorem dX10_copy_2 : decode cX10_copy 2 = .ok (.iload_n 3, 1) := by decide +kernel
theorem dX10_copy_3 : decode cX10_copy 3 = .ok (.bipush 12, 2) := by decide +kernel
theorem dX10_copy_5 : decode cX10_copy 5 = .ok (.if_icmp .ge 25, 3) := by decide +kernel
theorem dX10_copy_8 : decode cX10_copy 8 = .ok (.aload_n 0, 1) := by decide +kernel
theorem dX10_copy_9 : decode cX10_copy 9 = .ok (.getfield 45, 3) := by decide +kernel
theorem dX10_copy_12 : decode cX10_copy 12 = .ok (.iload_n 2, 1) := by decide +kernel
theorem dX10_copy_13 : decode cX10_copy 13 = .ok (.iload_n 3, 1) := by decide +kernel
theorem dX10_copy_14 : decode cX10_copy 14 = .ok (.iadd, 1) := by decide +kernel
theorem dX10_copy_15 : decode cX10_copy 15 = .ok (.aload_n 0, 1) := by decide +kernel
theorem dX10_copy_16 : decode cX10_copy 16 = .ok (.getfield 45, 3) := by decide +kernel
theorem dX10_copy_19 : decode cX10_copy 19 = .ok (.iload_n 1, 1) := by decide +kernel
theorem dX10_copy_20 : decode cX10_copy 20 = .ok (.iload_n 3, 1) := by decide +kernel
theorem dX10_copy_21 : decode cX10_copy 21 = .ok (.iadd, 1) := by decide +kernel
theorem dX10_copy_22 : decode cX10_copy 22 = .ok (.iaload, 1) := by decide +kernel
theorem dX10_copy_23 : decode cX10_copy 23 = .ok (.iastore, 1) := by decide +kernel
theorem dX10_copy_24 : decode cX10_copy 24 = .ok (.iinc 3 1, 3) := by decide +kernel
theorem dX10_copy_27 : decode cX10_copy 27 = .ok (.goto (-25), 3) := by decide +kernel
theorem dX10_copy_30 : decode cX10_copy 30 = .ok (.return_, 1) := by decide +kernel
set_option maxRecDepth 20000 in
theorem ggX10_season_X10_in : GoodIn wsX10_season wsX10_in := goodIn_r _ [8] (by decide +kernel) (by decide +kernel)
set_option maxRecDepth 20000 in
theorem gX10_season_X10_in : GoodIn wsX10_season (va_wsS RX10 72 yX10_in wsX10_in) := goodIn_app (goodIn_of _ (by decide +kernel)) ggX10_season_X10_in
set_option maxRecDepth 20000 in
theorem ggX10_season_X10_copy : GoodIn wsX10_season wsX10_copy := goodIn_r _ [12, 4, 60, 61, 62, 63, 64, 65, 66, 67, 68, 69, 70, 71, 72, 73, 74, 75, 76, 77, 78, 79, 80, 81, 82, 83, 84, 85, 86] (by decide +kernel) (by decide +kernel)
set_option maxRecDepth 20000 in
theorem gX10_season_X10_copy : GoodIn wsX10_season (wsV RX10 162 RX10 yX10_copy wsX10_copy) := goodIn_app (goodIn_of _ (by decide +kernel)) ggX10_season_X10_copy
set_option maxRecDepth 20000 in
theorem ggX10_season_X10_findBest : GoodIn wsX10_season wsX10_findBest := goodIn_r _ [16, 2, 1, 3, 17, 18, 19, 7, 20, 21, 22, 23, 24, 25, 26, 5, 6, 8, 27, 28, 29, 30, 4, 31, 32, 33, 34, 35, 36, 37, 38, 39, 40, 41, 42, 43, 44, 45, 46, 47, 48, 49, 50, 51, 60, 61, 62, 63, 64, 65, 66, 67, 68, 69, 70, 71, 72, 73, 74, 75, 76, 77, 78, 79, 80, 81, 82, 83, 84, 85, 86] (by decide +kernel) (by decide +kernel)
set_option maxRecDepth 20000 in
theorem gX10_season_X10_findBest : GoodIn wsX10_season (wsV RX10 158 RX10 yX10_findBest wsX10_findBest) := goodIn_app (goodIn_of _ (by decide +kernel)) ggX10_season_X10_findBest
set_option maxRecDepth 20000 in
theorem ggX10_season_X10_leftOf : GoodIn wsX10_season wsX10_leftOf := goodIn_r _ [46] (by decide +kernel) (by decide +kernel)
set_option maxRecDepth 20000 in
theorem gX10_season_X10_leftOf : GoodIn wsX10_season (va_wsS RX10 155 yX10_leftOf wsX10_leftOf) := goodIn_app (goodIn_of _ (by decide +kernel)) ggX10_season_X10_leftOf
set_option maxRecDepth 20000 in
theorem ggX10_season_X10_climbs : GoodIn wsX10_season wsX10_climbs := goodIn_r _ [55, 4, 47, 48, 49, 7, 50, 51, 60, 61, 62, 63, 64, 65, 66, 67, 68, 69, 70, 71, 72, 73, 74, 75, 76, 77, 78, 79, 80, 81, 82, 83, 84, 85, 86] (by decide +kernel) (by decide +kernel)
set_option maxRecDepth 20000 in
theorem gX10_season_X10_climbs : GoodIn wsX10_season (wsV RX10 144 RX10 yX10_climbs wsX10_climbs) := goodIn_app (goodIn_of _ (by decide +kernel)) ggX10_season_X10_climbs
set_option maxRecDepth 20000 in
theorem ggX10_season_X10_endDay : GoodIn wsX10_season wsX10_endDay := goodIn_r _ [59, 4, 2, 31, 60, 61, 62, 63, 64, 65, 66, 67, 68, 69, 70, 71, 72, 73, 74, 75, 76, 77, 78, 79, 80, 81, 82, 83, 84, 85, 86] (by decide +kernel) (by decide +kernel)
set_option maxRecDepth 20000 in
theorem gX10_season_X10_endDay : GoodIn wsX10_season (wsV RX10 147 RX10 yX10_endDay wsX10_endDay) := goodIn_app (goodIn_of _ (by decide +kernel)) ggX10_season_X10_endDay
theorem dX10_season_0 : decode cX10_season 0 = .ok (.iload_n 1, 1) := by decide +kernel
theorem dX10_season_1 : decode cX10_season 1 = .ok (.iconst 1, 1) := by decide +kernel
theorem dX10_season_2 : decode cX10_season 2 = .ok (.bipush 8, 2) := by decide +kernel
theorem dX10_season_4 : decode cX10_season 4 = .ok (.invokestatic 72, 3) := by decide +kernel
theorem dX10_season_7 : decode cX10_season 7 = .ok (.ifCond .ne 5, 3) := by decide +kernel
theorem dX10_season_10 : decode cX10_season 10 = .ok (.iconst (-1), 1) := by decide +kernel
theorem dX10_season_11 : decode cX10_season 11 = .ok (.ireturn, 1) := by decide +kernel
theorem dX10_season_12 : decode cX10_season 12 = .ok (.aload_n 0, 1) := by decide +kernel
theorem dX10_season_13 : decode cX10_season 13 = .ok (.iconst 0, 1) := by decide +kernel
theorem dX10_season_14 : decode cX10_season 14 = .ok (.bipush 12, 2) := by decide +kernel
theorem dX10_season_16 : decode cX10_season 16 = .ok (.invokevirtual 162, 3) := by decide +kernel
theorem dX10_season_19 : decode cX10_season 19 = .ok (.iconst 0, 1) := by decide +kernel
theorem dX10_season_20 : decode cX10_season 20 = .ok (.istore_n 2, 1) := by decide +kernel
theorem dX10_season_21 : decode cX10_season 21 = .ok (.iconst 0, 1) := by decide +kernel
theorem dX10_season_22 : decode cX10_season 22 = .ok (.istore_n 3, 1) := by decide +kernel
theorem dX10_season_23 : decode cX10_season 23 = .ok (.iload_n 3, 1) := by decide +kernel
theorem dX10_season_24 : decode cX10_season 24 = .ok (.iload_n 1, 1) := by decide +kernel
theorem dX10_season_25 : decode cX10_season 25 = .ok (.if_icmp .ge 106, 3) := by decide +kernel
theorem dX10_season_28 : decode cX10_season 28 = .ok (.aload_n 0, 1) := by decide +kernel
theorem dX10_season_29 : decode cX10_season 29 = .ok (.bipush 12, 2) := by decide +kernel
theorem dX10_season_31 : decode cX10_season 31 = .ok (.invokevirtual 158, 3) := by decide +kernel
theorem dX10_season_34 : decode cX10_season 34 = .ok (.iload_n 2, 1) := by decide +kernel
theorem dX10_season_35 : decode cX10_season 35 = .ok (.aload_n 0, 1) := by decide +kernel
theorem dX10_season_36 : decode cX10_season 36 = .ok (.getfield 51, 3) := by decide +kernel
theorem dX10_season_39 : decode cX10_season 39 = .ok (.iconst 0, 1) := by decide +kernel
theorem dX10_season_40 : decode cX10_season 40 = .ok (.iaload, 1) := by decide +kernel
theorem dX10_season_41 : decode cX10_season 41 = .ok (.iadd, 1) := by decide +kernel
theorem dX10_season_42 : decode cX10_season 42 = .ok (.istore_n 2, 1) := by decide +kernel
theorem dX10_season_43 : decode cX10_season 43 = .ok (.iconst 0, 1) := by decide +kernel
theorem dX10_season_44 : decode cX10_season 44 = .ok (.istore 4, 2) := by decide +kernel
theorem dX10_season_46 : decode cX10_season 46 = .ok (.iload 4, 2) := by decide +kernel
theorem dX10_season_48 : decode cX10_season 48 = .ok (.aload_n 0, 1) := by decide +kernel
theorem dX10_season_49 : decode cX10_season 49 = .ok (.getfield 33, 3) := by decide +kernel
theorem dX10_season_52 : decode cX10_season 52 = .ok (.iconst 0, 1) := by decide +kernel
theorem dX10_season_53 : decode cX10_season 53 = .ok (.iaload, 1) := by decide +kernel
theorem dX10_season_54 : decode cX10_season 54 = .ok (.if_icmp .ge 50, 3) := by decide +kernel
theorem dX10_season_57 : decode cX10_season 57 = .ok (.aload_n 0, 1) := by decide +kernel
theorem dX10_season_58 : decode cX10_season 58 = .ok (.getfield 54, 3) := by decide +kernel
theorem dX10_season_61 : decode cX10_season 61 = .ok (.iload 4, 2) := by decide +kernel
theorem dX10_season_63 : decode cX10_season 63 = .ok (.iaload, 1) := by decide +kernel
theorem dX10_season_64 : decode cX10_season 64 = .ok (.bipush (-9), 2) := by decide +kernel
theorem dX10_season_66 : decode cX10_season 66 = .ok (.if_icmp .eq 32, 3) := by decide +kernel
theorem dX10_season_69 : decode cX10_season 69 = .ok (.aload_n 0, 1) := by decide +kernel
theorem dX10_season_70 : decode cX10_season 70 = .ok (.bipush 12, 2) := by decide +kernel
theorem dX10_season_72 : decode cX10_season 72 = .ok (.aload_n 0, 1) := by decide +kernel
theorem dX10_season_73 : decode cX10_season 73 = .ok (.getfield 54, 3) := by decide +kernel
theorem dX10_season_76 : decode cX10_season 76 = .ok (.iload 4, 2) := by decide +kernel
theorem dX10_season_78 : decode cX10_season 78 = .ok (.iaload, 1) := by decide +kernel
theorem dX10_season_79 : decode cX10_season 79 = .ok (.invokestatic 155, 3) := by decide +kernel
theorem dX10_season_82 : decode cX10_season 82 = .ok (.aload_n 0, 1) := by decide +kernel
theorem dX10_season_83 : decode cX10_season 83 = .ok (.getfield 54, 3) := by decide +kernel
theorem dX10_season_86 : decode cX10_season 86 = .ok (.iload 4, 2) := by decide +kernel
theorem dX10_season_88 : decode cX10_season 88 = .ok (.iaload, 1) := by decide +kernel
theorem dX10_season_89 : decode cX10_season 89 = .ok (.bipush 10, 2) := by decide +kernel
theorem dX10_season_91 : decode cX10_season 91 = .ok (.irem, 1) := by decide +kernel
theorem dX10_season_92 : decode cX10_season 92 = .ok (.iload 4, 2) := by decide +kernel
theorem dX10_season_94 : decode cX10_season 94 = .ok (.invokevirtual 144, 3) := by decide +kernel
theorem dX10_season_97 : decode cX10_season 97 = .ok (.pop, 1) := by decide +kernel
theorem dX10_season_98 : decode cX10_season 98 = .ok (.iinc 4 1, 3) := by decide +kernel
theorem dX10_season_101 : decode cX10_season 101 = .ok (.goto (-55), 3) := by decide +kernel
theorem dX10_season_104 : decode cX10_season 104 = .ok (.aload_n 0, 1) := by decide +kernel
theorem dX10_season_105 : decode cX10_season 105 = .ok (.getfield 45, 3) := by decide +kernel
theorem dX10_season_108 : decode cX10_season 108 = .ok (.bipush 12, 2) := by decide +kernel
theorem dX10_season_110 : decode cX10_season 110 = .ok (.iaload, 1) := by decide +kernel
theorem dX10_season_111 : decode cX10_season 111 = .ok (.bipush 30, 2) := by decide +kernel
theorem dX10_season_113 : decode cX10_season 113 = .ok (.if_icmp .ne 5, 3) := by decide +kernel
theorem dX10_season_116 : decode cX10_season 116 = .ok (.iload_n 2, 1) := by decide +kernel
theorem dX10_season_117 : decode cX10_season 117 = .ok (.ireturn, 1) := by decide +kernel
theorem dX10_season_118 : decode cX10_season 118 = .ok (.aload_n 0, 1) := by decide +kernel
theorem dX10_season_119 : decode cX10_season 119 = .ok (.bipush 12, 2) := by decide +kernel
theorem dX10_season_121 : decode cX10_season 121 = .ok (.invokevirtual 147, 3) := by decide +kernel
theorem dX10_season_124 : decode cX10_season 124 = .ok (.pop, 1) := by decide +kernel
theorem dX10_season_125 : decode cX10_season 125 = .ok (.iinc 3 1, 3) := by decide +kernel
theorem dX10_season_128 : decode cX10_season 128 = .ok (.goto (-105), 3) := by decide +kernel
theorem dX10_season_131 : decode cX10_season 131 = .ok (.iload_n 2, 1) := by decide +kernel
theorem dX10_season_132 : decode cX10_season 132 = .ok (.ireturn, 1) := by decide +kernel
set_option maxRecDepth 20000 in
theorem ggX10_findWholes_X10_fits : GoodIn wsX10_findWholes wsX10_fits := goodIn_r _ [8, 9, 10, 11, 12, 13, 14, 15, 16, 17, 18, 19, 20, 21, 22, 23, 24, 25, 26, 27, 28, 29, 30, 31, 32, 33, 34, 35, 36, 37, 38] (by decide +kernel) (by decide +kernel)
set_option maxRecDepth 20000 in
theorem gX10_findWholes_X10_fits : GoodIn wsX10_findWholes (wsV RX10 129 RX10 yX10_fits wsX10_fits) := goodIn_app (goodIn_of _ (by decide +kernel)) ggX10_findWholes_X10_fits
theorem dX10_findWholes_0 : decode cX10_findWholes 0 = .ok (.aload_n 0, 1) := by decide +kernel
theorem dX10_findWholes_1 : decode cX10_findWholes 1 = .ok (.getfield 57, 3) := by decide +kernel
theorem dX10_findWholes_4 : decode cX10_findWholes 4 = .ok (.iconst 0, 1) := by decide +kernel
theorem dX10_findWholes_5 : decode cX10_findWholes 5 = .ok (.iconst 0, 1) := by decide +kernel
theorem dX10_findWholes_6 : decode cX10_findWholes 6 = .ok (.iastore, 1) := by decide +kernel
theorem dX10_findWholes_7 : decode cX10_findWholes 7 = .ok (.iconst 1, 1) := by decide +kernel
theorem dX10_findWholes_8 : decode cX10_findWholes 8 = .ok (.istore_n 1, 1) := by decide +kernel
theorem dX10_findWholes_9 : decode cX10_findWholes 9 = .ok (.iload_n 1, 1) := by decide +kernel
theorem dX10_findWholes_10 : decode cX10_findWholes 10 = .ok (.iconst 1, 1) := by decide +kernel
theorem dX10_findWholes_11 : decode cX10_findWholes 11 = .ok (.aload_n 0, 1) := by decide +kernel
theorem dX10_findWholes_12 : decode cX10_findWholes 12 = .ok (.getfield 13, 3) := by decide +kernel
theorem dX10_findWholes_15 : decode cX10_findWholes 15 = .ok (.iconst 0, 1) := by decide +kernel
theorem dX10_findWholes_16 : decode cX10_findWholes 16 = .ok (.iaload, 1) := by decide +kernel
theorem dX10_findWholes_17 : decode cX10_findWholes 17 = .ok (.ishl, 1) := by decide +kernel
theorem dX10_findWholes_18 : decode cX10_findWholes 18 = .ok (.if_icmp .ge 137, 3) := by decide +kernel
theorem dX10_findWholes_21 : decode cX10_findWholes 21 = .ok (.iconst 0, 1) := by decide +kernel
theorem dX10_findWholes_22 : decode cX10_findWholes 22 = .ok (.istore_n 2, 1) := by decide +kernel
theorem dX10_findWholes_23 : decode cX10_findWholes 23 = .ok (.iload_n 1, 1) := by decide +kernel
theorem dX10_findWholes_24 : decode cX10_findWholes 24 = .ok (.iload_n 2, 1) := by decide +kernel
theorem dX10_findWholes_25 : decode cX10_findWholes 25 = .ok (.ishr, 1) := by decide +kernel
theorem dX10_findWholes_26 : decode cX10_findWholes 26 = .ok (.iconst 1, 1) := by decide +kernel
theorem dX10_findWholes_27 : decode cX10_findWholes 27 = .ok (.iand, 1) := by decide +kernel
theorem dX10_findWholes_28 : decode cX10_findWholes 28 = .ok (.ifCond .ne 9, 3) := by decide +kernel
theorem dX10_findWholes_31 : decode cX10_findWholes 31 = .ok (.iinc 2 1, 3) := by decide +kernel
theorem dX10_findWholes_34 : decode cX10_findWholes 34 = .ok (.goto (-11), 3) := by decide +kernel
theorem dX10_findWholes_37 : decode cX10_findWholes 37 = .ok (.iload_n 1, 1) := by decide +kernel
theorem dX10_findWholes_38 : decode cX10_findWholes 38 = .ok (.iconst 1, 1) := by decide +kernel
theorem dX10_findWholes_39 : decode cX10_findWholes 39 = .ok (.iload_n 2, 1) := by decide +kernel
theorem dX10_findWholes_40 : decode cX10_findWholes 40 = .ok (.ishl, 1) := by decide +kernel
theorem dX10_findWholes_41 : decode cX10_findWholes 41 = .ok (.iconst (-1), 1) := by decide +kernel
theorem dX10_findWholes_42 : decode cX10_findWholes 42 = .ok (.ixor, 1) := by decide +kernel
theorem dX10_findWholes_43 : decode cX10_findWholes 43 = .ok (.iand, 1) := by decide +kernel
theorem dX10_findWholes_44 : decode cX10_findWholes 44 = .ok (.istore_n 3, 1) := by decide +kernel
theorem dX10_findWholes_45 : decode cX10_findWholes 45 = .ok (.aload_n 0, 1) := by decide +kernel
theorem dX10_findWholes_46 : decode cX10_findWholes 46 = .ok (.getfield 57, 3) := by decide +kernel
theorem dX10_findWholes_49 : decode cX10_findWholes 49 = .ok (.iload_n 3, 1) := by decide +kernel
theorem dX10_findWholes_50 : decode cX10_findWholes 50 = .ok (.iaload, 1) := by decide +kernel
theorem dX10_findWholes_51 : decode cX10_findWholes 51 = .ok (.istore 4, 2) := by decide +kernel
theorem dX10_findWholes_53 : decode cX10_findWholes 53 = .ok (.iload_n 2, 1) := by decide +kernel
theorem dX10_findWholes_54 : decode cX10_findWholes 54 = .ok (.iconst 1, 1) := by decide +kernel
theorem dX10_findWholes_55 : decode cX10_findWholes 55 = .ok (.iadd, 1) := by decide +kernel
theorem dX10_findWholes_56 : decode cX10_findWholes 56 = .ok (.istore 5, 2) := by decide +kernel
theorem dX10_findWholes_58 : decode cX10_findWholes 58 = .ok (.iload 5, 2) := by decide +kernel
theorem dX10_findWholes_60 : decode cX10_findWholes 60 = .ok (.aload_n 0, 1) := by decide +kernel
theorem dX10_findWholes_61 : decode cX10_findWholes 61 = .ok (.getfield 13, 3) := by decide +kernel
theorem dX10_findWholes_64 : decode cX10_findWholes 64 = .ok (.iconst 0, 1) := by decide +kernel
theorem dX10_findWholes_65 : decode cX10_findWholes 65 = .ok (.iaload, 1) := by decide +kernel
theorem dX10_findWholes_66 : decode cX10_findWholes 66 = .ok (.if_icmp .ge 75, 3) := by decide +kernel
theorem dX10_findWholes_69 : decode cX10_findWholes 69 = .ok (.iload_n 3, 1) := by decide +kernel
theorem dX10_findWholes_70 : decode cX10_findWholes 70 = .ok (.iload 5, 2) := by decide +kernel
theorem dX10_findWholes_72 : decode cX10_findWholes 72 = .ok (.ishr, 1) := by decide +kernel
theorem dX10_findWholes_73 : decode cX10_findWholes 73 = .ok (.iconst 1, 1) := by decide +kernel
theorem dX10_findWholes_74 : decode cX10_findWholes 74 = .ok (.iand, 1) := by decide +kernel
theorem dX10_findWholes_75 : decode cX10_findWholes 75 = .ok (.iconst 1, 1) := by decide +kernel
theorem dX10_findWholes_76 : decode cX10_findWholes 76 = .ok (.if_icmp .ne 59, 3) := by decide +kernel
theorem dX10_findWholes_79 : decode cX10_findWholes 79 = .ok (.aload_n 0, 1) := by decide +kernel
theorem dX10_findWholes_80 : decode cX10_findWholes 80 = .ok (.iload_n 2, 1) := by decide +kernel
theorem dX10_findWholes_81 : decode cX10_findWholes 81 = .ok (.iload 5, 2) := by decide +kernel
theorem dX10_findWholes_83 : decode cX10_findWholes 83 = .ok (.invokevirtual 129, 3) := by decide +kernel
theorem dX10_findWholes_86 : decode cX10_findWholes 86 = .ok (.ifCond .eq 49, 3) := by decide +kernel
theorem dX10_findWholes_89 : decode cX10_findWholes 89 = .ok (.aload_n 0, 1) := by decide +kernel
theorem dX10_findWholes_90 : decode cX10_findWholes 90 = .ok (.getfield 26, 3) := by decide +kernel
theorem dX10_findWholes_93 : decode cX10_findWholes 93 = .ok (.iload_n 2, 1) := by decide +kernel
theorem dX10_findWholes_94 : decode cX10_findWholes 94 = .ok (.iaload, 1) := by decide +kernel
theorem dX10_findWholes_95 : decode cX10_findWholes 95 = .ok (.aload_n 0, 1) := by decide +kernel
theorem dX10_findWholes_96 : decode cX10_findWholes 96 = .ok (.getfield 26, 3) := by decide +kernel
theorem dX10_findWholes_99 : decode cX10_findWholes 99 = .ok (.iload 5, 2) := by decide +kernel
theorem dX10_findWholes_101 : decode cX10_findWholes 101 = .ok (.iaload, 1) := by decide +kernel
theorem dX10_findWholes_102 : decode cX10_findWholes 102 = .ok (.iadd, 1) := by decide +kernel
theorem dX10_findWholes_103 : decode cX10_findWholes 103 = .ok (.aload_n 0, 1) := by decide +kernel
theorem dX10_findWholes_104 : decode cX10_findWholes 104 = .ok (.getfield 57, 3) := by decide +kernel
theorem dX10_findWholes_107 : decode cX10_findWholes 107 = .ok (.iload_n 3, 1) := by decide +kernel
theorem dX10_findWholes_108 : decode cX10_findWholes 108 = .ok (.iconst 1, 1) := by decide +kernel
theorem dX10_findWholes_109 : decode cX10_findWholes 109 = .ok (.iload 5, 2) := by decide +kernel
theorem dX10_findWholes_111 : decode cX10_findWholes 111 = .ok (.ishl, 1) := by decide +kernel
theorem dX10_findWholes_112 : decode cX10_findWholes 112 = .ok (.iconst (-1), 1) := by decide +kernel
theorem dX10_findWholes_113 : decode cX10_findWholes 113 = .ok (.ixor, 1) := by decide +kernel
theorem dX10_findWholes_114 : decode cX10_findWholes 114 = .ok (.iand, 1) := by decide +kernel
theorem dX10_findWholes_115 : decode cX10_findWholes 115 = .ok (.iaload, 1) := by decide +kernel
theorem dX10_findWholes_116 : decode cX10_findWholes 116 = .ok (.iadd, 1) := by decide +kernel
theorem dX10_findWholes_117 : decode cX10_findWholes 117 = .ok (.istore 6, 2) := by decide +kernel
theorem dX10_findWholes_119 : decode cX10_findWholes 119 = .ok (.iload 6, 2) := by decide +kernel
theorem dX10_findWholes_121 : decode cX10_findWholes 121 = .ok (.iload 4, 2) := by decide +kernel
theorem dX10_findWholes_123 : decode cX10_findWholes 123 = .ok (.if_icmp .le 8, 3) := by decide +kernel
theorem dX10_findWholes_126 : decode cX10_findWholes 126 = .ok (.iload 6, 2) := by decide +kernel
theorem dX10_findWholes_128 : decode cX10_findWholes 128 = .ok (.goto 5, 3) := by decide +kernel
theorem dX10_findWholes_131 : decode cX10_findWholes 131 = .ok (.iload 4, 2) := by decide +kernel
theorem dX10_findWholes_133 : decode cX10_findWholes 133 = .ok (.istore 4, 2) := by decide +kernel
theorem dX10_findWholes_135 : decode cX10_findWholes 135 = .ok (.iinc 5 1, 3) := by decide +kernel
theorem dX10_findWholes_138 : decode cX10_findWholes 138 = .ok (.goto (-80), 3) := by decide +kernel
theorem dX10_findWholes_141 : decode cX10_findWholes 141 = .ok (.aload_n 0, 1) := by decide +kernel
theorem dX10_findWholes_142 : decode cX10_findWholes 142 = .ok (.getfield 57, 3) := by decide +kernel
theorem dX10_findWholes_145 : decode cX10_findWholes 145 = .ok (.iload_n 1, 1) := by decide +kernel
theorem dX10_findWholes_146 : decode cX10_findWholes 146 = .ok (.iload 4, 2) := by decide +kernel
theorem dX10_findWholes_148 : decode cX10_findWholes 148 = .ok (.iastore, 1) := by decide +kernel
theorem dX10_findWholes_149 : decode cX10_findWholes 149 = .ok (.iinc 1 1, 3) := by decide +kernel
theorem dX10_findWholes_152 : decode cX10_findWholes 152 = .ok (.goto (-143), 3) := by decide +kernel
theorem dX10_findWholes_155 : decode cX10_findWholes 155 = .ok (.return_, 1) := by decide +kernel
set_option maxRecDepth 20000 in
theorem ggX10_whole_X10_findWholes : GoodIn wsX10_whole wsX10_findWholes := goodIn_r _ [7, 1, 2, 8, 9, 10, 11, 6, 12, 13, 14, 15, 16, 17, 18, 19, 20, 21, 22, 23, 24, 25, 26, 27, 28, 29, 30, 31, 32, 33, 34, 35, 36, 37, 38, 39, 40, 41, 42] (by decide +kernel) (by decide +kernel)
set_option maxRecDepth 20000 in
theorem gX10_whole_X10_findWholes : GoodIn wsX10_whole (wsV RX10 166 RX10 yX10_findWholes wsX10_findWholes) := goodIn_app (goodIn_of _ (by decide +kernel)) ggX10_whole_X10_findWholes
theorem dX10_whole_0 : decode cX10_whole 0 = .ok (.aload_n 0, 1) := by decide +kernel
theorem dX10_whole_1 : decode cX10_whole 1 = .ok (.invokevirtual 166, 3) := by decide +kernel
theorem dX10_whole_4 : decode cX10_whole 4 = .ok (.aload_n 0, 1) := by decide +kernel
theorem dX10_whole_5 : decode cX10_whole 5 = .ok (.getfield 57, 3) := by decide +kernel
theorem dX10_whole_8 : decode cX10_whole 8 = .ok (.iload_n 1, 1) := by decide +kernel
theorem dX10_whole_9 : decode cX10_whole 9 = .ok (.iconst 1, 1) := by decide +kernel
theorem dX10_whole_10 : decode cX10_whole 10 = .ok (.aload_n 0, 1) := by decide +kernel
theorem dX10_whole_11 : decode cX10_whole 11 = .ok (.getfield 13, 3) := by decide +kernel
theorem dX10_whole_14 : decode cX10_whole 14 = .ok (.iconst 0, 1) := by decide +kernel
theorem dX10_whole_15 : decode cX10_whole 15 = .ok (.iaload, 1) := by decide +kernel
theorem dX10_whole_16 : decode cX10_whole 16 = .ok (.ishl, 1) := by decide +kernel
theorem dX10_whole_17 : decode cX10_whole 17 = .ok (.iconst 1, 1) := by decide +kernel
theorem dX10_whole_18 : decode cX10_whole 18 = .ok (.isub, 1) := by decide +kernel
theorem dX10_whole_19 : decode cX10_whole 19 = .ok (.iand, 1) := by decide +kernel
theorem dX10_whole_20 : decode cX10_whole 20 = .ok (.iaload, 1) := by decide +kernel
theorem dX10_whole_21 : decode cX10_whole 21 = .ok (.ireturn, 1) := by decide +kernel
theorem dX10_orders_0 : decode cX10_orders 0 = .ok (.iconst 1, 1) := by decide +kernel
theorem dX10_orders_1 : decode cX10_orders 1 = .ok (.istore_n 1, 1) := by decide +kernel
theorem dX10_orders_2 : decode cX10_orders 2 = .ok (.iconst 2, 1) := by decide +kernel
theorem dX10_orders_3 : decode cX10_orders 3 = .ok (.istore_n 2, 1) := by decide +kernel
theorem dX10_orders_4 : decode cX10_orders 4 = .ok (.iload_n 2, 1) := by decide +kernel
theorem dX10_orders_5 : decode cX10_orders 5 = .ok (.iload_n 0, 1) := by decide +kernel
theorem dX10_orders_6 : decode cX10_orders 6 = .ok (.if_icmp .gt 13, 3) := by decide +kernel
theorem dX10_orders_9 : decode cX10_orders 9 = .ok (.iload_n 1, 1) := by decide +kernel
theorem dX10_orders_10 : decode cX10_orders 10 = .ok (.iload_n 2, 1) := by decide +kernel
theorem dX10_orders_11 : decode cX10_orders 11 = .ok (.imul, 1) := by decide +kernel
theorem dX10_orders_12 : decode cX10_orders 12 = .ok (.istore_n 1, 1) := by decide +kernel
theorem dX10_orders_13 : decode cX10_orders 13 = .ok (.iinc 2 1, 3) := by decide +kernel
theorem dX10_orders_16 : decode cX10_orders 16 = .ok (.goto (-12), 3) := by decide +kernel
theorem dX10_orders_19 : decode cX10_orders 19 = .ok (.iload_n 1, 1) := by decide +kernel
theorem dX10_orders_20 : decode cX10_orders 20 = .ok (.ireturn, 1) := by decide +kernel
theorem dX10_bitsIn_0 : decode cX10_bitsIn 0 = .ok (.iconst 0, 1) := by decide +kernel
theorem dX10_bitsIn_1 : decode cX10_bitsIn 1 = .ok (.istore_n 1, 1) := by decide +kernel
theorem dX10_bitsIn_2 : decode cX10_bitsIn 2 = .ok (.iconst 0, 1) := by decide +kernel
theorem dX10_bitsIn_3 : decode cX10_bitsIn 3 = .ok (.istore_n 2, 1) := by decide +kernel
theorem dX10_bitsIn_4 : decode cX10_bitsIn 4 = .ok (.iload_n 2, 1) := by decide +kernel
theorem dX10_bitsIn_5 : decode cX10_bitsIn 5 = .ok (.bipush 8, 2) := by decide +kernel
theorem dX10_bitsIn_7 : decode cX10_bitsIn 7 = .ok (.if_icmp .ge 17, 3) := by decide +kernel
theorem dX10_bitsIn_10 : decode cX10_bitsIn 10 = .ok (.iload_n 1, 1) := by decide +kernel
theorem dX10_bitsIn_11 : decode cX10_bitsIn 11 = .ok (.iload_n 0, 1) := by decide +kernel
theorem dX10_bitsIn_12 : decode cX10_bitsIn 12 = .ok (.iload_n 2, 1) := by decide +kernel
theorem dX10_bitsIn_13 : decode cX10_bitsIn 13 = .ok (.ishr, 1) := by decide +kernel
theorem dX10_bitsIn_14 : decode cX10_bitsIn 14 = .ok (.iconst 1, 1) := by decide +kernel
theorem dX10_bitsIn_15 : decode cX10_bitsIn 15 = .ok (.iand, 1) := by decide +kernel
theorem dX10_bitsIn_16 : decode cX10_bitsIn 16 = .ok (.iadd, 1) := by decide +kernel
theorem dX10_bitsIn_17 : decode cX10_bitsIn 17 = .ok (.istore_n 1, 1) := by decide +kernel
theorem dX10_bitsIn_18 : decode cX10_bitsIn 18 = .ok (.iinc 2 1, 3) := by decide +kernel
theorem dX10_bitsIn_21 : decode cX10_bitsIn 21 = .ok (.goto (-17), 3) := by decide +kernel
theorem dX10_bitsIn_24 : decode cX10_bitsIn 24 = .ok (.iload_n 1, 1) := by decide +kernel
theorem dX10_bitsIn_25 : decode cX10_bitsIn 25 = .ok (.ireturn, 1) := by decide +kernel
theorem dX10_common_0 : decode cX10_common 0 = .ok (.iload_n 0, 1) := by decide +kernel
theorem dX10_common_1 : decode cX10_common 1 = .ok (.istore_n 2, 1) := by decide +kernel
theorem dX10_common_2 : decode cX10_common 2 = .ok (.iload_n 1, 1) := by decide +kernel
theorem dX10_common_3 : decode cX10_common 3 = .ok (.istore_n 3, 1) := by decide +kernel
theorem dX10_common_4 : decode cX10_common 4 = .ok (.iload_n 3, 1) := by decide +kernel
theorem dX10_common_5 : decode cX10_common 5 = .ok (.ifCond .eq 16, 3) := by decide +kernel
theorem dX10_common_8 : decode cX10_common 8 = .ok (.iload_n 2, 1) := by decide +kernel
theorem dX10_common_9 : decode cX10_common 9 = .ok (.iload_n 3, 1) := by decide +kernel
theorem dX10_common_10 : decode cX10_common 10 = .ok (.irem, 1) := by decide +kernel
theorem dX10_common_11 : decode cX10_common 11 = .ok (.istore 4, 2) := by decide +kernel
theorem dX10_common_13 : decode cX10_common 13 = .ok (.iload_n 3, 1) := by decide +kernel
theorem dX10_common_14 : decode cX10_common 14 = .ok (.istore_n 2, 1) := by decide +kernel
theorem dX10_common_15 : decode cX10_common 15 = .ok (.iload 4, 2) := by decide +kernel
theorem dX10_common_17 : decode cX10_common 17 = .ok (.istore_n 3, 1) := by decide +kernel
theorem dX10_common_18 : decode cX10_common 18 = .ok (.goto (-14), 3) := by decide +kernel
theorem dX10_common_21 : decode cX10_common 21 = .ok (.iload_n 2, 1) := by decide +kernel
theorem dX10_common_22 : decode cX10_common 22 = .ok (.ireturn, 1) := by decide +kernel
set_option maxRecDepth 20000 in
theorem ggX10_worth_X10_isOne : GoodIn wsX10_worth wsX10_isOne := goodIn_r _ [7, 1, 8, 9, 6, 10, 32, 33, 34, 35, 36, 37, 38, 39, 40, 41, 42, 43, 44, 45, 46, 47, 48, 49, 50, 51, 52, 53, 54, 55, 56, 57, 58] (by decide +kernel) (by decide +kernel)
set_option maxRecDepth 20000 in
theorem gX10_worth_X10_isOne : GoodIn wsX10_worth (wsV RX10 122 RX10 yX10_isOne wsX10_isOne) := goodIn_app (goodIn_of _ (by decide +kernel)) ggX10_worth_X10_isOne
set_option maxRecDepth 20000 in
theorem ggX10_worth_X10_in : GoodIn wsX10_worth wsX10_in := goodIn_r _ [10] (by decide +kernel) (by decide +kernel)
set_option maxRecDepth 20000 in
theorem gX10_worth_X10_in : GoodIn wsX10_worth (va_wsS RX10 72 yX10_in wsX10_in) := goodIn_app (goodIn_of _ (by decide +kernel)) ggX10_worth_X10_in
set_option maxRecDepth 20000 in
theorem ggX10_worth_X10_findWholes : GoodIn wsX10_worth wsX10_findWholes := goodIn_r _ [14, 2, 1, 15, 16, 17, 18, 6, 19, 20, 21, 22, 32, 33, 34, 35, 36, 37, 38, 39, 40, 41, 42, 43, 44, 45, 46, 47, 48, 49, 50, 51, 52, 53, 54, 55, 56, 57, 58] (by decide +kernel) (by decide +kernel)
set_option maxRecDepth 20000 in
theorem gX10_worth_X10_findWholes : GoodIn wsX10_worth (wsV RX10 166 RX10 yX10_findWholes wsX10_findWholes) := goodIn_app (goodIn_of _ (by decide +kernel)) ggX10_worth_X10_findWholes
set_option maxRecDepth 20000 in
theorem ggX10_worth_X10_bitsIn : GoodIn wsX10_worth wsX10_bitsIn := goodIn_r _ [25] (by decide +kernel) (by decide +kernel)
set_option maxRecDepth 20000 in
theorem gX10_worth_X10_bitsIn : GoodIn wsX10_worth (va_wsS RX10 169 yX10_bitsIn wsX10_bitsIn) := goodIn_app (goodIn_of _ (by decide +kernel)) ggX10_worth_X10_bitsIn
set_option maxRecDepth 20000 in
theorem ggX10_worth_X10_orders : GoodIn wsX10_worth wsX10_orders := goodIn_r _ [28] (by decide +kernel) (by decide +kernel)
set_option maxRecDepth 20000 in
theorem gX10_worth_X10_orders : GoodIn wsX10_worth (va_wsS RX10 172 yX10_orders wsX10_orders) := goodIn_app (goodIn_of _ (by decide +kernel)) ggX10_worth_X10_orders
set_option maxRecDepth 20000 in
theorem ggX10_worth_X10_common : GoodIn wsX10_worth wsX10_common := goodIn_r _ [31] (by decide +kernel) (by decide +kernel)
set_option maxRecDepth 20000 in
theorem gX10_worth_X10_common : GoodIn wsX10_worth (va_wsS RX10 175 yX10_common wsX10_common) := goodIn_app (goodIn_of _ (by decide +kernel)) ggX10_worth_X10_common
theorem dX10_worth_0 : decode cX10_worth 0 = .ok (.aload_n 0, 1) := by decide +kernel
theorem dX10_worth_1 : decode cX10_worth 1 = .ok (.iload_n 1, 1) := by decide +kernel
theorem dX10_worth_2 : decode cX10_worth 2 = .ok (.invokevirtual 122, 3) := by decide +kernel
theorem dX10_worth_5 : decode cX10_worth 5 = .ok (.ifCond .eq 12, 3) := by decide +kernel
theorem dX10_worth_8 : decode cX10_worth 8 = .ok (.iload_n 2, 1) := by decide +kernel
theorem dX10_worth_9 : decode cX10_worth 9 = .ok (.iconst 0, 1) := by decide +kernel
theorem dX10_worth_10 : decode cX10_worth 10 = .ok (.iconst 1, 1) := by decide +kernel
theorem dX10_worth_11 : decode cX10_worth 11 = .ok (.invokestatic 72, 3) := by decide +kernel
theorem dX10_worth_14 : decode cX10_worth 14 = .ok (.ifCond .ne 5, 3) := by decide +kernel
theorem dX10_worth_17 : decode cX10_worth 17 = .ok (.iconst (-1), 1) := by decide +kernel
theorem dX10_worth_18 : decode cX10_worth 18 = .ok (.ireturn, 1) := by decide +kernel
theorem dX10_worth_19 : decode cX10_worth 19 = .ok (.aload_n 0, 1) := by decide +kernel
theorem dX10_worth_20 : decode cX10_worth 20 = .ok (.invokevirtual 166, 3) := by decide +kernel
theorem dX10_worth_23 : decode cX10_worth 23 = .ok (.aload_n 0, 1) := by decide +kernel
theorem dX10_worth_24 : decode cX10_worth 24 = .ok (.getfield 13, 3) := by decide +kernel
theorem dX10_worth_27 : decode cX10_worth 27 = .ok (.iconst 0, 1) := by decide +kernel
theorem dX10_worth_28 : decode cX10_worth 28 = .ok (.iaload, 1) := by decide +kernel
theorem dX10_worth_29 : decode cX10_worth 29 = .ok (.istore_n 3, 1) := by decide +kernel
theorem dX10_worth_30 : decode cX10_worth 30 = .ok (.iconst 0, 1) := by decide +kernel
theorem dX10_worth_31 : decode cX10_worth 31 = .ok (.istore 4, 2) := by decide +kernel
theorem dX10_worth_33 : decode cX10_worth 33 = .ok (.iconst 0, 1) := by decide +kernel
theorem dX10_worth_34 : decode cX10_worth 34 = .ok (.istore 5, 2) := by decide +kernel
theorem dX10_worth_36 : decode cX10_worth 36 = .ok (.iload 5, 2) := by decide +kernel
theorem dX10_worth_38 : decode cX10_worth 38 = .ok (.iconst 1, 1) := by decide +kernel
theorem dX10_worth_39 : decode cX10_worth 39 = .ok (.iload_n 3, 1) := by decide +kernel
theorem dX10_worth_40 : decode cX10_worth 40 = .ok (.ishl, 1) := by decide +kernel
theorem dX10_worth_41 : decode cX10_worth 41 = .ok (.if_icmp .ge 65, 3) := by decide +kernel
theorem dX10_worth_44 : decode cX10_worth 44 = .ok (.iload 5, 2) := by decide +kernel
theorem dX10_worth_46 : decode cX10_worth 46 = .ok (.iload_n 1, 1) := by decide +kernel
theorem dX10_worth_47 : decode cX10_worth 47 = .ok (.ishr, 1) := by decide +kernel
theorem dX10_worth_48 : decode cX10_worth 48 = .ok (.iconst 1, 1) := by decide +kernel
theorem dX10_worth_49 : decode cX10_worth 49 = .ok (.iand, 1) := by decide +kernel
theorem dX10_worth_50 : decode cX10_worth 50 = .ok (.ifCond .ne 50, 3) := by decide +kernel
theorem dX10_worth_53 : decode cX10_worth 53 = .ok (.iload 5, 2) := by decide +kernel
theorem dX10_worth_55 : decode cX10_worth 55 = .ok (.invokestatic 169, 3) := by decide +kernel
theorem dX10_worth_58 : decode cX10_worth 58 = .ok (.istore 6, 2) := by decide +kernel
theorem dX10_worth_60 : decode cX10_worth 60 = .ok (.iload 4, 2) := by decide +kernel
theorem dX10_worth_62 : decode cX10_worth 62 = .ok (.iload 6, 2) := by decide +kernel
theorem dX10_worth_64 : decode cX10_worth 64 = .ok (.invokestatic 172, 3) := by decide +kernel
theorem dX10_worth_67 : decode cX10_worth 67 = .ok (.iload_n 3, 1) := by decide +kernel
theorem dX10_worth_68 : decode cX10_worth 68 = .ok (.iload 6, 2) := by decide +kernel
theorem dX10_worth_70 : decode cX10_worth 70 = .ok (.isub, 1) := by decide +kernel
theorem dX10_worth_71 : decode cX10_worth 71 = .ok (.iconst 1, 1) := by decide +kernel
theorem dX10_worth_72 : decode cX10_worth 72 = .ok (.isub, 1) := by decide +kernel
theorem dX10_worth_73 : decode cX10_worth 73 = .ok (.invokestatic 172, 3) := by decide +kernel
theorem dX10_worth_76 : decode cX10_worth 76 = .ok (.imul, 1) := by decide +kernel
theorem dX10_worth_77 : decode cX10_worth 77 = .ok (.aload_n 0, 1) := by decide +kernel
theorem dX10_worth_78 : decode cX10_worth 78 = .ok (.getfield 57, 3) := by decide +kernel
theorem dX10_worth_81 : decode cX10_worth 81 = .ok (.iload 5, 2) := by decide +kernel
theorem dX10_worth_83 : decode cX10_worth 83 = .ok (.iconst 1, 1) := by decide +kernel
theorem dX10_worth_84 : decode cX10_worth 84 = .ok (.iload_n 1, 1) := by decide +kernel
theorem dX10_worth_85 : decode cX10_worth 85 = .ok (.ishl, 1) := by decide +kernel
theorem dX10_worth_86 : decode cX10_worth 86 = .ok (.ior, 1) := by decide +kernel
theorem dX10_worth_87 : decode cX10_worth 87 = .ok (.iaload, 1) := by decide +kernel
theorem dX10_worth_88 : decode cX10_worth 88 = .ok (.aload_n 0, 1) := by decide +kernel
theorem dX10_worth_89 : decode cX10_worth 89 = .ok (.getfield 57, 3) := by decide +kernel
theorem dX10_worth_92 : decode cX10_worth 92 = .ok (.iload 5, 2) := by decide +kernel
theorem dX10_worth_94 : decode cX10_worth 94 = .ok (.iaload, 1) := by decide +kernel
theorem dX10_worth_95 : decode cX10_worth 95 = .ok (.isub, 1) := by decide +kernel
theorem dX10_worth_96 : decode cX10_worth 96 = .ok (.imul, 1) := by decide +kernel
theorem dX10_worth_97 : decode cX10_worth 97 = .ok (.iadd, 1) := by decide +kernel
theorem dX10_worth_98 : decode cX10_worth 98 = .ok (.istore 4, 2) := by decide +kernel
end
section
theorem dX10_worth_100 : decode cX10_worth 100 = .ok (.iinc 5 1, 3) := by decide +kernel
theorem dX10_worth_103 : decode cX10_worth 103 = .ok (.goto (-67), 3) := by decide +kernel
theorem dX10_worth_106 : decode cX10_worth 106 = .ok (.iload_n 3, 1) := by decide +kernel
theorem dX10_worth_107 : decode cX10_worth 107 = .ok (.invokestatic 172, 3) := by decide +kernel
theorem dX10_worth_110 : decode cX10_worth 110 = .ok (.istore 5, 2) := by decide +kernel
theorem dX10_worth_112 : decode cX10_worth 112 = .ok (.iload 4, 2) := by decide +kernel
theorem dX10_worth_114 : decode cX10_worth 114 = .ok (.iload 5, 2) := by decide +kernel
theorem dX10_worth_116 : decode cX10_worth 116 = .ok (.invokestatic 175, 3) := by decide +kernel
theorem dX10_worth_119 : decode cX10_worth 119 = .ok (.istore 6, 2) := by decide +kernel
theorem dX10_worth_121 : decode cX10_worth 121 = .ok (.iload_n 2, 1) := by decide +kernel
theorem dX10_worth_122 : decode cX10_worth 122 = .ok (.ifCond .ne 11, 3) := by decide +kernel
theorem dX10_worth_125 : decode cX10_worth 125 = .ok (.iload 4, 2) := by decide +kernel
theorem dX10_worth_127 : decode cX10_worth 127 = .ok (.iload 6, 2) := by decide +kernel
theorem dX10_worth_129 : decode cX10_worth 129 = .ok (.idiv, 1) := by decide +kernel
theorem dX10_worth_130 : decode cX10_worth 130 = .ok (.goto 8, 3) := by decide +kernel
theorem dX10_worth_133 : decode cX10_worth 133 = .ok (.iload 5, 2) := by decide +kernel
theorem dX10_worth_135 : decode cX10_worth 135 = .ok (.iload 6, 2) := by decide +kernel
theorem dX10_worth_137 : decode cX10_worth 137 = .ok (.idiv, 1) := by decide +kernel
theorem dX10_worth_138 : decode cX10_worth 138 = .ok (.ireturn, 1) := by decide +kernel
set_option maxRecDepth 20000 in
theorem ggX10_likes_X10_ladder : GoodIn wsX10_likes wsX10_ladder := goodIn_r _ [6, 7, 8, 9, 10, 11, 12, 13, 14, 15, 16, 17, 18, 19, 20, 21, 22, 23, 24, 25, 26, 27, 28, 29, 30, 31, 32, 33, 34] (by decide +kernel) (by decide +kernel)
set_option maxRecDepth 20000 in
theorem gX10_likes_X10_ladder : GoodIn wsX10_likes (wsV RX10 133 RX10 yX10_ladder wsX10_ladder) := goodIn_app (goodIn_of _ (by decide +kernel)) ggX10_likes_X10_ladder
theorem dX10_likes_0 : decode cX10_likes 0 = .ok (.iload_n 2, 1) := by decide +kernel
theorem dX10_likes_1 : decode cX10_likes 1 = .ok (.bipush (-9), 2) := by decide +kernel
theorem dX10_likes_3 : decode cX10_likes 3 = .ok (.if_icmp .eq 9, 3) := by decide +kernel
theorem dX10_likes_6 : decode cX10_likes 6 = .ok (.iload_n 3, 1) := by decide +kernel
theorem dX10_likes_7 : decode cX10_likes 7 = .ok (.bipush (-9), 2) := by decide +kernel
theorem dX10_likes_9 : decode cX10_likes 9 = .ok (.if_icmp .ne 15, 3) := by decide +kernel
theorem dX10_likes_12 : decode cX10_likes 12 = .ok (.iload_n 2, 1) := by decide +kernel
theorem dX10_likes_13 : decode cX10_likes 13 = .ok (.bipush (-9), 2) := by decide +kernel
theorem dX10_likes_15 : decode cX10_likes 15 = .ok (.if_icmp .eq 7, 3) := by decide +kernel
theorem dX10_likes_18 : decode cX10_likes 18 = .ok (.iconst 1, 1) := by decide +kernel
theorem dX10_likes_19 : decode cX10_likes 19 = .ok (.goto 4, 3) := by decide +kernel
theorem dX10_likes_22 : decode cX10_likes 22 = .ok (.iconst 0, 1) := by decide +kernel
theorem dX10_likes_23 : decode cX10_likes 23 = .ok (.ireturn, 1) := by decide +kernel
theorem dX10_likes_24 : decode cX10_likes 24 = .ok (.aload_n 0, 1) := by decide +kernel
theorem dX10_likes_25 : decode cX10_likes 25 = .ok (.iload_n 1, 1) := by decide +kernel
theorem dX10_likes_26 : decode cX10_likes 26 = .ok (.iload_n 2, 1) := by decide +kernel
theorem dX10_likes_27 : decode cX10_likes 27 = .ok (.invokevirtual 133, 3) := by decide +kernel
theorem dX10_likes_30 : decode cX10_likes 30 = .ok (.istore 4, 2) := by decide +kernel
theorem dX10_likes_32 : decode cX10_likes 32 = .ok (.aload_n 0, 1) := by decide +kernel
theorem dX10_likes_33 : decode cX10_likes 33 = .ok (.iload_n 1, 1) := by decide +kernel
theorem dX10_likes_34 : decode cX10_likes 34 = .ok (.iload_n 3, 1) := by decide +kernel
theorem dX10_likes_35 : decode cX10_likes 35 = .ok (.invokevirtual 133, 3) := by decide +kernel
theorem dX10_likes_38 : decode cX10_likes 38 = .ok (.istore 5, 2) := by decide +kernel
theorem dX10_likes_40 : decode cX10_likes 40 = .ok (.iload 4, 2) := by decide +kernel
theorem dX10_likes_42 : decode cX10_likes 42 = .ok (.iload 5, 2) := by decide +kernel
theorem dX10_likes_44 : decode cX10_likes 44 = .ok (.if_icmp .eq 18, 3) := by decide +kernel
theorem dX10_likes_47 : decode cX10_likes 47 = .ok (.iload 4, 2) := by decide +kernel
theorem dX10_likes_49 : decode cX10_likes 49 = .ok (.iload 5, 2) := by decide +kernel
theorem dX10_likes_51 : decode cX10_likes 51 = .ok (.if_icmp .le 7, 3) := by decide +kernel
theorem dX10_likes_54 : decode cX10_likes 54 = .ok (.iconst 1, 1) := by decide +kernel
theorem dX10_likes_55 : decode cX10_likes 55 = .ok (.goto 55, 3) := by decide +kernel
theorem dX10_likes_58 : decode cX10_likes 58 = .ok (.iconst 0, 1) := by decide +kernel
theorem dX10_likes_59 : decode cX10_likes 59 = .ok (.goto 51, 3) := by decide +kernel
theorem dX10_likes_62 : decode cX10_likes 62 = .ok (.aload_n 0, 1) := by decide +kernel
theorem dX10_likes_63 : decode cX10_likes 63 = .ok (.getfield 26, 3) := by decide +kernel
theorem dX10_likes_66 : decode cX10_likes 66 = .ok (.iload_n 2, 1) := by decide +kernel
theorem dX10_likes_67 : decode cX10_likes 67 = .ok (.iaload, 1) := by decide +kernel
theorem dX10_likes_68 : decode cX10_likes 68 = .ok (.aload_n 0, 1) := by decide +kernel
theorem dX10_likes_69 : decode cX10_likes 69 = .ok (.getfield 26, 3) := by decide +kernel
theorem dX10_likes_72 : decode cX10_likes 72 = .ok (.iload_n 3, 1) := by decide +kernel
theorem dX10_likes_73 : decode cX10_likes 73 = .ok (.iaload, 1) := by decide +kernel
theorem dX10_likes_74 : decode cX10_likes 74 = .ok (.if_icmp .eq 26, 3) := by decide +kernel
theorem dX10_likes_77 : decode cX10_likes 77 = .ok (.aload_n 0, 1) := by decide +kernel
theorem dX10_likes_78 : decode cX10_likes 78 = .ok (.getfield 26, 3) := by decide +kernel
theorem dX10_likes_81 : decode cX10_likes 81 = .ok (.iload_n 2, 1) := by decide +kernel
theorem dX10_likes_82 : decode cX10_likes 82 = .ok (.iaload, 1) := by decide +kernel
theorem dX10_likes_83 : decode cX10_likes 83 = .ok (.aload_n 0, 1) := by decide +kernel
theorem dX10_likes_84 : decode cX10_likes 84 = .ok (.getfield 26, 3) := by decide +kernel
theorem dX10_likes_87 : decode cX10_likes 87 = .ok (.iload_n 3, 1) := by decide +kernel
theorem dX10_likes_88 : decode cX10_likes 88 = .ok (.iaload, 1) := by decide +kernel
theorem dX10_likes_89 : decode cX10_likes 89 = .ok (.if_icmp .le 7, 3) := by decide +kernel
theorem dX10_likes_92 : decode cX10_likes 92 = .ok (.iconst 1, 1) := by decide +kernel
theorem dX10_likes_93 : decode cX10_likes 93 = .ok (.goto 17, 3) := by decide +kernel
theorem dX10_likes_96 : decode cX10_likes 96 = .ok (.iconst 0, 1) := by decide +kernel
theorem dX10_likes_97 : decode cX10_likes 97 = .ok (.goto 13, 3) := by decide +kernel
theorem dX10_likes_100 : decode cX10_likes 100 = .ok (.iload_n 2, 1) := by decide +kernel
theorem dX10_likes_101 : decode cX10_likes 101 = .ok (.iload_n 3, 1) := by decide +kernel
theorem dX10_likes_102 : decode cX10_likes 102 = .ok (.if_icmp .ge 7, 3) := by decide +kernel
theorem dX10_likes_105 : decode cX10_likes 105 = .ok (.iconst 1, 1) := by decide +kernel
theorem dX10_likes_106 : decode cX10_likes 106 = .ok (.goto 4, 3) := by decide +kernel
theorem dX10_likes_109 : decode cX10_likes 109 = .ok (.iconst 0, 1) := by decide +kernel
theorem dX10_likes_110 : decode cX10_likes 110 = .ok (.ireturn, 1) := by decide +kernel
set_option maxRecDepth 20000 in
theorem ggX10_asksNext_X10_fits : GoodIn wsX10_asksNext wsX10_fits := goodIn_r _ [7, 8, 9, 10, 21, 22, 23, 24, 25, 26, 27, 28, 29, 30, 31, 32, 33, 34, 35, 36, 37, 38, 39, 40, 41, 42, 43, 44, 45, 46, 47] (by decide +kernel) (by decide +kernel)
set_option maxRecDepth 20000 in
theorem gX10_asksNext_X10_fits : GoodIn wsX10_asksNext (wsV RX10 129 RX10 yX10_fits wsX10_fits) := goodIn_app (goodIn_of _ (by decide +kernel)) ggX10_asksNext_X10_fits
set_option maxRecDepth 20000 in
theorem ggX10_asksNext_X10_likes : GoodIn wsX10_asksNext wsX10_likes := goodIn_r _ [14, 15, 16, 17, 18, 6, 19, 20, 21, 22, 23, 24, 25, 26, 27, 28, 29, 30, 31, 32, 33, 34, 35, 36, 37, 38, 39, 40, 41, 42, 43, 44, 45, 46, 47] (by decide +kernel) (by decide +kernel)
set_option maxRecDepth 20000 in
theorem gX10_asksNext_X10_likes : GoodIn wsX10_asksNext (wsV RX10 178 RX10 yX10_likes wsX10_likes) := goodIn_app (goodIn_of _ (by decide +kernel)) ggX10_asksNext_X10_likes
theorem dX10_asksNext_0 : decode cX10_asksNext 0 = .ok (.bipush (-9), 2) := by decide +kernel
theorem dX10_asksNext_2 : decode cX10_asksNext 2 = .ok (.istore_n 2, 1) := by decide +kernel
theorem dX10_asksNext_3 : decode cX10_asksNext 3 = .ok (.iconst 0, 1) := by decide +kernel
theorem dX10_asksNext_4 : decode cX10_asksNext 4 = .ok (.istore_n 3, 1) := by decide +kernel
theorem dX10_asksNext_5 : decode cX10_asksNext 5 = .ok (.iload_n 3, 1) := by decide +kernel
theorem dX10_asksNext_6 : decode cX10_asksNext 6 = .ok (.aload_n 0, 1) := by decide +kernel
theorem dX10_asksNext_7 : decode cX10_asksNext 7 = .ok (.getfield 13, 3) := by decide +kernel
theorem dX10_asksNext_10 : decode cX10_asksNext 10 = .ok (.iconst 0, 1) := by decide +kernel
theorem dX10_asksNext_11 : decode cX10_asksNext 11 = .ok (.iaload, 1) := by decide +kernel
theorem dX10_asksNext_12 : decode cX10_asksNext 12 = .ok (.if_icmp .ge 64, 3) := by decide +kernel
theorem dX10_asksNext_15 : decode cX10_asksNext 15 = .ok (.iload_n 3, 1) := by decide +kernel
theorem dX10_asksNext_16 : decode cX10_asksNext 16 = .ok (.iload_n 1, 1) := by decide +kernel
theorem dX10_asksNext_17 : decode cX10_asksNext 17 = .ok (.if_icmp .eq 29, 3) := by decide +kernel
theorem dX10_asksNext_20 : decode cX10_asksNext 20 = .ok (.aload_n 0, 1) := by decide +kernel
theorem dX10_asksNext_21 : decode cX10_asksNext 21 = .ok (.iload_n 1, 1) := by decide +kernel
theorem dX10_asksNext_22 : decode cX10_asksNext 22 = .ok (.iload_n 3, 1) := by decide +kernel
theorem dX10_asksNext_23 : decode cX10_asksNext 23 = .ok (.invokevirtual 129, 3) := by decide +kernel
theorem dX10_asksNext_26 : decode cX10_asksNext 26 = .ok (.ifCond .eq 20, 3) := by decide +kernel
theorem dX10_asksNext_29 : decode cX10_asksNext 29 = .ok (.aload_n 0, 1) := by decide +kernel
theorem dX10_asksNext_30 : decode cX10_asksNext 30 = .ok (.getfield 63, 3) := by decide +kernel
theorem dX10_asksNext_33 : decode cX10_asksNext 33 = .ok (.iload_n 1, 1) := by decide +kernel
theorem dX10_asksNext_34 : decode cX10_asksNext 34 = .ok (.iaload, 1) := by decide +kernel
theorem dX10_asksNext_35 : decode cX10_asksNext 35 = .ok (.iload_n 3, 1) := by decide +kernel
theorem dX10_asksNext_36 : decode cX10_asksNext 36 = .ok (.ishr, 1) := by decide +kernel
theorem dX10_asksNext_37 : decode cX10_asksNext 37 = .ok (.iconst 1, 1) := by decide +kernel
theorem dX10_asksNext_38 : decode cX10_asksNext 38 = .ok (.iand, 1) := by decide +kernel
theorem dX10_asksNext_39 : decode cX10_asksNext 39 = .ok (.ifCond .ne 7, 3) := by decide +kernel
theorem dX10_asksNext_42 : decode cX10_asksNext 42 = .ok (.iconst 1, 1) := by decide +kernel
theorem dX10_asksNext_43 : decode cX10_asksNext 43 = .ok (.goto 4, 3) := by decide +kernel
theorem dX10_asksNext_46 : decode cX10_asksNext 46 = .ok (.iconst 0, 1) := by decide +kernel
theorem dX10_asksNext_47 : decode cX10_asksNext 47 = .ok (.istore 4, 2) := by decide +kernel
theorem dX10_asksNext_49 : decode cX10_asksNext 49 = .ok (.iload 4, 2) := by decide +kernel
theorem dX10_asksNext_51 : decode cX10_asksNext 51 = .ok (.ifCond .eq 17, 3) := by decide +kernel
theorem dX10_asksNext_54 : decode cX10_asksNext 54 = .ok (.aload_n 0, 1) := by decide +kernel
theorem dX10_asksNext_55 : decode cX10_asksNext 55 = .ok (.iload_n 1, 1) := by decide +kernel
theorem dX10_asksNext_56 : decode cX10_asksNext 56 = .ok (.iload_n 3, 1) := by decide +kernel
theorem dX10_asksNext_57 : decode cX10_asksNext 57 = .ok (.iload_n 2, 1) := by decide +kernel
theorem dX10_asksNext_58 : decode cX10_asksNext 58 = .ok (.invokevirtual 178, 3) := by decide +kernel
theorem dX10_asksNext_61 : decode cX10_asksNext 61 = .ok (.ifCond .eq 7, 3) := by decide +kernel
theorem dX10_asksNext_64 : decode cX10_asksNext 64 = .ok (.iload_n 3, 1) := by decide +kernel
theorem dX10_asksNext_65 : decode cX10_asksNext 65 = .ok (.goto 4, 3) := by decide +kernel
theorem dX10_asksNext_68 : decode cX10_asksNext 68 = .ok (.iload_n 2, 1) := by decide +kernel
theorem dX10_asksNext_69 : decode cX10_asksNext 69 = .ok (.istore_n 2, 1) := by decide +kernel
theorem dX10_asksNext_70 : decode cX10_asksNext 70 = .ok (.iinc 3 1, 3) := by decide +kernel
theorem dX10_asksNext_73 : decode cX10_asksNext 73 = .ok (.goto (-68), 3) := by decide +kernel
theorem dX10_asksNext_76 : decode cX10_asksNext 76 = .ok (.iload_n 2, 1) := by decide +kernel
theorem dX10_asksNext_77 : decode cX10_asksNext 77 = .ok (.ireturn, 1) := by decide +kernel
set_option maxRecDepth 20000 in
theorem ggX10_ask_X10_asksNext : GoodIn wsX10_ask wsX10_asksNext := goodIn_r _ [9, 3, 2, 10, 11, 12, 8, 13, 4, 14, 15, 16, 17, 18, 19, 20, 21, 22, 23, 24, 25, 26, 27, 28, 29, 30, 31, 32, 33, 34, 35, 36, 37, 38, 39, 40, 41, 42, 43, 44, 45, 46, 47, 48, 49, 50, 51, 52] (by decide +kernel) (by decide +kernel)
set_option maxRecDepth 20000 in
theorem gX10_ask_X10_asksNext : GoodIn wsX10_ask (wsV RX10 181 RX10 yX10_asksNext wsX10_asksNext) := goodIn_app (goodIn_of _ (by decide +kernel)) ggX10_ask_X10_asksNext
set_option maxRecDepth 20000 in
theorem ggX10_ask_X10_likes : GoodIn wsX10_ask wsX10_likes := goodIn_r _ [19, 20, 21, 22, 23, 8, 24, 25, 26, 27, 28, 29, 30, 31, 32, 33, 34, 35, 36, 37, 38, 39, 40, 41, 42, 43, 44, 45, 46, 47, 48, 49, 50, 51, 52] (by decide +kernel) (by decide +kernel)
set_option maxRecDepth 20000 in
theorem gX10_ask_X10_likes : GoodIn wsX10_ask (wsV RX10 178 RX10 yX10_likes wsX10_likes) := goodIn_app (goodIn_of _ (by decide +kernel)) ggX10_ask_X10_likes
theorem dX10_ask_0 : decode cX10_ask 0 = .ok (.iconst 0, 1) := by decide +kernel
theorem dX10_ask_1 : decode cX10_ask 1 = .ok (.istore_n 1, 1) := by decide +kernel
theorem dX10_ask_2 : decode cX10_ask 2 = .ok (.iload_n 1, 1) := by decide +kernel
theorem dX10_ask_3 : decode cX10_ask 3 = .ok (.bipush 8, 2) := by decide +kernel
theorem dX10_ask_5 : decode cX10_ask 5 = .ok (.if_icmp .ge 24, 3) := by decide +kernel
theorem dX10_ask_8 : decode cX10_ask 8 = .ok (.aload_n 0, 1) := by decide +kernel
theorem dX10_ask_9 : decode cX10_ask 9 = .ok (.getfield 60, 3) := by decide +kernel
theorem dX10_ask_12 : decode cX10_ask 12 = .ok (.iload_n 1, 1) := by decide +kernel
theorem dX10_ask_13 : decode cX10_ask 13 = .ok (.bipush (-9), 2) := by decide +kernel
theorem dX10_ask_15 : decode cX10_ask 15 = .ok (.iastore, 1) := by decide +kernel
theorem dX10_ask_16 : decode cX10_ask 16 = .ok (.aload_n 0, 1) := by decide +kernel
theorem dX10_ask_17 : decode cX10_ask 17 = .ok (.getfield 63, 3) := by decide +kernel
theorem dX10_ask_20 : decode cX10_ask 20 = .ok (.iload_n 1, 1) := by decide +kernel
theorem dX10_ask_21 : decode cX10_ask 21 = .ok (.iconst 0, 1) := by decide +kernel
theorem dX10_ask_22 : decode cX10_ask 22 = .ok (.iastore, 1) := by decide +kernel
theorem dX10_ask_23 : decode cX10_ask 23 = .ok (.iinc 1 1, 3) := by decide +kernel
theorem dX10_ask_26 : decode cX10_ask 26 = .ok (.goto (-24), 3) := by decide +kernel
theorem dX10_ask_29 : decode cX10_ask 29 = .ok (.iconst 1, 1) := by decide +kernel
theorem dX10_ask_30 : decode cX10_ask 30 = .ok (.istore_n 1, 1) := by decide +kernel
theorem dX10_ask_31 : decode cX10_ask 31 = .ok (.iload_n 1, 1) := by decide +kernel
theorem dX10_ask_32 : decode cX10_ask 32 = .ok (.ifCond .eq 141, 3) := by decide +kernel
theorem dX10_ask_35 : decode cX10_ask 35 = .ok (.iconst 0, 1) := by decide +kernel
theorem dX10_ask_36 : decode cX10_ask 36 = .ok (.istore_n 1, 1) := by decide +kernel
theorem dX10_ask_37 : decode cX10_ask 37 = .ok (.iconst 0, 1) := by decide +kernel
theorem dX10_ask_38 : decode cX10_ask 38 = .ok (.istore_n 2, 1) := by decide +kernel
theorem dX10_ask_39 : decode cX10_ask 39 = .ok (.iload_n 2, 1) := by decide +kernel
theorem dX10_ask_40 : decode cX10_ask 40 = .ok (.aload_n 0, 1) := by decide +kernel
theorem dX10_ask_41 : decode cX10_ask 41 = .ok (.getfield 13, 3) := by decide +kernel
theorem dX10_ask_44 : decode cX10_ask 44 = .ok (.iconst 0, 1) := by decide +kernel
theorem dX10_ask_45 : decode cX10_ask 45 = .ok (.iaload, 1) := by decide +kernel
theorem dX10_ask_46 : decode cX10_ask 46 = .ok (.if_icmp .ge 124, 3) := by decide +kernel
theorem dX10_ask_49 : decode cX10_ask 49 = .ok (.aload_n 0, 1) := by decide +kernel
theorem dX10_ask_50 : decode cX10_ask 50 = .ok (.getfield 17, 3) := by decide +kernel
theorem dX10_ask_53 : decode cX10_ask 53 = .ok (.iload_n 2, 1) := by decide +kernel
theorem dX10_ask_54 : decode cX10_ask 54 = .ok (.iaload, 1) := by decide +kernel
theorem dX10_ask_55 : decode cX10_ask 55 = .ok (.ifCond .ne 22, 3) := by decide +kernel
theorem dX10_ask_58 : decode cX10_ask 58 = .ok (.aload_n 0, 1) := by decide +kernel
theorem dX10_ask_59 : decode cX10_ask 59 = .ok (.getfield 60, 3) := by decide +kernel
theorem dX10_ask_62 : decode cX10_ask 62 = .ok (.iload_n 2, 1) := by decide +kernel
theorem dX10_ask_63 : decode cX10_ask 63 = .ok (.iaload, 1) := by decide +kernel
theorem dX10_ask_64 : decode cX10_ask 64 = .ok (.bipush (-9), 2) := by decide +kernel
theorem dX10_ask_66 : decode cX10_ask 66 = .ok (.if_icmp .ne 11, 3) := by decide +kernel
theorem dX10_ask_69 : decode cX10_ask 69 = .ok (.aload_n 0, 1) := by decide +kernel
theorem dX10_ask_70 : decode cX10_ask 70 = .ok (.iload_n 2, 1) := by decide +kernel
theorem dX10_ask_71 : decode cX10_ask 71 = .ok (.invokevirtual 181, 3) := by decide +kernel
theorem dX10_ask_74 : decode cX10_ask 74 = .ok (.goto 5, 3) := by decide +kernel
theorem dX10_ask_77 : decode cX10_ask 77 = .ok (.bipush (-9), 2) := by decide +kernel
theorem dX10_ask_79 : decode cX10_ask 79 = .ok (.istore_n 3, 1) := by decide +kernel
theorem dX10_ask_80 : decode cX10_ask 80 = .ok (.iload_n 3, 1) := by decide +kernel
theorem dX10_ask_81 : decode cX10_ask 81 = .ok (.bipush (-9), 2) := by decide +kernel
theorem dX10_ask_83 : decode cX10_ask 83 = .ok (.if_icmp .eq 81, 3) := by decide +kernel
theorem dX10_ask_86 : decode cX10_ask 86 = .ok (.iconst 1, 1) := by decide +kernel
theorem dX10_ask_87 : decode cX10_ask 87 = .ok (.istore_n 1, 1) := by decide +kernel
theorem dX10_ask_88 : decode cX10_ask 88 = .ok (.aload_n 0, 1) := by decide +kernel
theorem dX10_ask_89 : decode cX10_ask 89 = .ok (.getfield 60, 3) := by decide +kernel
theorem dX10_ask_92 : decode cX10_ask 92 = .ok (.iload_n 3, 1) := by decide +kernel
theorem dX10_ask_93 : decode cX10_ask 93 = .ok (.iaload, 1) := by decide +kernel
theorem dX10_ask_94 : decode cX10_ask 94 = .ok (.istore 4, 2) := by decide +kernel
theorem dX10_ask_96 : decode cX10_ask 96 = .ok (.aload_n 0, 1) := by decide +kernel
theorem dX10_ask_97 : decode cX10_ask 97 = .ok (.iload_n 3, 1) := by decide +kernel
theorem dX10_ask_98 : decode cX10_ask 98 = .ok (.iload_n 2, 1) := by decide +kernel
theorem dX10_ask_99 : decode cX10_ask 99 = .ok (.iload 4, 2) := by decide +kernel
theorem dX10_ask_101 : decode cX10_ask 101 = .ok (.invokevirtual 178, 3) := by decide +kernel
theorem dX10_ask_104 : decode cX10_ask 104 = .ok (.ifCond .eq 8, 3) := by decide +kernel
theorem dX10_ask_107 : decode cX10_ask 107 = .ok (.iload 4, 2) := by decide +kernel
theorem dX10_ask_109 : decode cX10_ask 109 = .ok (.goto 4, 3) := by decide +kernel
theorem dX10_ask_112 : decode cX10_ask 112 = .ok (.iload_n 2, 1) := by decide +kernel
theorem dX10_ask_113 : decode cX10_ask 113 = .ok (.istore 5, 2) := by decide +kernel
theorem dX10_ask_115 : decode cX10_ask 115 = .ok (.iload 5, 2) := by decide +kernel
theorem dX10_ask_117 : decode cX10_ask 117 = .ok (.iload_n 2, 1) := by decide +kernel
theorem dX10_ask_118 : decode cX10_ask 118 = .ok (.if_icmp .eq 17, 3) := by decide +kernel
theorem dX10_ask_121 : decode cX10_ask 121 = .ok (.aload_n 0, 1) := by decide +kernel
theorem dX10_ask_122 : decode cX10_ask 122 = .ok (.getfield 60, 3) := by decide +kernel
theorem dX10_ask_125 : decode cX10_ask 125 = .ok (.iload_n 3, 1) := by decide +kernel
theorem dX10_ask_126 : decode cX10_ask 126 = .ok (.iload_n 2, 1) := by decide +kernel
theorem dX10_ask_127 : decode cX10_ask 127 = .ok (.iastore, 1) := by decide +kernel
theorem dX10_ask_128 : decode cX10_ask 128 = .ok (.aload_n 0, 1) := by decide +kernel
theorem dX10_ask_129 : decode cX10_ask 129 = .ok (.getfield 60, 3) := by decide +kernel
theorem dX10_ask_132 : decode cX10_ask 132 = .ok (.iload_n 2, 1) := by decide +kernel
theorem dX10_ask_133 : decode cX10_ask 133 = .ok (.iload_n 3, 1) := by decide +kernel
theorem dX10_ask_134 : decode cX10_ask 134 = .ok (.iastore, 1) := by decide +kernel
theorem dX10_ask_135 : decode cX10_ask 135 = .ok (.iload 5, 2) := by decide +kernel
theorem dX10_ask_137 : decode cX10_ask 137 = .ok (.bipush (-9), 2) := by decide +kernel
theorem dX10_ask_139 : decode cX10_ask 139 = .ok (.if_icmp .eq 25, 3) := by decide +kernel
theorem dX10_ask_142 : decode cX10_ask 142 = .ok (.aload_n 0, 1) := by decide +kernel
theorem dX10_ask_143 : decode cX10_ask 143 = .ok (.getfield 63, 3) := by decide +kernel
theorem dX10_ask_146 : decode cX10_ask 146 = .ok (.iload 5, 2) := by decide +kernel
theorem dX10_ask_148 : decode cX10_ask 148 = .ok (.dup2, 1) := by decide +kernel
theorem dX10_ask_149 : decode cX10_ask 149 = .ok (.iaload, 1) := by decide +kernel
theorem dX10_ask_150 : decode cX10_ask 150 = .ok (.iconst 1, 1) := by decide +kernel
theorem dX10_ask_151 : decode cX10_ask 151 = .ok (.iload_n 3, 1) := by decide +kernel
theorem dX10_ask_152 : decode cX10_ask 152 = .ok (.ishl, 1) := by decide +kernel
theorem dX10_ask_153 : decode cX10_ask 153 = .ok (.ior, 1) := by decide +kernel
theorem dX10_ask_154 : decode cX10_ask 154 = .ok (.iastore, 1) := by decide +kernel
theorem dX10_ask_155 : decode cX10_ask 155 = .ok (.aload_n 0, 1) := by decide +kernel
theorem dX10_ask_156 : decode cX10_ask 156 = .ok (.getfield 60, 3) := by decide +kernel
theorem dX10_ask_159 : decode cX10_ask 159 = .ok (.iload 5, 2) := by decide +kernel
theorem dX10_ask_161 : decode cX10_ask 161 = .ok (.bipush (-9), 2) := by decide +kernel
theorem dX10_ask_163 : decode cX10_ask 163 = .ok (.iastore, 1) := by decide +kernel
theorem dX10_ask_164 : decode cX10_ask 164 = .ok (.iinc 2 1, 3) := by decide +kernel
theorem dX10_ask_167 : decode cX10_ask 167 = .ok (.goto (-128), 3) := by decide +kernel
theorem dX10_ask_170 : decode cX10_ask 170 = .ok (.goto (-139), 3) := by decide +kernel
theorem dX10_ask_173 : decode cX10_ask 173 = .ok (.return_, 1) := by decide +kernel
set_option maxRecDepth 20000 in
theorem ggX10_asked_X10_isOne : GoodIn wsX10_asked wsX10_isOne := goodIn_r _ [6, 7, 8, 9, 5, 10, 37, 38, 39, 40, 41, 42, 43, 44, 45, 46, 47, 48, 49, 50, 51, 52, 53, 54, 55, 56, 57, 58, 59, 60, 61, 62, 63] (by decide +kernel) (by decide +kernel)
set_option maxRecDepth 20000 in
theorem gX10_asked_X10_isOne : GoodIn wsX10_asked (wsV RX10 122 RX10 yX10_isOne wsX10_isOne) := goodIn_app (goodIn_of _ (by decide +kernel)) ggX10_asked_X10_isOne
set_option maxRecDepth 20000 in
theorem ggX10_asked_X10_ask : GoodIn wsX10_asked wsX10_ask := goodIn_r _ [14, 1, 15, 7, 16, 17, 18, 19, 5, 20, 21, 22, 23, 24, 25, 26, 27, 28, 29, 30, 31, 32, 33, 34, 35, 36, 37, 38, 39, 40, 41, 42, 43, 44, 45, 46, 47, 48, 49, 50, 51, 52, 53, 54, 55, 56, 57, 58, 59, 60, 61, 62, 63] (by decide +kernel) (by decide +kernel)
set_option maxRecDepth 20000 in
theorem gX10_asked_X10_ask : GoodIn wsX10_asked (wsV RX10 184 RX10 yX10_ask wsX10_ask) := goodIn_app (goodIn_of _ (by decide +kernel)) ggX10_asked_X10_ask
theorem dX10_asked_0 : decode cX10_asked 0 = .ok (.aload_n 0, 1) := by decide +kernel
theorem dX10_asked_1 : decode cX10_asked 1 = .ok (.iload_n 1, 1) := by decide +kernel
theorem dX10_asked_2 : decode cX10_asked 2 = .ok (.invokevirtual 122, 3) := by decide +kernel
theorem dX10_asked_5 : decode cX10_asked 5 = .ok (.ifCond .ne 5, 3) := by decide +kernel
theorem dX10_asked_8 : decode cX10_asked 8 = .ok (.iconst (-1), 1) := by decide +kernel
theorem dX10_asked_9 : decode cX10_asked 9 = .ok (.ireturn, 1) := by decide +kernel
theorem dX10_asked_10 : decode cX10_asked 10 = .ok (.aload_n 0, 1) := by decide +kernel
theorem dX10_asked_11 : decode cX10_asked 11 = .ok (.invokevirtual 184, 3) := by decide +kernel
theorem dX10_asked_14 : decode cX10_asked 14 = .ok (.aload_n 0, 1) := by decide +kernel
theorem dX10_asked_15 : decode cX10_asked 15 = .ok (.getfield 60, 3) := by decide +kernel
theorem dX10_asked_18 : decode cX10_asked 18 = .ok (.iload_n 1, 1) := by decide +kernel
theorem dX10_asked_19 : decode cX10_asked 19 = .ok (.iaload, 1) := by decide +kernel
theorem dX10_asked_20 : decode cX10_asked 20 = .ok (.ireturn, 1) := by decide +kernel
set_option maxRecDepth 20000 in
theorem ggX10_pair_X10_right : GoodIn wsX10_pair wsX10_right := goodIn_r _ [8, 1, 3, 15, 16, 17, 18, 19, 20, 21, 22, 23, 24, 25, 26, 27, 28, 29, 30, 31, 32, 33, 34, 35, 36, 37, 38, 39, 40, 41] (by decide +kernel) (by decide +kernel)
set_option maxRecDepth 20000 in
theorem gX10_pair_X10_right : GoodIn wsX10_pair (wsV RX10 187 RX10 yX10_right wsX10_right) := goodIn_app (goodIn_of _ (by decide +kernel)) ggX10_pair_X10_right
set_option maxRecDepth 20000 in
theorem ggX10_pair_X10_fits : GoodIn wsX10_pair wsX10_fits := goodIn_r _ [12, 3, 13, 14, 15, 16, 17, 18, 19, 20, 21, 22, 23, 24, 25, 26, 27, 28, 29, 30, 31, 32, 33, 34, 35, 36, 37, 38, 39, 40, 41] (by decide +kernel) (by decide +kernel)
set_option maxRecDepth 20000 in
theorem gX10_pair_X10_fits : GoodIn wsX10_pair (wsV RX10 129 RX10 yX10_fits wsX10_fits) := goodIn_app (goodIn_of _ (by decide +kernel)) ggX10_pair_X10_fits
theorem dX10_pair_0 : decode cX10_pair 0 = .ok (.iload_n 1, 1) := by decide +kernel
theorem dX10_pair_1 : decode cX10_pair 1 = .ok (.istore_n 3, 1) := by decide +kernel
theorem dX10_pair_2 : decode cX10_pair 2 = .ok (.iconst 0, 1) := by decide +kernel
theorem dX10_pair_3 : decode cX10_pair 3 = .ok (.istore 4, 2) := by decide +kernel
theorem dX10_pair_5 : decode cX10_pair 5 = .ok (.iload 4, 2) := by decide +kernel
theorem dX10_pair_7 : decode cX10_pair 7 = .ok (.aload_n 0, 1) := by decide +kernel
theorem dX10_pair_8 : decode cX10_pair 8 = .ok (.getfield 13, 3) := by decide +kernel
theorem dX10_pair_11 : decode cX10_pair 11 = .ok (.iconst 0, 1) := by decide +kernel
theorem dX10_pair_12 : decode cX10_pair 12 = .ok (.iaload, 1) := by decide +kernel
theorem dX10_pair_13 : decode cX10_pair 13 = .ok (.if_icmp .ge 18, 3) := by decide +kernel
theorem dX10_pair_16 : decode cX10_pair 16 = .ok (.aload_n 0, 1) := by decide +kernel
theorem dX10_pair_17 : decode cX10_pair 17 = .ok (.getfield 60, 3) := by decide +kernel
theorem dX10_pair_20 : decode cX10_pair 20 = .ok (.iload 4, 2) := by decide +kernel
theorem dX10_pair_22 : decode cX10_pair 22 = .ok (.bipush (-9), 2) := by decide +kernel
theorem dX10_pair_24 : decode cX10_pair 24 = .ok (.iastore, 1) := by decide +kernel
theorem dX10_pair_25 : decode cX10_pair 25 = .ok (.iinc 4 1, 3) := by decide +kernel
theorem dX10_pair_28 : decode cX10_pair 28 = .ok (.goto (-23), 3) := by decide +kernel
theorem dX10_pair_31 : decode cX10_pair 31 = .ok (.iconst 0, 1) := by decide +kernel
theorem dX10_pair_32 : decode cX10_pair 32 = .ok (.istore 4, 2) := by decide +kernel
theorem dX10_pair_34 : decode cX10_pair 34 = .ok (.iload 4, 2) := by decide +kernel
theorem dX10_pair_36 : decode cX10_pair 36 = .ok (.aload_n 0, 1) := by decide +kernel
theorem dX10_pair_37 : decode cX10_pair 37 = .ok (.getfield 13, 3) := by decide +kernel
theorem dX10_pair_40 : decode cX10_pair 40 = .ok (.iconst 0, 1) := by decide +kernel
theorem dX10_pair_41 : decode cX10_pair 41 = .ok (.iaload, 1) := by decide +kernel
theorem dX10_pair_42 : decode cX10_pair 42 = .ok (.if_icmp .ge 107, 3) := by decide +kernel
theorem dX10_pair_45 : decode cX10_pair 45 = .ok (.aload_n 0, 1) := by decide +kernel
theorem dX10_pair_46 : decode cX10_pair 46 = .ok (.getfield 17, 3) := by decide +kernel
theorem dX10_pair_49 : decode cX10_pair 49 = .ok (.iload 4, 2) := by decide +kernel
theorem dX10_pair_51 : decode cX10_pair 51 = .ok (.iaload, 1) := by decide +kernel
theorem dX10_pair_52 : decode cX10_pair 52 = .ok (.ifCond .ne 91, 3) := by decide +kernel
theorem dX10_pair_55 : decode cX10_pair 55 = .ok (.iload_n 3, 1) := by decide +kernel
theorem dX10_pair_56 : decode cX10_pair 56 = .ok (.iload_n 2, 1) := by decide +kernel
theorem dX10_pair_57 : decode cX10_pair 57 = .ok (.iconst 1, 1) := by decide +kernel
theorem dX10_pair_58 : decode cX10_pair 58 = .ok (.iadd, 1) := by decide +kernel
theorem dX10_pair_59 : decode cX10_pair 59 = .ok (.irem, 1) := by decide +kernel
theorem dX10_pair_60 : decode cX10_pair 60 = .ok (.istore 5, 2) := by decide +kernel
theorem dX10_pair_62 : decode cX10_pair 62 = .ok (.iload_n 3, 1) := by decide +kernel
theorem dX10_pair_63 : decode cX10_pair 63 = .ok (.iload_n 2, 1) := by decide +kernel
theorem dX10_pair_64 : decode cX10_pair 64 = .ok (.iconst 1, 1) := by decide +kernel
theorem dX10_pair_65 : decode cX10_pair 65 = .ok (.iadd, 1) := by decide +kernel
theorem dX10_pair_66 : decode cX10_pair 66 = .ok (.idiv, 1) := by decide +kernel
theorem dX10_pair_67 : decode cX10_pair 67 = .ok (.istore_n 3, 1) := by decide +kernel
theorem dX10_pair_68 : decode cX10_pair 68 = .ok (.iload 5, 2) := by decide +kernel
theorem dX10_pair_70 : decode cX10_pair 70 = .ok (.ifCond .ne 8, 3) := by decide +kernel
theorem dX10_pair_73 : decode cX10_pair 73 = .ok (.bipush (-9), 2) := by decide +kernel
theorem dX10_pair_75 : decode cX10_pair 75 = .ok (.goto 9, 3) := by decide +kernel
theorem dX10_pair_78 : decode cX10_pair 78 = .ok (.aload_n 0, 1) := by decide +kernel
theorem dX10_pair_79 : decode cX10_pair 79 = .ok (.iload 5, 2) := by decide +kernel
theorem dX10_pair_81 : decode cX10_pair 81 = .ok (.invokevirtual 187, 3) := by decide +kernel
theorem dX10_pair_84 : decode cX10_pair 84 = .ok (.istore 6, 2) := by decide +kernel
theorem dX10_pair_86 : decode cX10_pair 86 = .ok (.iload 6, 2) := by decide +kernel
theorem dX10_pair_88 : decode cX10_pair 88 = .ok (.bipush (-9), 2) := by decide +kernel
theorem dX10_pair_90 : decode cX10_pair 90 = .ok (.if_icmp .eq 28, 3) := by decide +kernel
theorem dX10_pair_93 : decode cX10_pair 93 = .ok (.aload_n 0, 1) := by decide +kernel
theorem dX10_pair_94 : decode cX10_pair 94 = .ok (.iload 4, 2) := by decide +kernel
theorem dX10_pair_96 : decode cX10_pair 96 = .ok (.iload 6, 2) := by decide +kernel
theorem dX10_pair_98 : decode cX10_pair 98 = .ok (.invokevirtual 129, 3) := by decide +kernel
theorem dX10_pair_101 : decode cX10_pair 101 = .ok (.ifCond .eq 15, 3) := by decide +kernel
theorem dX10_pair_104 : decode cX10_pair 104 = .ok (.aload_n 0, 1) := by decide +kernel
theorem dX10_pair_105 : decode cX10_pair 105 = .ok (.getfield 60, 3) := by decide +kernel
theorem dX10_pair_108 : decode cX10_pair 108 = .ok (.iload 6, 2) := by decide +kernel
theorem dX10_pair_110 : decode cX10_pair 110 = .ok (.iaload, 1) := by decide +kernel
theorem dX10_pair_111 : decode cX10_pair 111 = .ok (.bipush (-9), 2) := by decide +kernel
theorem dX10_pair_113 : decode cX10_pair 113 = .ok (.if_icmp .eq 5, 3) := by decide +kernel
theorem dX10_pair_116 : decode cX10_pair 116 = .ok (.iconst 0, 1) := by decide +kernel
theorem dX10_pair_117 : decode cX10_pair 117 = .ok (.ireturn, 1) := by decide +kernel
theorem dX10_pair_118 : decode cX10_pair 118 = .ok (.aload_n 0, 1) := by decide +kernel
theorem dX10_pair_119 : decode cX10_pair 119 = .ok (.getfield 60, 3) := by decide +kernel
theorem dX10_pair_122 : decode cX10_pair 122 = .ok (.iload 4, 2) := by decide +kernel
theorem dX10_pair_124 : decode cX10_pair 124 = .ok (.iload 6, 2) := by decide +kernel
theorem dX10_pair_126 : decode cX10_pair 126 = .ok (.iastore, 1) := by decide +kernel
theorem dX10_pair_127 : decode cX10_pair 127 = .ok (.iload 6, 2) := by decide +kernel
theorem dX10_pair_129 : decode cX10_pair 129 = .ok (.bipush (-9), 2) := by decide +kernel
theorem dX10_pair_131 : decode cX10_pair 131 = .ok (.if_icmp .eq 12, 3) := by decide +kernel
theorem dX10_pair_134 : decode cX10_pair 134 = .ok (.aload_n 0, 1) := by decide +kernel
theorem dX10_pair_135 : decode cX10_pair 135 = .ok (.getfield 60, 3) := by decide +kernel
theorem dX10_pair_138 : decode cX10_pair 138 = .ok (.iload 6, 2) := by decide +kernel
theorem dX10_pair_140 : decode cX10_pair 140 = .ok (.iload 4, 2) := by decide +kernel
theorem dX10_pair_142 : decode cX10_pair 142 = .ok (.iastore, 1) := by decide +kernel
theorem dX10_pair_143 : decode cX10_pair 143 = .ok (.iinc 4 1, 3) := by decide +kernel
theorem dX10_pair_146 : decode cX10_pair 146 = .ok (.goto (-112), 3) := by decide +kernel
theorem dX10_pair_149 : decode cX10_pair 149 = .ok (.iconst 1, 1) := by decide +kernel
theorem dX10_pair_150 : decode cX10_pair 150 = .ok (.ireturn, 1) := by decide +kernel
theorem dX10_right_0 : decode cX10_right 0 = .ok (.iconst 0, 1) := by decide +kernel
theorem dX10_right_1 : decode cX10_right 1 = .ok (.istore_n 2, 1) := by decide +kernel
theorem dX10_right_2 : decode cX10_right 2 = .ok (.iconst 0, 1) := by decide +kernel
theorem dX10_right_3 : decode cX10_right 3 = .ok (.istore_n 3, 1) := by decide +kernel
theorem dX10_right_4 : decode cX10_right 4 = .ok (.iload_n 3, 1) := by decide +kernel
theorem dX10_right_5 : decode cX10_right 5 = .ok (.aload_n 0, 1) := by decide +kernel
theorem dX10_right_6 : decode cX10_right 6 = .ok (.getfield 13, 3) := by decide +kernel
theorem dX10_right_9 : decode cX10_right 9 = .ok (.iconst 0, 1) := by decide +kernel
theorem dX10_right_10 : decode cX10_right 10 = .ok (.iaload, 1) := by decide +kernel
theorem dX10_right_11 : decode cX10_right 11 = .ok (.if_icmp .ge 35, 3) := by decide +kernel
theorem dX10_right_14 : decode cX10_right 14 = .ok (.iload_n 2, 1) := by decide +kernel
theorem dX10_right_15 : decode cX10_right 15 = .ok (.aload_n 0, 1) := by decide +kernel
theorem dX10_right_16 : decode cX10_right 16 = .ok (.getfield 17, 3) := by decide +kernel
theorem dX10_right_19 : decode cX10_right 19 = .ok (.iload_n 3, 1) := by decide +kernel
theorem dX10_right_20 : decode cX10_right 20 = .ok (.iaload, 1) := by decide +kernel
theorem dX10_right_21 : decode cX10_right 21 = .ok (.iadd, 1) := by decide +kernel
theorem dX10_right_22 : decode cX10_right 22 = .ok (.istore_n 2, 1) := by decide +kernel
theorem dX10_right_23 : decode cX10_right 23 = .ok (.aload_n 0, 1) := by decide +kernel
theorem dX10_right_24 : decode cX10_right 24 = .ok (.getfield 17, 3) := by decide +kernel
theorem dX10_right_27 : decode cX10_right 27 = .ok (.iload_n 3, 1) := by decide +kernel
theorem dX10_right_28 : decode cX10_right 28 = .ok (.iaload, 1) := by decide +kernel
theorem dX10_right_29 : decode cX10_right 29 = .ok (.iconst 1, 1) := by decide +kernel
theorem dX10_right_30 : decode cX10_right 30 = .ok (.if_icmp .ne 10, 3) := by decide +kernel
theorem dX10_right_33 : decode cX10_right 33 = .ok (.iload_n 2, 1) := by decide +kernel
theorem dX10_right_34 : decode cX10_right 34 = .ok (.iload_n 1, 1) := by decide +kernel
theorem dX10_right_35 : decode cX10_right 35 = .ok (.if_icmp .ne 5, 3) := by decide +kernel
theorem dX10_right_38 : decode cX10_right 38 = .ok (.iload_n 3, 1) := by decide +kernel
theorem dX10_right_39 : decode cX10_right 39 = .ok (.ireturn, 1) := by decide +kernel
theorem dX10_right_40 : decode cX10_right 40 = .ok (.iinc 3 1, 3) := by decide +kernel
theorem dX10_right_43 : decode cX10_right 43 = .ok (.goto (-39), 3) := by decide +kernel
theorem dX10_right_46 : decode cX10_right 46 = .ok (.bipush (-9), 2) := by decide +kernel
theorem dX10_right_48 : decode cX10_right 48 = .ok (.ireturn, 1) := by decide +kernel
set_option maxRecDepth 20000 in
theorem ggX10_isRest_X10_fits : GoodIn wsX10_isRest wsX10_fits := goodIn_r _ [7, 8, 9, 10, 21, 22, 23, 24, 25, 26, 27, 28, 29, 30, 31, 32, 33, 34, 35, 36, 37, 38, 39, 40, 41, 42, 43, 44, 45, 46, 47] (by decide +kernel) (by decide +kernel)
set_option maxRecDepth 20000 in
theorem gX10_isRest_X10_fits : GoodIn wsX10_isRest (wsV RX10 129 RX10 yX10_fits wsX10_fits) := goodIn_app (goodIn_of _ (by decide +kernel)) ggX10_isRest_X10_fits
set_option maxRecDepth 20000 in
theorem ggX10_isRest_X10_likes : GoodIn wsX10_isRest wsX10_likes := goodIn_r _ [14, 15, 16, 17, 18, 6, 19, 20, 21, 22, 23, 24, 25, 26, 27, 28, 29, 30, 31, 32, 33, 34, 35, 36, 37, 38, 39, 40, 41, 42, 43, 44, 45, 46, 47] (by decide +kernel) (by decide +kernel)
set_option maxRecDepth 20000 in
theorem gX10_isRest_X10_likes : GoodIn wsX10_isRest (wsV RX10 178 RX10 yX10_likes wsX10_likes) := goodIn_app (goodIn_of _ (by decide +kernel)) ggX10_isRest_X10_likes
theorem dX10_isRest_0 : decode cX10_isRest 0 = .ok (.iconst 0, 1) := by decide +kernel
theorem dX10_isRest_1 : decode cX10_isRest 1 = .ok (.istore_n 1, 1) := by decide +kernel
theorem dX10_isRest_2 : decode cX10_isRest 2 = .ok (.iload_n 1, 1) := by decide +kernel
theorem dX10_isRest_3 : decode cX10_isRest 3 = .ok (.aload_n 0, 1) := by decide +kernel
theorem dX10_isRest_4 : decode cX10_isRest 4 = .ok (.getfield 13, 3) := by decide +kernel
theorem dX10_isRest_7 : decode cX10_isRest 7 = .ok (.iconst 0, 1) := by decide +kernel
theorem dX10_isRest_8 : decode cX10_isRest 8 = .ok (.iaload, 1) := by decide +kernel
theorem dX10_isRest_9 : decode cX10_isRest 9 = .ok (.if_icmp .ge 73, 3) := by decide +kernel
theorem dX10_isRest_12 : decode cX10_isRest 12 = .ok (.iconst 0, 1) := by decide +kernel
theorem dX10_isRest_13 : decode cX10_isRest 13 = .ok (.istore_n 2, 1) := by decide +kernel
theorem dX10_isRest_14 : decode cX10_isRest 14 = .ok (.iload_n 2, 1) := by decide +kernel
theorem dX10_isRest_15 : decode cX10_isRest 15 = .ok (.aload_n 0, 1) := by decide +kernel
theorem dX10_isRest_16 : decode cX10_isRest 16 = .ok (.getfield 13, 3) := by decide +kernel
theorem dX10_isRest_19 : decode cX10_isRest 19 = .ok (.iconst 0, 1) := by decide +kernel
theorem dX10_isRest_20 : decode cX10_isRest 20 = .ok (.iaload, 1) := by decide +kernel
theorem dX10_isRest_21 : decode cX10_isRest 21 = .ok (.if_icmp .ge 55, 3) := by decide +kernel
theorem dX10_isRest_24 : decode cX10_isRest 24 = .ok (.iload_n 1, 1) := by decide +kernel
theorem dX10_isRest_25 : decode cX10_isRest 25 = .ok (.iload_n 2, 1) := by decide +kernel
theorem dX10_isRest_26 : decode cX10_isRest 26 = .ok (.if_icmp .eq 44, 3) := by decide +kernel
theorem dX10_isRest_29 : decode cX10_isRest 29 = .ok (.aload_n 0, 1) := by decide +kernel
theorem dX10_isRest_30 : decode cX10_isRest 30 = .ok (.iload_n 1, 1) := by decide +kernel
theorem dX10_isRest_31 : decode cX10_isRest 31 = .ok (.iload_n 2, 1) := by decide +kernel
theorem dX10_isRest_32 : decode cX10_isRest 32 = .ok (.invokevirtual 129, 3) := by decide +kernel
theorem dX10_isRest_35 : decode cX10_isRest 35 = .ok (.ifCond .eq 35, 3) := by decide +kernel
theorem dX10_isRest_38 : decode cX10_isRest 38 = .ok (.aload_n 0, 1) := by decide +kernel
theorem dX10_isRest_39 : decode cX10_isRest 39 = .ok (.iload_n 1, 1) := by decide +kernel
theorem dX10_isRest_40 : decode cX10_isRest 40 = .ok (.iload_n 2, 1) := by decide +kernel
theorem dX10_isRest_41 : decode cX10_isRest 41 = .ok (.aload_n 0, 1) := by decide +kernel
theorem dX10_isRest_42 : decode cX10_isRest 42 = .ok (.getfield 60, 3) := by decide +kernel
theorem dX10_isRest_45 : decode cX10_isRest 45 = .ok (.iload_n 1, 1) := by decide +kernel
theorem dX10_isRest_46 : decode cX10_isRest 46 = .ok (.iaload, 1) := by decide +kernel
theorem dX10_isRest_47 : decode cX10_isRest 47 = .ok (.invokevirtual 178, 3) := by decide +kernel
theorem dX10_isRest_50 : decode cX10_isRest 50 = .ok (.ifCond .eq 20, 3) := by decide +kernel
theorem dX10_isRest_53 : decode cX10_isRest 53 = .ok (.aload_n 0, 1) := by decide +kernel
theorem dX10_isRest_54 : decode cX10_isRest 54 = .ok (.iload_n 2, 1) := by decide +kernel
theorem dX10_isRest_55 : decode cX10_isRest 55 = .ok (.iload_n 1, 1) := by decide +kernel
theorem dX10_isRest_56 : decode cX10_isRest 56 = .ok (.aload_n 0, 1) := by decide +kernel
theorem dX10_isRest_57 : decode cX10_isRest 57 = .ok (.getfield 60, 3) := by decide +kernel
theorem dX10_isRest_60 : decode cX10_isRest 60 = .ok (.iload_n 2, 1) := by decide +kernel
theorem dX10_isRest_61 : decode cX10_isRest 61 = .ok (.iaload, 1) := by decide +kernel
theorem dX10_isRest_62 : decode cX10_isRest 62 = .ok (.invokevirtual 178, 3) := by decide +kernel
theorem dX10_isRest_65 : decode cX10_isRest 65 = .ok (.ifCond .eq 5, 3) := by decide +kernel
theorem dX10_isRest_68 : decode cX10_isRest 68 = .ok (.iconst 0, 1) := by decide +kernel
theorem dX10_isRest_69 : decode cX10_isRest 69 = .ok (.ireturn, 1) := by decide +kernel
theorem dX10_isRest_70 : decode cX10_isRest 70 = .ok (.iinc 2 1, 3) := by decide +kernel
theorem dX10_isRest_73 : decode cX10_isRest 73 = .ok (.goto (-59), 3) := by decide +kernel
theorem dX10_isRest_76 : decode cX10_isRest 76 = .ok (.iinc 1 1, 3) := by decide +kernel
theorem dX10_isRest_79 : decode cX10_isRest 79 = .ok (.goto (-77), 3) := by decide +kernel
theorem dX10_isRest_82 : decode cX10_isRest 82 = .ok (.iconst 1, 1) := by decide +kernel
theorem dX10_isRest_83 : decode cX10_isRest 83 = .ok (.ireturn, 1) := by decide +kernel
set_option maxRecDepth 20000 in
theorem ggX10_rests_X10_pair : GoodIn wsX10_rests wsX10_pair := goodIn_r _ [7, 1, 8, 2, 9, 10, 11, 6, 12, 13, 14, 15, 16, 17, 18, 33, 34, 35, 36, 37, 38, 39, 40, 41, 42, 43, 44, 45, 46, 47, 48, 49, 50, 51, 52, 53, 54, 55, 56, 57, 58, 59] (by decide +kernel) (by decide +kernel)
set_option maxRecDepth 20000 in
theorem gX10_rests_X10_pair : GoodIn wsX10_rests (wsV RX10 190 RX10 yX10_pair wsX10_pair) := goodIn_app (goodIn_of _ (by decide +kernel)) ggX10_rests_X10_pair
set_option maxRecDepth 20000 in
theorem ggX10_rests_X10_isRest : GoodIn wsX10_rests wsX10_isRest := goodIn_r _ [22, 1, 8, 13, 14, 15, 6, 16, 2, 17, 18, 23, 24, 25, 26, 27, 28, 29, 30, 31, 32, 33, 34, 35, 36, 37, 38, 39, 40, 41, 42, 43, 44, 45, 46, 47, 48, 49, 50, 51, 52, 53, 54, 55, 56, 57, 58, 59] (by decide +kernel) (by decide +kernel)
set_option maxRecDepth 20000 in
theorem gX10_rests_X10_isRest : GoodIn wsX10_rests (wsV RX10 193 RX10 yX10_isRest wsX10_isRest) := goodIn_app (goodIn_of _ (by decide +kernel)) ggX10_rests_X10_isRest
theorem dX10_rests_0 : decode cX10_rests 0 = .ok (.iconst 0, 1) := by decide +kernel
theorem dX10_rests_1 : decode cX10_rests 1 = .ok (.istore_n 1, 1) := by decide +kernel
theorem dX10_rests_2 : decode cX10_rests 2 = .ok (.iconst 1, 1) := by decide +kernel
theorem dX10_rests_3 : decode cX10_rests 3 = .ok (.istore_n 2, 1) := by decide +kernel
theorem dX10_rests_4 : decode cX10_rests 4 = .ok (.iconst 0, 1) := by decide +kernel
theorem dX10_rests_5 : decode cX10_rests 5 = .ok (.istore_n 3, 1) := by decide +kernel
theorem dX10_rests_6 : decode cX10_rests 6 = .ok (.iload_n 3, 1) := by decide +kernel
theorem dX10_rests_7 : decode cX10_rests 7 = .ok (.aload_n 0, 1) := by decide +kernel
theorem dX10_rests_8 : decode cX10_rests 8 = .ok (.getfield 13, 3) := by decide +kernel
theorem dX10_rests_11 : decode cX10_rests 11 = .ok (.iconst 0, 1) := by decide +kernel
theorem dX10_rests_12 : decode cX10_rests 12 = .ok (.iaload, 1) := by decide +kernel
theorem dX10_rests_13 : decode cX10_rests 13 = .ok (.if_icmp .ge 18, 3) := by decide +kernel
theorem dX10_rests_16 : decode cX10_rests 16 = .ok (.iload_n 1, 1) := by decide +kernel
theorem dX10_rests_17 : decode cX10_rests 17 = .ok (.aload_n 0, 1) := by decide +kernel
theorem dX10_rests_18 : decode cX10_rests 18 = .ok (.getfield 17, 3) := by decide +kernel
theorem dX10_rests_21 : decode cX10_rests 21 = .ok (.iload_n 3, 1) := by decide +kernel
theorem dX10_rests_22 : decode cX10_rests 22 = .ok (.iaload, 1) := by decide +kernel
theorem dX10_rests_23 : decode cX10_rests 23 = .ok (.iadd, 1) := by decide +kernel
theorem dX10_rests_24 : decode cX10_rests 24 = .ok (.istore_n 1, 1) := by decide +kernel
theorem dX10_rests_25 : decode cX10_rests 25 = .ok (.iinc 3 1, 3) := by decide +kernel
theorem dX10_rests_28 : decode cX10_rests 28 = .ok (.goto (-22), 3) := by decide +kernel
theorem dX10_rests_31 : decode cX10_rests 31 = .ok (.iconst 0, 1) := by decide +kernel
theorem dX10_rests_32 : decode cX10_rests 32 = .ok (.istore_n 3, 1) := by decide +kernel
theorem dX10_rests_33 : decode cX10_rests 33 = .ok (.iload_n 3, 1) := by decide +kernel
theorem dX10_rests_34 : decode cX10_rests 34 = .ok (.aload_n 0, 1) := by decide +kernel
theorem dX10_rests_35 : decode cX10_rests 35 = .ok (.getfield 13, 3) := by decide +kernel
theorem dX10_rests_38 : decode cX10_rests 38 = .ok (.iconst 0, 1) := by decide +kernel
theorem dX10_rests_39 : decode cX10_rests 39 = .ok (.iaload, 1) := by decide +kernel
theorem dX10_rests_40 : decode cX10_rests 40 = .ok (.if_icmp .ge 28, 3) := by decide +kernel
theorem dX10_rests_43 : decode cX10_rests 43 = .ok (.iload_n 2, 1) := by decide +kernel
theorem dX10_rests_44 : decode cX10_rests 44 = .ok (.aload_n 0, 1) := by decide +kernel
theorem dX10_rests_45 : decode cX10_rests 45 = .ok (.getfield 17, 3) := by decide +kernel
theorem dX10_rests_48 : decode cX10_rests 48 = .ok (.iload_n 3, 1) := by decide +kernel
theorem dX10_rests_49 : decode cX10_rests 49 = .ok (.iaload, 1) := by decide +kernel
theorem dX10_rests_50 : decode cX10_rests 50 = .ok (.ifCond .ne 9, 3) := by decide +kernel
theorem dX10_rests_53 : decode cX10_rests 53 = .ok (.iload_n 1, 1) := by decide +kernel
theorem dX10_rests_54 : decode cX10_rests 54 = .ok (.iconst 1, 1) := by decide +kernel
theorem dX10_rests_55 : decode cX10_rests 55 = .ok (.iadd, 1) := by decide +kernel
theorem dX10_rests_56 : decode cX10_rests 56 = .ok (.goto 4, 3) := by decide +kernel
theorem dX10_rests_59 : decode cX10_rests 59 = .ok (.iconst 1, 1) := by decide +kernel
theorem dX10_rests_60 : decode cX10_rests 60 = .ok (.imul, 1) := by decide +kernel
theorem dX10_rests_61 : decode cX10_rests 61 = .ok (.istore_n 2, 1) := by decide +kernel
theorem dX10_rests_62 : decode cX10_rests 62 = .ok (.iinc 3 1, 3) := by decide +kernel
theorem dX10_rests_65 : decode cX10_rests 65 = .ok (.goto (-32), 3) := by decide +kernel
theorem dX10_rests_68 : decode cX10_rests 68 = .ok (.iconst 0, 1) := by decide +kernel
theorem dX10_rests_69 : decode cX10_rests 69 = .ok (.istore_n 3, 1) := by decide +kernel
theorem dX10_rests_70 : decode cX10_rests 70 = .ok (.iconst 0, 1) := by decide +kernel
theorem dX10_rests_71 : decode cX10_rests 71 = .ok (.istore 4, 2) := by decide +kernel
theorem dX10_rests_73 : decode cX10_rests 73 = .ok (.iload 4, 2) := by decide +kernel
theorem dX10_rests_75 : decode cX10_rests 75 = .ok (.iload_n 2, 1) := by decide +kernel
theorem dX10_rests_76 : decode cX10_rests 76 = .ok (.if_icmp .ge 34, 3) := by decide +kernel
theorem dX10_rests_79 : decode cX10_rests 79 = .ok (.iload_n 3, 1) := by decide +kernel
theorem dX10_rests_80 : decode cX10_rests 80 = .ok (.aload_n 0, 1) := by decide +kernel
theorem dX10_rests_81 : decode cX10_rests 81 = .ok (.iload 4, 2) := by decide +kernel
theorem dX10_rests_83 : decode cX10_rests 83 = .ok (.iload_n 1, 1) := by decide +kernel
theorem dX10_rests_84 : decode cX10_rests 84 = .ok (.invokevirtual 190, 3) := by decide +kernel
theorem dX10_rests_87 : decode cX10_rests 87 = .ok (.ifCond .eq 14, 3) := by decide +kernel
theorem dX10_rests_90 : decode cX10_rests 90 = .ok (.aload_n 0, 1) := by decide +kernel
theorem dX10_rests_91 : decode cX10_rests 91 = .ok (.invokevirtual 193, 3) := by decide +kernel
theorem dX10_rests_94 : decode cX10_rests 94 = .ok (.ifCond .eq 7, 3) := by decide +kernel
theorem dX10_rests_97 : decode cX10_rests 97 = .ok (.iconst 1, 1) := by decide +kernel
theorem dX10_rests_98 : decode cX10_rests 98 = .ok (.goto 4, 3) := by decide +kernel
theorem dX10_rests_101 : decode cX10_rests 101 = .ok (.iconst 0, 1) := by decide +kernel
theorem dX10_rests_102 : decode cX10_rests 102 = .ok (.iadd, 1) := by decide +kernel
theorem dX10_rests_103 : decode cX10_rests 103 = .ok (.istore_n 3, 1) := by decide +kernel
theorem dX10_rests_104 : decode cX10_rests 104 = .ok (.iinc 4 1, 3) := by decide +kernel
theorem dX10_rests_107 : decode cX10_rests 107 = .ok (.goto (-34), 3) := by decide +kernel
theorem dX10_rests_110 : decode cX10_rests 110 = .ok (.iload_n 3, 1) := by decide +kernel
theorem dX10_rests_111 : decode cX10_rests 111 = .ok (.ireturn, 1) := by decide +kernel
set_option maxRecDepth 20000 in
theorem ggX10_cuts_X10_in : GoodIn wsX10_cuts wsX10_in := goodIn_r _ [8] (by decide +kernel) (by decide +kernel)
set_option maxRecDepth 20000 in
theorem gX10_cuts_X10_in : GoodIn wsX10_cuts (va_wsS RX10 72 yX10_in wsX10_in) := goodIn_app (goodIn_of _ (by decide +kernel)) ggX10_cuts_X10_in
set_option maxRecDepth 20000 in
theorem ggX10_cuts_X10_cutOne : GoodIn wsX10_cuts wsX10_cutOne := goodIn_r _ [12, 2, 3, 13, 14, 1, 4, 15, 16, 17, 18, 19, 20, 21, 22, 23, 24, 25, 26, 27, 28, 29, 30, 31, 32, 33, 34, 35, 36, 37, 38, 39, 40, 41] (by decide +kernel) (by decide +kernel)
set_option maxRecDepth 20000 in
theorem gX10_cuts_X10_cutOne : GoodIn wsX10_cuts (wsV RX10 197 RX10 yX10_cutOne wsX10_cutOne) := goodIn_app (goodIn_of _ (by decide +kernel)) ggX10_cuts_X10_cutOne
theorem dX10_cuts_0 : decode cX10_cuts 0 = .ok (.iload_n 1, 1) := by decide +kernel
theorem dX10_cuts_1 : decode cX10_cuts 1 = .ok (.iconst 1, 1) := by decide +kernel
theorem dX10_cuts_2 : decode cX10_cuts 2 = .ok (.iconst 4, 1) := by decide +kernel
theorem dX10_cuts_3 : decode cX10_cuts 3 = .ok (.invokestatic 72, 3) := by decide +kernel
theorem dX10_cuts_6 : decode cX10_cuts 6 = .ok (.ifCond .ne 5, 3) := by decide +kernel
theorem dX10_cuts_9 : decode cX10_cuts 9 = .ok (.iconst (-1), 1) := by decide +kernel
theorem dX10_cuts_10 : decode cX10_cuts 10 = .ok (.ireturn, 1) := by decide +kernel
theorem dX10_cuts_11 : decode cX10_cuts 11 = .ok (.iconst 0, 1) := by decide +kernel
theorem dX10_cuts_12 : decode cX10_cuts 12 = .ok (.istore_n 2, 1) := by decide +kernel
theorem dX10_cuts_13 : decode cX10_cuts 13 = .ok (.iload_n 2, 1) := by decide +kernel
theorem dX10_cuts_14 : decode cX10_cuts 14 = .ok (.sipush 1280, 3) := by decide +kernel
theorem dX10_cuts_17 : decode cX10_cuts 17 = .ok (.if_icmp .ge 26, 3) := by decide +kernel
theorem dX10_cuts_20 : decode cX10_cuts 20 = .ok (.aload_n 0, 1) := by decide +kernel
theorem dX10_cuts_21 : decode cX10_cuts 21 = .ok (.getfield 66, 3) := by decide +kernel
theorem dX10_cuts_24 : decode cX10_cuts 24 = .ok (.iload_n 2, 1) := by decide +kernel
theorem dX10_cuts_25 : decode cX10_cuts 25 = .ok (.iload_n 2, 1) := by decide +kernel
theorem dX10_cuts_26 : decode cX10_cuts 26 = .ok (.ifCond .ne 7, 3) := by decide +kernel
theorem dX10_cuts_29 : decode cX10_cuts 29 = .ok (.iconst 0, 1) := by decide +kernel
theorem dX10_cuts_30 : decode cX10_cuts 30 = .ok (.goto 6, 3) := by decide +kernel
theorem dX10_cuts_33 : decode cX10_cuts 33 = .ok (.sipush 9999, 3) := by decide +kernel
theorem dX10_cuts_36 : decode cX10_cuts 36 = .ok (.iastore, 1) := by decide +kernel
theorem dX10_cuts_37 : decode cX10_cuts 37 = .ok (.iinc 2 1, 3) := by decide +kernel
theorem dX10_cuts_40 : decode cX10_cuts 40 = .ok (.goto (-27), 3) := by decide +kernel
theorem dX10_cuts_43 : decode cX10_cuts 43 = .ok (.iconst 0, 1) := by decide +kernel
theorem dX10_cuts_44 : decode cX10_cuts 44 = .ok (.istore_n 2, 1) := by decide +kernel
theorem dX10_cuts_45 : decode cX10_cuts 45 = .ok (.iload_n 2, 1) := by decide +kernel
theorem dX10_cuts_46 : decode cX10_cuts 46 = .ok (.aload_n 0, 1) := by decide +kernel
theorem dX10_cuts_47 : decode cX10_cuts 47 = .ok (.getfield 13, 3) := by decide +kernel
theorem dX10_cuts_50 : decode cX10_cuts 50 = .ok (.iconst 0, 1) := by decide +kernel
theorem dX10_cuts_51 : decode cX10_cuts 51 = .ok (.iaload, 1) := by decide +kernel
theorem dX10_cuts_52 : decode cX10_cuts 52 = .ok (.if_icmp .ge 93, 3) := by decide +kernel
theorem dX10_cuts_55 : decode cX10_cuts 55 = .ok (.aload_n 0, 1) := by decide +kernel
theorem dX10_cuts_56 : decode cX10_cuts 56 = .ok (.getfield 17, 3) := by decide +kernel
theorem dX10_cuts_59 : decode cX10_cuts 59 = .ok (.iload_n 2, 1) := by decide +kernel
theorem dX10_cuts_60 : decode cX10_cuts 60 = .ok (.iaload, 1) := by decide +kernel
theorem dX10_cuts_61 : decode cX10_cuts 61 = .ok (.ifCond .ne 78, 3) := by decide +kernel
theorem dX10_cuts_64 : decode cX10_cuts 64 = .ok (.iconst 0, 1) := by decide +kernel
theorem dX10_cuts_65 : decode cX10_cuts 65 = .ok (.istore_n 3, 1) := by decide +kernel
theorem dX10_cuts_66 : decode cX10_cuts 66 = .ok (.iload_n 3, 1) := by decide +kernel
theorem dX10_cuts_67 : decode cX10_cuts 67 = .ok (.sipush 1280, 3) := by decide +kernel
theorem dX10_cuts_70 : decode cX10_cuts 70 = .ok (.if_icmp .ge 21, 3) := by decide +kernel
theorem dX10_cuts_73 : decode cX10_cuts 73 = .ok (.aload_n 0, 1) := by decide +kernel
theorem dX10_cuts_74 : decode cX10_cuts 74 = .ok (.getfield 69, 3) := by decide +kernel
theorem dX10_cuts_77 : decode cX10_cuts 77 = .ok (.iload_n 3, 1) := by decide +kernel
theorem dX10_cuts_78 : decode cX10_cuts 78 = .ok (.aload_n 0, 1) := by decide +kernel
theorem dX10_cuts_79 : decode cX10_cuts 79 = .ok (.getfield 66, 3) := by decide +kernel
theorem dX10_cuts_82 : decode cX10_cuts 82 = .ok (.iload_n 3, 1) := by decide +kernel
theorem dX10_cuts_83 : decode cX10_cuts 83 = .ok (.iaload, 1) := by decide +kernel
theorem dX10_cuts_84 : decode cX10_cuts 84 = .ok (.iastore, 1) := by decide +kernel
theorem dX10_cuts_85 : decode cX10_cuts 85 = .ok (.iinc 3 1, 3) := by decide +kernel
theorem dX10_cuts_88 : decode cX10_cuts 88 = .ok (.goto (-22), 3) := by decide +kernel
theorem dX10_cuts_91 : decode cX10_cuts 91 = .ok (.iconst 0, 1) := by decide +kernel
theorem dX10_cuts_92 : decode cX10_cuts 92 = .ok (.istore_n 3, 1) := by decide +kernel
theorem dX10_cuts_93 : decode cX10_cuts 93 = .ok (.iload_n 3, 1) := by decide +kernel
theorem dX10_cuts_94 : decode cX10_cuts 94 = .ok (.sipush 1024, 3) := by decide +kernel
theorem dX10_cuts_97 : decode cX10_cuts 97 = .ok (.if_icmp .ge 15, 3) := by decide +kernel
theorem dX10_cuts_100 : decode cX10_cuts 100 = .ok (.aload_n 0, 1) := by decide +kernel
theorem dX10_cuts_101 : decode cX10_cuts 101 = .ok (.iload_n 2, 1) := by decide +kernel
theorem dX10_cuts_102 : decode cX10_cuts 102 = .ok (.iload_n 3, 1) := by decide +kernel
theorem dX10_cuts_103 : decode cX10_cuts 103 = .ok (.invokevirtual 197, 3) := by decide +kernel
theorem dX10_cuts_106 : decode cX10_cuts 106 = .ok (.iinc 3 1, 3) := by decide +kernel
theorem dX10_cuts_109 : decode cX10_cuts 109 = .ok (.goto (-16), 3) := by decide +kernel
theorem dX10_cuts_112 : decode cX10_cuts 112 = .ok (.iconst 0, 1) := by decide +kernel
theorem dX10_cuts_113 : decode cX10_cuts 113 = .ok (.istore_n 3, 1) := by decide +kernel
theorem dX10_cuts_114 : decode cX10_cuts 114 = .ok (.iload_n 3, 1) := by decide +kernel
theorem dX10_cuts_115 : decode cX10_cuts 115 = .ok (.sipush 1280, 3) := by decide +kernel
theorem dX10_cuts_118 : decode cX10_cuts 118 = .ok (.if_icmp .ge 21, 3) := by decide +kernel
theorem dX10_cuts_121 : decode cX10_cuts 121 = .ok (.aload_n 0, 1) := by decide +kernel
theorem dX10_cuts_122 : decode cX10_cuts 122 = .ok (.getfield 66, 3) := by decide +kernel
theorem dX10_cuts_125 : decode cX10_cuts 125 = .ok (.iload_n 3, 1) := by decide +kernel
theorem dX10_cuts_126 : decode cX10_cuts 126 = .ok (.aload_n 0, 1) := by decide +kernel
theorem dX10_cuts_127 : decode cX10_cuts 127 = .ok (.getfield 69, 3) := by decide +kernel
theorem dX10_cuts_130 : decode cX10_cuts 130 = .ok (.iload_n 3, 1) := by decide +kernel
theorem dX10_cuts_131 : decode cX10_cuts 131 = .ok (.iaload, 1) := by decide +kernel
theorem dX10_cuts_132 : decode cX10_cuts 132 = .ok (.iastore, 1) := by decide +kernel
theorem dX10_cuts_133 : decode cX10_cuts 133 = .ok (.iinc 3 1, 3) := by decide +kernel
theorem dX10_cuts_136 : decode cX10_cuts 136 = .ok (.goto (-22), 3) := by decide +kernel
theorem dX10_cuts_139 : decode cX10_cuts 139 = .ok (.iinc 2 1, 3) := by decide +kernel
theorem dX10_cuts_142 : decode cX10_cuts 142 = .ok (.goto (-97), 3) := by decide +kernel
theorem dX10_cuts_145 : decode cX10_cuts 145 = .ok (.sipush 9999, 3) := by decide +kernel
theorem dX10_cuts_148 : decode cX10_cuts 148 = .ok (.istore_n 2, 1) := by decide +kernel
theorem dX10_cuts_149 : decode cX10_cuts 149 = .ok (.iconst 0, 1) := by decide +kernel
theorem dX10_cuts_150 : decode cX10_cuts 150 = .ok (.istore_n 3, 1) := by decide +kernel
theorem dX10_cuts_151 : decode cX10_cuts 151 = .ok (.iload_n 3, 1) := by decide +kernel
theorem dX10_cuts_152 : decode cX10_cuts 152 = .ok (.sipush 256, 3) := by decide +kernel
theorem dX10_cuts_155 : decode cX10_cuts 155 = .ok (.if_icmp .ge 42, 3) := by decide +kernel
theorem dX10_cuts_158 : decode cX10_cuts 158 = .ok (.aload_n 0, 1) := by decide +kernel
theorem dX10_cuts_159 : decode cX10_cuts 159 = .ok (.getfield 66, 3) := by decide +kernel
theorem dX10_cuts_162 : decode cX10_cuts 162 = .ok (.sipush 256, 3) := by decide +kernel
theorem dX10_cuts_165 : decode cX10_cuts 165 = .ok (.iload_n 1, 1) := by decide +kernel
theorem dX10_cuts_166 : decode cX10_cuts 166 = .ok (.imul, 1) := by decide +kernel
theorem dX10_cuts_167 : decode cX10_cuts 167 = .ok (.iload_n 3, 1) := by decide +kernel
theorem dX10_cuts_168 : decode cX10_cuts 168 = .ok (.iadd, 1) := by decide +kernel
theorem dX10_cuts_169 : decode cX10_cuts 169 = .ok (.iaload, 1) := by decide +kernel
theorem dX10_cuts_170 : decode cX10_cuts 170 = .ok (.iload_n 2, 1) := by decide +kernel
theorem dX10_cuts_171 : decode cX10_cuts 171 = .ok (.if_icmp .ge 18, 3) := by decide +kernel
theorem dX10_cuts_174 : decode cX10_cuts 174 = .ok (.aload_n 0, 1) := by decide +kernel
theorem dX10_cuts_175 : decode cX10_cuts 175 = .ok (.getfield 66, 3) := by decide +kernel
theorem dX10_cuts_178 : decode cX10_cuts 178 = .ok (.sipush 256, 3) := by decide +kernel
theorem dX10_cuts_181 : decode cX10_cuts 181 = .ok (.iload_n 1, 1) := by decide +kernel
theorem dX10_cuts_182 : decode cX10_cuts 182 = .ok (.imul, 1) := by decide +kernel
theorem dX10_cuts_183 : decode cX10_cuts 183 = .ok (.iload_n 3, 1) := by decide +kernel
theorem dX10_cuts_184 : decode cX10_cuts 184 = .ok (.iadd, 1) := by decide +kernel
theorem dX10_cuts_185 : decode cX10_cuts 185 = .ok (.iaload, 1) := by decide +kernel
theorem dX10_cuts_186 : decode cX10_cuts 186 = .ok (.goto 4, 3) := by decide +kernel
theorem dX10_cuts_189 : decode cX10_cuts 189 = .ok (.iload_n 2, 1) := by decide +kernel
theorem dX10_cuts_190 : decode cX10_cuts 190 = .ok (.istore_n 2, 1) := by decide +kernel
theorem dX10_cuts_191 : decode cX10_cuts 191 = .ok (.iinc 3 1, 3) := by decide +kernel
theorem dX10_cuts_194 : decode cX10_cuts 194 = .ok (.goto (-43), 3) := by decide +kernel
theorem dX10_cuts_197 : decode cX10_cuts 197 = .ok (.iload_n 2, 1) := by decide +kernel
theorem dX10_cuts_198 : decode cX10_cuts 198 = .ok (.sipush 9999, 3) := by decide +kernel
theorem dX10_cuts_201 : decode cX10_cuts 201 = .ok (.if_icmp .ne 8, 3) := by decide +kernel
theorem dX10_cuts_204 : decode cX10_cuts 204 = .ok (.bipush (-9), 2) := by decide +kernel
theorem dX10_cuts_206 : decode cX10_cuts 206 = .ok (.goto 4, 3) := by decide +kernel
theorem dX10_cuts_209 : decode cX10_cuts 209 = .ok (.iload_n 2, 1) := by decide +kernel
theorem dX10_cuts_210 : decode cX10_cuts 210 = .ok (.ireturn, 1) := by decide +kernel
theorem dX10_cutOne_0 : decode cX10_cutOne 0 = .ok (.iconst 0, 1) := by decide +kernel
theorem dX10_cutOne_1 : decode cX10_cutOne 1 = .ok (.istore_n 3, 1) := by decide +kernel
theorem dX10_cutOne_2 : decode cX10_cutOne 2 = .ok (.iload_n 3, 1) := by decide +kernel
theorem dX10_cutOne_3 : decode cX10_cutOne 3 = .ok (.aload_n 0, 1) := by decide +kernel
theorem dX10_cutOne_4 : decode cX10_cutOne 4 = .ok (.getfield 13, 3) := by decide +kernel
theorem dX10_cutOne_7 : decode cX10_cutOne 7 = .ok (.iconst 0, 1) := by decide +kernel
theorem dX10_cutOne_8 : decode cX10_cutOne 8 = .ok (.iaload, 1) := by decide +kernel
theorem dX10_cutOne_9 : decode cX10_cutOne 9 = .ok (.if_icmp .ge 149, 3) := by decide +kernel
theorem dX10_cutOne_12 : decode cX10_cutOne 12 = .ok (.aload_n 0, 1) := by decide +kernel
theorem dX10_cutOne_13 : decode cX10_cutOne 13 = .ok (.getfield 17, 3) := by decide +kernel
theorem dX10_cutOne_16 : decode cX10_cutOne 16 = .ok (.iload_n 3, 1) := by decide +kernel
theorem dX10_cutOne_17 : decode cX10_cutOne 17 = .ok (.iaload, 1) := by decide +kernel
theorem dX10_cutOne_18 : decode cX10_cutOne 18 = .ok (.iconst 1, 1) := by decide +kernel
theorem dX10_cutOne_19 : decode cX10_cutOne 19 = .ok (.if_icmp .ne 33, 3) := by decide +kernel
theorem dX10_cutOne_22 : decode cX10_cutOne 22 = .ok (.aload_n 0, 1) := by decide +kernel
end
section
theorem dX10_cutOne_23 : decode cX10_cutOne 23 = .ok (.getfield 29, 3) := by decide +kernel
theorem dX10_cutOne_26 : decode cX10_cutOne 26 = .ok (.bipush 8, 2) := by decide +kernel
theorem dX10_cutOne_28 : decode cX10_cutOne 28 = .ok (.iload_n 1, 1) := by decide +kernel
theorem dX10_cutOne_29 : decode cX10_cutOne 29 = .ok (.imul, 1) := by decide +kernel
theorem dX10_cutOne_30 : decode cX10_cutOne 30 = .ok (.iload_n 3, 1) := by decide +kernel
theorem dX10_cutOne_31 : decode cX10_cutOne 31 = .ok (.iadd, 1) := by decide +kernel
theorem dX10_cutOne_32 : decode cX10_cutOne 32 = .ok (.baload, 1) := by decide +kernel
theorem dX10_cutOne_33 : decode cX10_cutOne 33 = .ok (.ifCond .ne 19, 3) := by decide +kernel
theorem dX10_cutOne_36 : decode cX10_cutOne 36 = .ok (.iload_n 2, 1) := by decide +kernel
theorem dX10_cutOne_37 : decode cX10_cutOne 37 = .ok (.sipush 256, 3) := by decide +kernel
theorem dX10_cutOne_40 : decode cX10_cutOne 40 = .ok (.irem, 1) := by decide +kernel
theorem dX10_cutOne_41 : decode cX10_cutOne 41 = .ok (.iload_n 3, 1) := by decide +kernel
theorem dX10_cutOne_42 : decode cX10_cutOne 42 = .ok (.ishr, 1) := by decide +kernel
theorem dX10_cutOne_43 : decode cX10_cutOne 43 = .ok (.iconst 1, 1) := by decide +kernel
theorem dX10_cutOne_44 : decode cX10_cutOne 44 = .ok (.iand, 1) := by decide +kernel
theorem dX10_cutOne_45 : decode cX10_cutOne 45 = .ok (.ifCond .ne 7, 3) := by decide +kernel
theorem dX10_cutOne_48 : decode cX10_cutOne 48 = .ok (.iconst 1, 1) := by decide +kernel
theorem dX10_cutOne_49 : decode cX10_cutOne 49 = .ok (.goto 4, 3) := by decide +kernel
theorem dX10_cutOne_52 : decode cX10_cutOne 52 = .ok (.iconst 0, 1) := by decide +kernel
theorem dX10_cutOne_53 : decode cX10_cutOne 53 = .ok (.istore 4, 2) := by decide +kernel
theorem dX10_cutOne_55 : decode cX10_cutOne 55 = .ok (.aload_n 0, 1) := by decide +kernel
theorem dX10_cutOne_56 : decode cX10_cutOne 56 = .ok (.getfield 20, 3) := by decide +kernel
theorem dX10_cutOne_59 : decode cX10_cutOne 59 = .ok (.iload_n 1, 1) := by decide +kernel
theorem dX10_cutOne_60 : decode cX10_cutOne 60 = .ok (.iaload, 1) := by decide +kernel
theorem dX10_cutOne_61 : decode cX10_cutOne 61 = .ok (.aload_n 0, 1) := by decide +kernel
theorem dX10_cutOne_62 : decode cX10_cutOne 62 = .ok (.getfield 20, 3) := by decide +kernel
theorem dX10_cutOne_65 : decode cX10_cutOne 65 = .ok (.iload_n 3, 1) := by decide +kernel
theorem dX10_cutOne_66 : decode cX10_cutOne 66 = .ok (.iaload, 1) := by decide +kernel
theorem dX10_cutOne_67 : decode cX10_cutOne 67 = .ok (.if_icmp .ge 19, 3) := by decide +kernel
theorem dX10_cutOne_70 : decode cX10_cutOne 70 = .ok (.aload_n 0, 1) := by decide +kernel
theorem dX10_cutOne_71 : decode cX10_cutOne 71 = .ok (.getfield 20, 3) := by decide +kernel
theorem dX10_cutOne_74 : decode cX10_cutOne 74 = .ok (.iload_n 3, 1) := by decide +kernel
theorem dX10_cutOne_75 : decode cX10_cutOne 75 = .ok (.iaload, 1) := by decide +kernel
theorem dX10_cutOne_76 : decode cX10_cutOne 76 = .ok (.aload_n 0, 1) := by decide +kernel
theorem dX10_cutOne_77 : decode cX10_cutOne 77 = .ok (.getfield 20, 3) := by decide +kernel
theorem dX10_cutOne_80 : decode cX10_cutOne 80 = .ok (.iload_n 1, 1) := by decide +kernel
theorem dX10_cutOne_81 : decode cX10_cutOne 81 = .ok (.iaload, 1) := by decide +kernel
theorem dX10_cutOne_82 : decode cX10_cutOne 82 = .ok (.isub, 1) := by decide +kernel
theorem dX10_cutOne_83 : decode cX10_cutOne 83 = .ok (.goto 16, 3) := by decide +kernel
theorem dX10_cutOne_86 : decode cX10_cutOne 86 = .ok (.aload_n 0, 1) := by decide +kernel
theorem dX10_cutOne_87 : decode cX10_cutOne 87 = .ok (.getfield 20, 3) := by decide +kernel
theorem dX10_cutOne_90 : decode cX10_cutOne 90 = .ok (.iload_n 1, 1) := by decide +kernel
theorem dX10_cutOne_91 : decode cX10_cutOne 91 = .ok (.iaload, 1) := by decide +kernel
theorem dX10_cutOne_92 : decode cX10_cutOne 92 = .ok (.aload_n 0, 1) := by decide +kernel
theorem dX10_cutOne_93 : decode cX10_cutOne 93 = .ok (.getfield 20, 3) := by decide +kernel
theorem dX10_cutOne_96 : decode cX10_cutOne 96 = .ok (.iload_n 3, 1) := by decide +kernel
theorem dX10_cutOne_97 : decode cX10_cutOne 97 = .ok (.iaload, 1) := by decide +kernel
theorem dX10_cutOne_98 : decode cX10_cutOne 98 = .ok (.isub, 1) := by decide +kernel
theorem dX10_cutOne_99 : decode cX10_cutOne 99 = .ok (.istore 5, 2) := by decide +kernel
theorem dX10_cutOne_101 : decode cX10_cutOne 101 = .ok (.iload_n 2, 1) := by decide +kernel
theorem dX10_cutOne_102 : decode cX10_cutOne 102 = .ok (.sipush 256, 3) := by decide +kernel
theorem dX10_cutOne_105 : decode cX10_cutOne 105 = .ok (.iadd, 1) := by decide +kernel
theorem dX10_cutOne_106 : decode cX10_cutOne 106 = .ok (.iconst 1, 1) := by decide +kernel
theorem dX10_cutOne_107 : decode cX10_cutOne 107 = .ok (.iload_n 3, 1) := by decide +kernel
theorem dX10_cutOne_108 : decode cX10_cutOne 108 = .ok (.ishl, 1) := by decide +kernel
theorem dX10_cutOne_109 : decode cX10_cutOne 109 = .ok (.iadd, 1) := by decide +kernel
theorem dX10_cutOne_110 : decode cX10_cutOne 110 = .ok (.istore 6, 2) := by decide +kernel
theorem dX10_cutOne_112 : decode cX10_cutOne 112 = .ok (.iload 4, 2) := by decide +kernel
theorem dX10_cutOne_114 : decode cX10_cutOne 114 = .ok (.ifCond .eq 38, 3) := by decide +kernel
theorem dX10_cutOne_117 : decode cX10_cutOne 117 = .ok (.aload_n 0, 1) := by decide +kernel
theorem dX10_cutOne_118 : decode cX10_cutOne 118 = .ok (.getfield 66, 3) := by decide +kernel
theorem dX10_cutOne_121 : decode cX10_cutOne 121 = .ok (.iload_n 2, 1) := by decide +kernel
theorem dX10_cutOne_122 : decode cX10_cutOne 122 = .ok (.iaload, 1) := by decide +kernel
theorem dX10_cutOne_123 : decode cX10_cutOne 123 = .ok (.iload 5, 2) := by decide +kernel
theorem dX10_cutOne_125 : decode cX10_cutOne 125 = .ok (.iadd, 1) := by decide +kernel
theorem dX10_cutOne_126 : decode cX10_cutOne 126 = .ok (.aload_n 0, 1) := by decide +kernel
theorem dX10_cutOne_127 : decode cX10_cutOne 127 = .ok (.getfield 69, 3) := by decide +kernel
theorem dX10_cutOne_130 : decode cX10_cutOne 130 = .ok (.iload 6, 2) := by decide +kernel
theorem dX10_cutOne_132 : decode cX10_cutOne 132 = .ok (.iaload, 1) := by decide +kernel
theorem dX10_cutOne_133 : decode cX10_cutOne 133 = .ok (.if_icmp .ge 19, 3) := by decide +kernel
theorem dX10_cutOne_136 : decode cX10_cutOne 136 = .ok (.aload_n 0, 1) := by decide +kernel
theorem dX10_cutOne_137 : decode cX10_cutOne 137 = .ok (.getfield 69, 3) := by decide +kernel
theorem dX10_cutOne_140 : decode cX10_cutOne 140 = .ok (.iload 6, 2) := by decide +kernel
theorem dX10_cutOne_142 : decode cX10_cutOne 142 = .ok (.aload_n 0, 1) := by decide +kernel
theorem dX10_cutOne_143 : decode cX10_cutOne 143 = .ok (.getfield 66, 3) := by decide +kernel
theorem dX10_cutOne_146 : decode cX10_cutOne 146 = .ok (.iload_n 2, 1) := by decide +kernel
theorem dX10_cutOne_147 : decode cX10_cutOne 147 = .ok (.iaload, 1) := by decide +kernel
theorem dX10_cutOne_148 : decode cX10_cutOne 148 = .ok (.iload 5, 2) := by decide +kernel
theorem dX10_cutOne_150 : decode cX10_cutOne 150 = .ok (.iadd, 1) := by decide +kernel
theorem dX10_cutOne_151 : decode cX10_cutOne 151 = .ok (.iastore, 1) := by decide +kernel
theorem dX10_cutOne_152 : decode cX10_cutOne 152 = .ok (.iinc 3 1, 3) := by decide +kernel
theorem dX10_cutOne_155 : decode cX10_cutOne 155 = .ok (.goto (-153), 3) := by decide +kernel
theorem dX10_cutOne_158 : decode cX10_cutOne 158 = .ok (.return_, 1) := by decide +kernel
set_option maxRecDepth 20000 in
theorem ggX10_whose_X10_in : GoodIn wsX10_whose wsX10_in := goodIn_r _ [7] (by decide +kernel) (by decide +kernel)
set_option maxRecDepth 20000 in
theorem gX10_whose_X10_in : GoodIn wsX10_whose (va_wsS RX10 72 yX10_in wsX10_in) := goodIn_app (goodIn_of _ (by decide +kernel)) ggX10_whose_X10_in
set_option maxRecDepth 20000 in
theorem ggX10_whose_X10_fits : GoodIn wsX10_whose wsX10_fits := goodIn_r _ [11, 2, 3, 12, 18, 19, 20, 21, 22, 23, 24, 25, 26, 27, 28, 29, 30, 31, 32, 33, 34, 35, 36, 37, 38, 39, 40, 41, 42, 43, 44] (by decide +kernel) (by decide +kernel)
set_option maxRecDepth 20000 in
theorem gX10_whose_X10_fits : GoodIn wsX10_whose (wsV RX10 129 RX10 yX10_fits wsX10_fits) := goodIn_app (goodIn_of _ (by decide +kernel)) ggX10_whose_X10_fits
set_option maxRecDepth 20000 in
theorem ggX10_whose_X10_ladder : GoodIn wsX10_whose wsX10_ladder := goodIn_r _ [16, 17, 18, 19, 20, 21, 22, 23, 24, 25, 26, 27, 28, 29, 30, 31, 32, 33, 34, 35, 36, 37, 38, 39, 40, 41, 42, 43, 44] (by decide +kernel) (by decide +kernel)
set_option maxRecDepth 20000 in
theorem gX10_whose_X10_ladder : GoodIn wsX10_whose (wsV RX10 133 RX10 yX10_ladder wsX10_ladder) := goodIn_app (goodIn_of _ (by decide +kernel)) ggX10_whose_X10_ladder
theorem dX10_whose_0 : decode cX10_whose 0 = .ok (.iload_n 1, 1) := by decide +kernel
theorem dX10_whose_1 : decode cX10_whose 1 = .ok (.iconst 1, 1) := by decide +kernel
theorem dX10_whose_2 : decode cX10_whose 2 = .ok (.bipush 9, 2) := by decide +kernel
theorem dX10_whose_4 : decode cX10_whose 4 = .ok (.invokestatic 72, 3) := by decide +kernel
theorem dX10_whose_7 : decode cX10_whose 7 = .ok (.ifCond .eq 22, 3) := by decide +kernel
theorem dX10_whose_10 : decode cX10_whose 10 = .ok (.iload_n 2, 1) := by decide +kernel
theorem dX10_whose_11 : decode cX10_whose 11 = .ok (.iconst 1, 1) := by decide +kernel
theorem dX10_whose_12 : decode cX10_whose 12 = .ok (.bipush 9, 2) := by decide +kernel
theorem dX10_whose_14 : decode cX10_whose 14 = .ok (.invokestatic 72, 3) := by decide +kernel
theorem dX10_whose_17 : decode cX10_whose 17 = .ok (.ifCond .eq 12, 3) := by decide +kernel
theorem dX10_whose_20 : decode cX10_whose 20 = .ok (.iload_n 3, 1) := by decide +kernel
theorem dX10_whose_21 : decode cX10_whose 21 = .ok (.iconst 0, 1) := by decide +kernel
theorem dX10_whose_22 : decode cX10_whose 22 = .ok (.iconst 1, 1) := by decide +kernel
theorem dX10_whose_23 : decode cX10_whose 23 = .ok (.invokestatic 72, 3) := by decide +kernel
theorem dX10_whose_26 : decode cX10_whose 26 = .ok (.ifCond .ne 5, 3) := by decide +kernel
theorem dX10_whose_29 : decode cX10_whose 29 = .ok (.iconst (-1), 1) := by decide +kernel
theorem dX10_whose_30 : decode cX10_whose 30 = .ok (.ireturn, 1) := by decide +kernel
theorem dX10_whose_31 : decode cX10_whose 31 = .ok (.iconst 0, 1) := by decide +kernel
theorem dX10_whose_32 : decode cX10_whose 32 = .ok (.istore 4, 2) := by decide +kernel
theorem dX10_whose_34 : decode cX10_whose 34 = .ok (.bipush (-9), 2) := by decide +kernel
theorem dX10_whose_36 : decode cX10_whose 36 = .ok (.istore 5, 2) := by decide +kernel
theorem dX10_whose_38 : decode cX10_whose 38 = .ok (.iconst 0, 1) := by decide +kernel
theorem dX10_whose_39 : decode cX10_whose 39 = .ok (.istore 6, 2) := by decide +kernel
theorem dX10_whose_41 : decode cX10_whose 41 = .ok (.iload 6, 2) := by decide +kernel
theorem dX10_whose_43 : decode cX10_whose 43 = .ok (.aload_n 0, 1) := by decide +kernel
theorem dX10_whose_44 : decode cX10_whose 44 = .ok (.getfield 13, 3) := by decide +kernel
theorem dX10_whose_47 : decode cX10_whose 47 = .ok (.iconst 0, 1) := by decide +kernel
theorem dX10_whose_48 : decode cX10_whose 48 = .ok (.iaload, 1) := by decide +kernel
theorem dX10_whose_49 : decode cX10_whose 49 = .ok (.if_icmp .ge 107, 3) := by decide +kernel
theorem dX10_whose_52 : decode cX10_whose 52 = .ok (.iconst 0, 1) := by decide +kernel
theorem dX10_whose_53 : decode cX10_whose 53 = .ok (.istore 7, 2) := by decide +kernel
theorem dX10_whose_55 : decode cX10_whose 55 = .ok (.iload 7, 2) := by decide +kernel
theorem dX10_whose_57 : decode cX10_whose 57 = .ok (.aload_n 0, 1) := by decide +kernel
theorem dX10_whose_58 : decode cX10_whose 58 = .ok (.getfield 13, 3) := by decide +kernel
theorem dX10_whose_61 : decode cX10_whose 61 = .ok (.iconst 0, 1) := by decide +kernel
theorem dX10_whose_62 : decode cX10_whose 62 = .ok (.iaload, 1) := by decide +kernel
theorem dX10_whose_63 : decode cX10_whose 63 = .ok (.if_icmp .ge 87, 3) := by decide +kernel
theorem dX10_whose_66 : decode cX10_whose 66 = .ok (.aload_n 0, 1) := by decide +kernel
theorem dX10_whose_67 : decode cX10_whose 67 = .ok (.getfield 17, 3) := by decide +kernel
theorem dX10_whose_70 : decode cX10_whose 70 = .ok (.iload 6, 2) := by decide +kernel
theorem dX10_whose_72 : decode cX10_whose 72 = .ok (.iaload, 1) := by decide +kernel
theorem dX10_whose_73 : decode cX10_whose 73 = .ok (.ifCond .ne 71, 3) := by decide +kernel
theorem dX10_whose_76 : decode cX10_whose 76 = .ok (.aload_n 0, 1) := by decide +kernel
theorem dX10_whose_77 : decode cX10_whose 77 = .ok (.getfield 17, 3) := by decide +kernel
theorem dX10_whose_80 : decode cX10_whose 80 = .ok (.iload 7, 2) := by decide +kernel
theorem dX10_whose_82 : decode cX10_whose 82 = .ok (.iaload, 1) := by decide +kernel
theorem dX10_whose_83 : decode cX10_whose 83 = .ok (.iconst 1, 1) := by decide +kernel
theorem dX10_whose_84 : decode cX10_whose 84 = .ok (.if_icmp .ne 60, 3) := by decide +kernel
theorem dX10_whose_87 : decode cX10_whose 87 = .ok (.aload_n 0, 1) := by decide +kernel
theorem dX10_whose_88 : decode cX10_whose 88 = .ok (.iload 6, 2) := by decide +kernel
theorem dX10_whose_90 : decode cX10_whose 90 = .ok (.iload 7, 2) := by decide +kernel
theorem dX10_whose_92 : decode cX10_whose 92 = .ok (.invokevirtual 129, 3) := by decide +kernel
theorem dX10_whose_95 : decode cX10_whose 95 = .ok (.ifCond .eq 49, 3) := by decide +kernel
theorem dX10_whose_98 : decode cX10_whose 98 = .ok (.aload_n 0, 1) := by decide +kernel
theorem dX10_whose_99 : decode cX10_whose 99 = .ok (.getfield 20, 3) := by decide +kernel
theorem dX10_whose_102 : decode cX10_whose 102 = .ok (.iload 6, 2) := by decide +kernel
theorem dX10_whose_104 : decode cX10_whose 104 = .ok (.iaload, 1) := by decide +kernel
theorem dX10_whose_105 : decode cX10_whose 105 = .ok (.iload_n 1, 1) := by decide +kernel
theorem dX10_whose_106 : decode cX10_whose 106 = .ok (.if_icmp .ne 38, 3) := by decide +kernel
theorem dX10_whose_109 : decode cX10_whose 109 = .ok (.aload_n 0, 1) := by decide +kernel
theorem dX10_whose_110 : decode cX10_whose 110 = .ok (.iload 6, 2) := by decide +kernel
theorem dX10_whose_112 : decode cX10_whose 112 = .ok (.iload 7, 2) := by decide +kernel
theorem dX10_whose_114 : decode cX10_whose 114 = .ok (.invokevirtual 133, 3) := by decide +kernel
theorem dX10_whose_117 : decode cX10_whose 117 = .ok (.iload_n 2, 1) := by decide +kernel
theorem dX10_whose_118 : decode cX10_whose 118 = .ok (.if_icmp .lt 26, 3) := by decide +kernel
theorem dX10_whose_121 : decode cX10_whose 121 = .ok (.iload 4, 2) := by decide +kernel
theorem dX10_whose_123 : decode cX10_whose 123 = .ok (.ifCond .ne 14, 3) := by decide +kernel
theorem dX10_whose_126 : decode cX10_whose 126 = .ok (.bipush 10, 2) := by decide +kernel
theorem dX10_whose_128 : decode cX10_whose 128 = .ok (.iload 6, 2) := by decide +kernel
theorem dX10_whose_130 : decode cX10_whose 130 = .ok (.imul, 1) := by decide +kernel
theorem dX10_whose_131 : decode cX10_whose 131 = .ok (.iload 7, 2) := by decide +kernel
theorem dX10_whose_133 : decode cX10_whose 133 = .ok (.iadd, 1) := by decide +kernel
theorem dX10_whose_134 : decode cX10_whose 134 = .ok (.goto 5, 3) := by decide +kernel
theorem dX10_whose_137 : decode cX10_whose 137 = .ok (.iload 5, 2) := by decide +kernel
theorem dX10_whose_139 : decode cX10_whose 139 = .ok (.istore 5, 2) := by decide +kernel
theorem dX10_whose_141 : decode cX10_whose 141 = .ok (.iinc 4 1, 3) := by decide +kernel
theorem dX10_whose_144 : decode cX10_whose 144 = .ok (.iinc 7 1, 3) := by decide +kernel
theorem dX10_whose_147 : decode cX10_whose 147 = .ok (.goto (-92), 3) := by decide +kernel
theorem dX10_whose_150 : decode cX10_whose 150 = .ok (.iinc 6 1, 3) := by decide +kernel
theorem dX10_whose_153 : decode cX10_whose 153 = .ok (.goto (-112), 3) := by decide +kernel
theorem dX10_whose_156 : decode cX10_whose 156 = .ok (.iload_n 3, 1) := by decide +kernel
theorem dX10_whose_157 : decode cX10_whose 157 = .ok (.ifCond .ne 8, 3) := by decide +kernel
theorem dX10_whose_160 : decode cX10_whose 160 = .ok (.iload 4, 2) := by decide +kernel
theorem dX10_whose_162 : decode cX10_whose 162 = .ok (.goto 5, 3) := by decide +kernel
theorem dX10_whose_165 : decode cX10_whose 165 = .ok (.iload 5, 2) := by decide +kernel
theorem dX10_whose_167 : decode cX10_whose 167 = .ok (.ireturn, 1) := by decide +kernel
set_option maxRecDepth 20000 in
theorem ggX10_mark_X10_in : GoodIn wsX10_mark wsX10_in := goodIn_r _ [16] (by decide +kernel) (by decide +kernel)
set_option maxRecDepth 20000 in
theorem gX10_mark_X10_in : GoodIn wsX10_mark (va_wsS RX10 72 yX10_in wsX10_in) := goodIn_app (goodIn_of _ (by decide +kernel)) ggX10_mark_X10_in
set_option maxRecDepth 20000 in
theorem ggX10_mark_X10_isOne : GoodIn wsX10_mark wsX10_isOne := goodIn_r _ [20, 2, 13, 14, 15, 16, 27, 28, 29, 30, 31, 32, 33, 34, 35, 36, 37, 38, 39, 40, 41, 42, 43, 44, 45, 46, 47, 48, 49, 50, 51, 52, 53] (by decide +kernel) (by decide +kernel)
set_option maxRecDepth 20000 in
theorem gX10_mark_X10_isOne : GoodIn wsX10_mark (wsV RX10 122 RX10 yX10_isOne wsX10_isOne) := goodIn_app (goodIn_of _ (by decide +kernel)) ggX10_mark_X10_isOne
set_option maxRecDepth 20000 in
theorem ggX10_mark_X10_fits : GoodIn wsX10_mark wsX10_fits := goodIn_r _ [24, 25, 6, 26, 27, 28, 29, 30, 31, 32, 33, 34, 35, 36, 37, 38, 39, 40, 41, 42, 43, 44, 45, 46, 47, 48, 49, 50, 51, 52, 53] (by decide +kernel) (by decide +kernel)
set_option maxRecDepth 20000 in
theorem gX10_mark_X10_fits : GoodIn wsX10_mark (wsV RX10 129 RX10 yX10_fits wsX10_fits) := goodIn_app (goodIn_of _ (by decide +kernel)) ggX10_mark_X10_fits
theorem dX10_mark_0 : decode cX10_mark 0 = .ok (.iload_n 1, 1) := by decide +kernel
theorem dX10_mark_1 : decode cX10_mark 1 = .ok (.iconst 0, 1) := by decide +kernel
theorem dX10_mark_2 : decode cX10_mark 2 = .ok (.iconst 5, 1) := by decide +kernel
theorem dX10_mark_3 : decode cX10_mark 3 = .ok (.invokestatic 72, 3) := by decide +kernel
theorem dX10_mark_6 : decode cX10_mark 6 = .ok (.ifCond .eq 11, 3) := by decide +kernel
theorem dX10_mark_9 : decode cX10_mark 9 = .ok (.aload_n 0, 1) := by decide +kernel
theorem dX10_mark_10 : decode cX10_mark 10 = .ok (.iload_n 2, 1) := by decide +kernel
theorem dX10_mark_11 : decode cX10_mark 11 = .ok (.invokevirtual 122, 3) := by decide +kernel
theorem dX10_mark_14 : decode cX10_mark 14 = .ok (.ifCond .ne 6, 3) := by decide +kernel
theorem dX10_mark_17 : decode cX10_mark 17 = .ok (.ldc 200, 2) := by decide +kernel
theorem dX10_mark_19 : decode cX10_mark 19 = .ok (.ireturn, 1) := by decide +kernel
theorem dX10_mark_20 : decode cX10_mark 20 = .ok (.iconst 0, 1) := by decide +kernel
theorem dX10_mark_21 : decode cX10_mark 21 = .ok (.istore_n 3, 1) := by decide +kernel
theorem dX10_mark_22 : decode cX10_mark 22 = .ok (.iconst 0, 1) := by decide +kernel
theorem dX10_mark_23 : decode cX10_mark 23 = .ok (.istore 4, 2) := by decide +kernel
theorem dX10_mark_25 : decode cX10_mark 25 = .ok (.iload 4, 2) := by decide +kernel
theorem dX10_mark_27 : decode cX10_mark 27 = .ok (.aload_n 0, 1) := by decide +kernel
theorem dX10_mark_28 : decode cX10_mark 28 = .ok (.getfield 13, 3) := by decide +kernel
theorem dX10_mark_31 : decode cX10_mark 31 = .ok (.iconst 0, 1) := by decide +kernel
theorem dX10_mark_32 : decode cX10_mark 32 = .ok (.iaload, 1) := by decide +kernel
theorem dX10_mark_33 : decode cX10_mark 33 = .ok (.if_icmp .ge 33, 3) := by decide +kernel
theorem dX10_mark_36 : decode cX10_mark 36 = .ok (.iload_n 3, 1) := by decide +kernel
theorem dX10_mark_37 : decode cX10_mark 37 = .ok (.iload 4, 2) := by decide +kernel
theorem dX10_mark_39 : decode cX10_mark 39 = .ok (.iload_n 2, 1) := by decide +kernel
theorem dX10_mark_40 : decode cX10_mark 40 = .ok (.if_icmp .eq 17, 3) := by decide +kernel
theorem dX10_mark_43 : decode cX10_mark 43 = .ok (.aload_n 0, 1) := by decide +kernel
theorem dX10_mark_44 : decode cX10_mark 44 = .ok (.iload_n 2, 1) := by decide +kernel
theorem dX10_mark_45 : decode cX10_mark 45 = .ok (.iload 4, 2) := by decide +kernel
theorem dX10_mark_47 : decode cX10_mark 47 = .ok (.invokevirtual 129, 3) := by decide +kernel
theorem dX10_mark_50 : decode cX10_mark 50 = .ok (.ifCond .eq 7, 3) := by decide +kernel
theorem dX10_mark_53 : decode cX10_mark 53 = .ok (.iconst 1, 1) := by decide +kernel
theorem dX10_mark_54 : decode cX10_mark 54 = .ok (.goto 4, 3) := by decide +kernel
theorem dX10_mark_57 : decode cX10_mark 57 = .ok (.iconst 0, 1) := by decide +kernel
theorem dX10_mark_58 : decode cX10_mark 58 = .ok (.iadd, 1) := by decide +kernel
theorem dX10_mark_59 : decode cX10_mark 59 = .ok (.istore_n 3, 1) := by decide +kernel
theorem dX10_mark_60 : decode cX10_mark 60 = .ok (.iinc 4 1, 3) := by decide +kernel
theorem dX10_mark_63 : decode cX10_mark 63 = .ok (.goto (-38), 3) := by decide +kernel
theorem dX10_mark_66 : decode cX10_mark 66 = .ok (.iload_n 1, 1) := by decide +kernel
theorem dX10_mark_67 : decode cX10_mark 67 = .ok (.tableswitch 153 0 4 #[33, 50, 76, 97, 130], 33) := by decide +kernel
theorem dX10_mark_100 : decode cX10_mark 100 = .ok (.aload_n 0, 1) := by decide +kernel
theorem dX10_mark_101 : decode cX10_mark 101 = .ok (.dup, 1) := by decide +kernel
theorem dX10_mark_102 : decode cX10_mark 102 = .ok (.getfield 201, 3) := by decide +kernel
theorem dX10_mark_105 : decode cX10_mark 105 = .ok (.lconst 1, 1) := by decide +kernel
theorem dX10_mark_106 : decode cX10_mark 106 = .ok (.ladd, 1) := by decide +kernel
theorem dX10_mark_107 : decode cX10_mark 107 = .ok (.putfield 201, 3) := by decide +kernel
theorem dX10_mark_110 : decode cX10_mark 110 = .ok (.aload_n 0, 1) := by decide +kernel
theorem dX10_mark_111 : decode cX10_mark 111 = .ok (.getfield 23, 3) := by decide +kernel
theorem dX10_mark_114 : decode cX10_mark 114 = .ok (.iload_n 2, 1) := by decide +kernel
theorem dX10_mark_115 : decode cX10_mark 115 = .ok (.iaload, 1) := by decide +kernel
theorem dX10_mark_116 : decode cX10_mark 116 = .ok (.ireturn, 1) := by decide +kernel
theorem dX10_mark_117 : decode cX10_mark 117 = .ok (.aload_n 0, 1) := by decide +kernel
theorem dX10_mark_118 : decode cX10_mark 118 = .ok (.dup, 1) := by decide +kernel
theorem dX10_mark_119 : decode cX10_mark 119 = .ok (.getfield 201, 3) := by decide +kernel
theorem dX10_mark_122 : decode cX10_mark 122 = .ok (.ldc2_w 205, 3) := by decide +kernel
theorem dX10_mark_125 : decode cX10_mark 125 = .ok (.ladd, 1) := by decide +kernel
theorem dX10_mark_126 : decode cX10_mark 126 = .ok (.putfield 201, 3) := by decide +kernel
theorem dX10_mark_129 : decode cX10_mark 129 = .ok (.aload_n 0, 1) := by decide +kernel
theorem dX10_mark_130 : decode cX10_mark 130 = .ok (.getfield 23, 3) := by decide +kernel
theorem dX10_mark_133 : decode cX10_mark 133 = .ok (.iload_n 2, 1) := by decide +kernel
theorem dX10_mark_134 : decode cX10_mark 134 = .ok (.iaload, 1) := by decide +kernel
theorem dX10_mark_135 : decode cX10_mark 135 = .ok (.aload_n 0, 1) := by decide +kernel
theorem dX10_mark_136 : decode cX10_mark 136 = .ok (.getfield 20, 3) := by decide +kernel
theorem dX10_mark_139 : decode cX10_mark 139 = .ok (.iload_n 2, 1) := by decide +kernel
theorem dX10_mark_140 : decode cX10_mark 140 = .ok (.iaload, 1) := by decide +kernel
theorem dX10_mark_141 : decode cX10_mark 141 = .ok (.isub, 1) := by decide +kernel
theorem dX10_mark_142 : decode cX10_mark 142 = .ok (.ireturn, 1) := by decide +kernel
theorem dX10_mark_143 : decode cX10_mark 143 = .ok (.aload_n 0, 1) := by decide +kernel
theorem dX10_mark_144 : decode cX10_mark 144 = .ok (.dup, 1) := by decide +kernel
theorem dX10_mark_145 : decode cX10_mark 145 = .ok (.getfield 201, 3) := by decide +kernel
theorem dX10_mark_148 : decode cX10_mark 148 = .ok (.ldc2_w 207, 3) := by decide +kernel
theorem dX10_mark_151 : decode cX10_mark 151 = .ok (.ladd, 1) := by decide +kernel
theorem dX10_mark_152 : decode cX10_mark 152 = .ok (.putfield 201, 3) := by decide +kernel
theorem dX10_mark_155 : decode cX10_mark 155 = .ok (.iconst 2, 1) := by decide +kernel
theorem dX10_mark_156 : decode cX10_mark 156 = .ok (.aload_n 0, 1) := by decide +kernel
theorem dX10_mark_157 : decode cX10_mark 157 = .ok (.getfield 23, 3) := by decide +kernel
theorem dX10_mark_160 : decode cX10_mark 160 = .ok (.iload_n 2, 1) := by decide +kernel
theorem dX10_mark_161 : decode cX10_mark 161 = .ok (.iaload, 1) := by decide +kernel
theorem dX10_mark_162 : decode cX10_mark 162 = .ok (.imul, 1) := by decide +kernel
theorem dX10_mark_163 : decode cX10_mark 163 = .ok (.ireturn, 1) := by decide +kernel
theorem dX10_mark_164 : decode cX10_mark 164 = .ok (.aload_n 0, 1) := by decide +kernel
theorem dX10_mark_165 : decode cX10_mark 165 = .ok (.dup, 1) := by decide +kernel
theorem dX10_mark_166 : decode cX10_mark 166 = .ok (.getfield 201, 3) := by decide +kernel
theorem dX10_mark_169 : decode cX10_mark 169 = .ok (.ldc2_w 209, 3) := by decide +kernel
theorem dX10_mark_172 : decode cX10_mark 172 = .ok (.ladd, 1) := by decide +kernel
theorem dX10_mark_173 : decode cX10_mark 173 = .ok (.putfield 201, 3) := by decide +kernel
theorem dX10_mark_176 : decode cX10_mark 176 = .ok (.aload_n 0, 1) := by decide +kernel
theorem dX10_mark_177 : decode cX10_mark 177 = .ok (.getfield 23, 3) := by decide +kernel
theorem dX10_mark_180 : decode cX10_mark 180 = .ok (.iload_n 2, 1) := by decide +kernel
theorem dX10_mark_181 : decode cX10_mark 181 = .ok (.iaload, 1) := by decide +kernel
theorem dX10_mark_182 : decode cX10_mark 182 = .ok (.aload_n 0, 1) := by decide +kernel
theorem dX10_mark_183 : decode cX10_mark 183 = .ok (.getfield 20, 3) := by decide +kernel
theorem dX10_mark_186 : decode cX10_mark 186 = .ok (.iload_n 2, 1) := by decide +kernel
theorem dX10_mark_187 : decode cX10_mark 187 = .ok (.iaload, 1) := by decide +kernel
theorem dX10_mark_188 : decode cX10_mark 188 = .ok (.isub, 1) := by decide +kernel
theorem dX10_mark_189 : decode cX10_mark 189 = .ok (.aload_n 0, 1) := by decide +kernel
theorem dX10_mark_190 : decode cX10_mark 190 = .ok (.getfield 26, 3) := by decide +kernel
theorem dX10_mark_193 : decode cX10_mark 193 = .ok (.iload_n 2, 1) := by decide +kernel
theorem dX10_mark_194 : decode cX10_mark 194 = .ok (.iaload, 1) := by decide +kernel
theorem dX10_mark_195 : decode cX10_mark 195 = .ok (.iadd, 1) := by decide +kernel
theorem dX10_mark_196 : decode cX10_mark 196 = .ok (.ireturn, 1) := by decide +kernel
theorem dX10_mark_197 : decode cX10_mark 197 = .ok (.aload_n 0, 1) := by decide +kernel
theorem dX10_mark_198 : decode cX10_mark 198 = .ok (.dup, 1) := by decide +kernel
theorem dX10_mark_199 : decode cX10_mark 199 = .ok (.getfield 201, 3) := by decide +kernel
theorem dX10_mark_202 : decode cX10_mark 202 = .ok (.ldc2_w 211, 3) := by decide +kernel
theorem dX10_mark_205 : decode cX10_mark 205 = .ok (.ladd, 1) := by decide +kernel
theorem dX10_mark_206 : decode cX10_mark 206 = .ok (.putfield 201, 3) := by decide +kernel
theorem dX10_mark_209 : decode cX10_mark 209 = .ok (.iconst 2, 1) := by decide +kernel
theorem dX10_mark_210 : decode cX10_mark 210 = .ok (.aload_n 0, 1) := by decide +kernel
theorem dX10_mark_211 : decode cX10_mark 211 = .ok (.getfield 23, 3) := by decide +kernel
theorem dX10_mark_214 : decode cX10_mark 214 = .ok (.iload_n 2, 1) := by decide +kernel
theorem dX10_mark_215 : decode cX10_mark 215 = .ok (.iaload, 1) := by decide +kernel
theorem dX10_mark_216 : decode cX10_mark 216 = .ok (.imul, 1) := by decide +kernel
theorem dX10_mark_217 : decode cX10_mark 217 = .ok (.iload_n 3, 1) := by decide +kernel
theorem dX10_mark_218 : decode cX10_mark 218 = .ok (.iadd, 1) := by decide +kernel
theorem dX10_mark_219 : decode cX10_mark 219 = .ok (.ireturn, 1) := by decide +kernel
theorem dX10_mark_220 : decode cX10_mark 220 = .ok (.aload_n 0, 1) := by decide +kernel
theorem dX10_mark_221 : decode cX10_mark 221 = .ok (.dup, 1) := by decide +kernel
theorem dX10_mark_222 : decode cX10_mark 222 = .ok (.getfield 201, 3) := by decide +kernel
theorem dX10_mark_225 : decode cX10_mark 225 = .ok (.ldc2_w 213, 3) := by decide +kernel
theorem dX10_mark_228 : decode cX10_mark 228 = .ok (.ladd, 1) := by decide +kernel
theorem dX10_mark_229 : decode cX10_mark 229 = .ok (.putfield 201, 3) := by decide +kernel
theorem dX10_mark_232 : decode cX10_mark 232 = .ok (.aload_n 0, 1) := by decide +kernel
theorem dX10_mark_233 : decode cX10_mark 233 = .ok (.getfield 23, 3) := by decide +kernel
theorem dX10_mark_236 : decode cX10_mark 236 = .ok (.iload_n 2, 1) := by decide +kernel
theorem dX10_mark_237 : decode cX10_mark 237 = .ok (.iaload, 1) := by decide +kernel
theorem dX10_mark_238 : decode cX10_mark 238 = .ok (.aload_n 0, 1) := by decide +kernel
theorem dX10_mark_239 : decode cX10_mark 239 = .ok (.getfield 45, 3) := by decide +kernel
theorem dX10_mark_242 : decode cX10_mark 242 = .ok (.iconst 0, 1) := by decide +kernel
theorem dX10_mark_243 : decode cX10_mark 243 = .ok (.iaload, 1) := by decide +kernel
theorem dX10_mark_244 : decode cX10_mark 244 = .ok (.iadd, 1) := by decide +kernel
theorem dX10_mark_245 : decode cX10_mark 245 = .ok (.ireturn, 1) := by decide +kernel
set_option maxRecDepth 20000 in
theorem ggX10_keep_X10_in : GoodIn wsX10_keep wsX10_in := goodIn_r _ [6] (by decide +kernel) (by decide +kernel)
set_option maxRecDepth 20000 in
theorem gX10_keep_X10_in : GoodIn wsX10_keep (va_wsS RX10 72 yX10_in wsX10_in) := goodIn_app (goodIn_of _ (by decide +kernel)) ggX10_keep_X10_in
set_option maxRecDepth 20000 in
theorem ggX10_keep_X10_copy : GoodIn wsX10_keep wsX10_copy := goodIn_r _ [10, 2, 11, 12, 13, 14, 15, 16, 17, 18, 19, 20, 21, 22, 23, 24, 25, 26, 27, 28, 29, 30, 31, 32, 33, 34, 35, 36, 37] (by decide +kernel) (by decide +kernel)
set_option maxRecDepth 20000 in
theorem gX10_keep_X10_copy : GoodIn wsX10_keep (wsV RX10 162 RX10 yX10_copy wsX10_copy) := goodIn_app (goodIn_of _ (by decide +kernel)) ggX10_keep_X10_copy
theorem dX10_keep_0 : decode cX10_keep 0 = .ok (.iload_n 1, 1) := by decide +kernel
theorem dX10_keep_1 : decode cX10_keep 1 = .ok (.iconst 0, 1) := by decide +kernel
theorem dX10_keep_2 : decode cX10_keep 2 = .ok (.iconst 1, 1) := by decide +kernel
theorem dX10_keep_3 : decode cX10_keep 3 = .ok (.invokestatic 72, 3) := by decide +kernel
theorem dX10_keep_6 : decode cX10_keep 6 = .ok (.ifCond .ne 5, 3) := by decide +kernel
theorem dX10_keep_9 : decode cX10_keep 9 = .ok (.iconst (-1), 1) := by decide +kernel
theorem dX10_keep_10 : decode cX10_keep 10 = .ok (.ireturn, 1) := by decide +kernel
theorem dX10_keep_11 : decode cX10_keep 11 = .ok (.aload_n 0, 1) := by decide +kernel
theorem dX10_keep_12 : decode cX10_keep 12 = .ok (.iconst 0, 1) := by decide +kernel
theorem dX10_keep_13 : decode cX10_keep 13 = .ok (.bipush 12, 2) := by decide +kernel
theorem dX10_keep_15 : decode cX10_keep 15 = .ok (.iconst 2, 1) := by decide +kernel
theorem dX10_keep_16 : decode cX10_keep 16 = .ok (.iload_n 1, 1) := by decide +kernel
theorem dX10_keep_17 : decode cX10_keep 17 = .ok (.iadd, 1) := by decide +kernel
theorem dX10_keep_18 : decode cX10_keep 18 = .ok (.imul, 1) := by decide +kernel
theorem dX10_keep_19 : decode cX10_keep 19 = .ok (.invokevirtual 162, 3) := by decide +kernel
theorem dX10_keep_22 : decode cX10_keep 22 = .ok (.aload_n 0, 1) := by decide +kernel
theorem dX10_keep_23 : decode cX10_keep 23 = .ok (.getfield 48, 3) := by decide +kernel
theorem dX10_keep_26 : decode cX10_keep 26 = .ok (.iload_n 1, 1) := by decide +kernel
theorem dX10_keep_27 : decode cX10_keep 27 = .ok (.iconst 1, 1) := by decide +kernel
theorem dX10_keep_28 : decode cX10_keep 28 = .ok (.bastore, 1) := by decide +kernel
theorem dX10_keep_29 : decode cX10_keep 29 = .ok (.aload_n 0, 1) := by decide +kernel
theorem dX10_keep_30 : decode cX10_keep 30 = .ok (.getfield 45, 3) := by decide +kernel
theorem dX10_keep_33 : decode cX10_keep 33 = .ok (.iconst 0, 1) := by decide +kernel
theorem dX10_keep_34 : decode cX10_keep 34 = .ok (.iaload, 1) := by decide +kernel
theorem dX10_keep_35 : decode cX10_keep 35 = .ok (.ireturn, 1) := by decide +kernel
set_option maxRecDepth 20000 in
theorem ggX10_back_X10_in : GoodIn wsX10_back wsX10_in := goodIn_r _ [6] (by decide +kernel) (by decide +kernel)
set_option maxRecDepth 20000 in
theorem gX10_back_X10_in : GoodIn wsX10_back (va_wsS RX10 72 yX10_in wsX10_in) := goodIn_app (goodIn_of _ (by decide +kernel)) ggX10_back_X10_in
set_option maxRecDepth 20000 in
theorem ggX10_back_X10_copy : GoodIn wsX10_back wsX10_copy := goodIn_r _ [10, 2, 11, 12, 13, 14, 15, 16, 17, 18, 19, 20, 21, 22, 23, 24, 25, 26, 27, 28, 29, 30, 31, 32, 33, 34, 35, 36, 37] (by decide +kernel) (by decide +kernel)
set_option maxRecDepth 20000 in
theorem gX10_back_X10_copy : GoodIn wsX10_back (wsV RX10 162 RX10 yX10_copy wsX10_copy) := goodIn_app (goodIn_of _ (by decide +kernel)) ggX10_back_X10_copy
theorem dX10_back_0 : decode cX10_back 0 = .ok (.iload_n 1, 1) := by decide +kernel
theorem dX10_back_1 : decode cX10_back 1 = .ok (.iconst 0, 1) := by decide +kernel
theorem dX10_back_2 : decode cX10_back 2 = .ok (.iconst 1, 1) := by decide +kernel
theorem dX10_back_3 : decode cX10_back 3 = .ok (.invokestatic 72, 3) := by decide +kernel
theorem dX10_back_6 : decode cX10_back 6 = .ok (.ifCond .ne 5, 3) := by decide +kernel
theorem dX10_back_9 : decode cX10_back 9 = .ok (.iconst (-1), 1) := by decide +kernel
theorem dX10_back_10 : decode cX10_back 10 = .ok (.ireturn, 1) := by decide +kernel
theorem dX10_back_11 : decode cX10_back 11 = .ok (.aload_n 0, 1) := by decide +kernel
theorem dX10_back_12 : decode cX10_back 12 = .ok (.getfield 48, 3) := by decide +kernel
theorem dX10_back_15 : decode cX10_back 15 = .ok (.iload_n 1, 1) := by decide +kernel
theorem dX10_back_16 : decode cX10_back 16 = .ok (.baload, 1) := by decide +kernel
theorem dX10_back_17 : decode cX10_back 17 = .ok (.ifCond .ne 6, 3) := by decide +kernel
theorem dX10_back_20 : decode cX10_back 20 = .ok (.bipush (-2), 2) := by decide +kernel
theorem dX10_back_22 : decode cX10_back 22 = .ok (.ireturn, 1) := by decide +kernel
theorem dX10_back_23 : decode cX10_back 23 = .ok (.aload_n 0, 1) := by decide +kernel
theorem dX10_back_24 : decode cX10_back 24 = .ok (.bipush 12, 2) := by decide +kernel
theorem dX10_back_26 : decode cX10_back 26 = .ok (.iconst 2, 1) := by decide +kernel
theorem dX10_back_27 : decode cX10_back 27 = .ok (.iload_n 1, 1) := by decide +kernel
theorem dX10_back_28 : decode cX10_back 28 = .ok (.iadd, 1) := by decide +kernel
theorem dX10_back_29 : decode cX10_back 29 = .ok (.imul, 1) := by decide +kernel
theorem dX10_back_30 : decode cX10_back 30 = .ok (.iconst 0, 1) := by decide +kernel
theorem dX10_back_31 : decode cX10_back 31 = .ok (.invokevirtual 162, 3) := by decide +kernel
theorem dX10_back_34 : decode cX10_back 34 = .ok (.aload_n 0, 1) := by decide +kernel
theorem dX10_back_35 : decode cX10_back 35 = .ok (.getfield 45, 3) := by decide +kernel
theorem dX10_back_38 : decode cX10_back 38 = .ok (.iconst 0, 1) := by decide +kernel
theorem dX10_back_39 : decode cX10_back 39 = .ok (.iaload, 1) := by decide +kernel
theorem dX10_back_40 : decode cX10_back 40 = .ok (.ireturn, 1) := by decide +kernel
theorem dX10_count_0 : decode cX10_count 0 = .ok (.iconst 0, 1) := by decide +kernel
theorem dX10_count_1 : decode cX10_count 1 = .ok (.istore_n 2, 1) := by decide +kernel
theorem dX10_count_2 : decode cX10_count 2 = .ok (.iconst 0, 1) := by decide +kernel
theorem dX10_count_3 : decode cX10_count 3 = .ok (.istore_n 3, 1) := by decide +kernel
theorem dX10_count_4 : decode cX10_count 4 = .ok (.iload_n 3, 1) := by decide +kernel
theorem dX10_count_5 : decode cX10_count 5 = .ok (.bipush 64, 2) := by decide +kernel
theorem dX10_count_7 : decode cX10_count 7 = .ok (.if_icmp .ge 26, 3) := by decide +kernel
theorem dX10_count_10 : decode cX10_count 10 = .ok (.iload_n 2, 1) := by decide +kernel
theorem dX10_count_11 : decode cX10_count 11 = .ok (.aload_n 0, 1) := by decide +kernel
theorem dX10_count_12 : decode cX10_count 12 = .ok (.getfield 29, 3) := by decide +kernel
theorem dX10_count_15 : decode cX10_count 15 = .ok (.iload_n 3, 1) := by decide +kernel
theorem dX10_count_16 : decode cX10_count 16 = .ok (.baload, 1) := by decide +kernel
theorem dX10_count_17 : decode cX10_count 17 = .ok (.ifCond .eq 7, 3) := by decide +kernel
theorem dX10_count_20 : decode cX10_count 20 = .ok (.iconst 1, 1) := by decide +kernel
theorem dX10_count_21 : decode cX10_count 21 = .ok (.goto 4, 3) := by decide +kernel
theorem dX10_count_24 : decode cX10_count 24 = .ok (.iconst 0, 1) := by decide +kernel
theorem dX10_count_25 : decode cX10_count 25 = .ok (.iadd, 1) := by decide +kernel
theorem dX10_count_26 : decode cX10_count 26 = .ok (.istore_n 2, 1) := by decide +kernel
theorem dX10_count_27 : decode cX10_count 27 = .ok (.iinc 3 1, 3) := by decide +kernel
theorem dX10_count_30 : decode cX10_count 30 = .ok (.goto (-26), 3) := by decide +kernel
theorem dX10_count_33 : decode cX10_count 33 = .ok (.iload_n 1, 1) := by decide +kernel
theorem dX10_count_34 : decode cX10_count 34 = .ok (.ifCond .ne 12, 3) := by decide +kernel
theorem dX10_count_37 : decode cX10_count 37 = .ok (.aload_n 0, 1) := by decide +kernel
theorem dX10_count_38 : decode cX10_count 38 = .ok (.getfield 13, 3) := by decide +kernel
theorem dX10_count_41 : decode cX10_count 41 = .ok (.iconst 0, 1) := by decide +kernel
theorem dX10_count_42 : decode cX10_count 42 = .ok (.iaload, 1) := by decide +kernel
theorem dX10_count_43 : decode cX10_count 43 = .ok (.goto 41, 3) := by decide +kernel
theorem dX10_count_46 : decode cX10_count 46 = .ok (.iload_n 1, 1) := by decide +kernel
theorem dX10_count_47 : decode cX10_count 47 = .ok (.iconst 1, 1) := by decide +kernel
theorem dX10_count_48 : decode cX10_count 48 = .ok (.if_icmp .ne 12, 3) := by decide +kernel
theorem dX10_count_51 : decode cX10_count 51 = .ok (.aload_n 0, 1) := by decide +kernel
theorem dX10_count_52 : decode cX10_count 52 = .ok (.getfield 33, 3) := by decide +kernel
theorem dX10_count_55 : decode cX10_count 55 = .ok (.iconst 0, 1) := by decide +kernel
theorem dX10_count_56 : decode cX10_count 56 = .ok (.iaload, 1) := by decide +kernel
theorem dX10_count_57 : decode cX10_count 57 = .ok (.goto 27, 3) := by decide +kernel
theorem dX10_count_60 : decode cX10_count 60 = .ok (.iload_n 1, 1) := by decide +kernel
theorem dX10_count_61 : decode cX10_count 61 = .ok (.iconst 2, 1) := by decide +kernel
theorem dX10_count_62 : decode cX10_count 62 = .ok (.if_icmp .ne 9, 3) := by decide +kernel
theorem dX10_count_65 : decode cX10_count 65 = .ok (.iload_n 2, 1) := by decide +kernel
theorem dX10_count_66 : decode cX10_count 66 = .ok (.iconst 2, 1) := by decide +kernel
theorem dX10_count_67 : decode cX10_count 67 = .ok (.idiv, 1) := by decide +kernel
theorem dX10_count_68 : decode cX10_count 68 = .ok (.goto 16, 3) := by decide +kernel
theorem dX10_count_71 : decode cX10_count 71 = .ok (.iload_n 1, 1) := by decide +kernel
theorem dX10_count_72 : decode cX10_count 72 = .ok (.iconst 3, 1) := by decide +kernel
theorem dX10_count_73 : decode cX10_count 73 = .ok (.if_icmp .ne 10, 3) := by decide +kernel
theorem dX10_count_76 : decode cX10_count 76 = .ok (.aload_n 0, 1) := by decide +kernel
theorem dX10_count_77 : decode cX10_count 77 = .ok (.getfield 76, 3) := by decide +kernel
theorem dX10_count_80 : decode cX10_count 80 = .ok (.goto 4, 3) := by decide +kernel
theorem dX10_count_83 : decode cX10_count 83 = .ok (.iconst (-1), 1) := by decide +kernel
theorem dX10_count_84 : decode cX10_count 84 = .ok (.ireturn, 1) := by decide +kernel
theorem dX10_trace_0 : decode cX10_trace 0 = .ok (.aload_n 0, 1) := by decide +kernel
theorem dX10_trace_1 : decode cX10_trace 1 = .ok (.getfield 201, 3) := by decide +kernel
theorem dX10_trace_4 : decode cX10_trace 4 = .ok (.lreturn, 1) := by decide +kernel
theorem dJ6_numberOfTrailingZeros_0f7a4_0 : decode cJ6_numberOfTrailingZeros_0f7a4 0 = .ok (.iload_n 0, 1) := by decide +kernel
theorem dJ6_numberOfTrailingZeros_0f7a4_1 : decode cJ6_numberOfTrailingZeros_0f7a4 1 = .ok (.iconst (-1), 1) := by decide +kernel
theorem dJ6_numberOfTrailingZeros_0f7a4_2 : decode cJ6_numberOfTrailingZeros_0f7a4 2 = .ok (.ixor, 1) := by decide +kernel
theorem dJ6_numberOfTrailingZeros_0f7a4_3 : decode cJ6_numberOfTrailingZeros_0f7a4 3 = .ok (.iload_n 0, 1) := by decide +kernel
theorem dJ6_numberOfTrailingZeros_0f7a4_4 : decode cJ6_numberOfTrailingZeros_0f7a4 4 = .ok (.iconst 1, 1) := by decide +kernel
theorem dJ6_numberOfTrailingZeros_0f7a4_5 : decode cJ6_numberOfTrailingZeros_0f7a4 5 = .ok (.isub, 1) := by decide +kernel
theorem dJ6_numberOfTrailingZeros_0f7a4_6 : decode cJ6_numberOfTrailingZeros_0f7a4 6 = .ok (.iand, 1) := by decide +kernel
theorem dJ6_numberOfTrailingZeros_0f7a4_7 : decode cJ6_numberOfTrailingZeros_0f7a4 7 = .ok (.istore_n 0, 1) := by decide +kernel
theorem dJ6_numberOfTrailingZeros_0f7a4_8 : decode cJ6_numberOfTrailingZeros_0f7a4 8 = .ok (.iload_n 0, 1) := by decide +kernel
theorem dJ6_numberOfTrailingZeros_0f7a4_9 : decode cJ6_numberOfTrailingZeros_0f7a4 9 = .ok (.ifCond .gt 8, 3) := by decide +kernel
theorem dJ6_numberOfTrailingZeros_0f7a4_12 : decode cJ6_numberOfTrailingZeros_0f7a4 12 = .ok (.iload_n 0, 1) := by decide +kernel
theorem dJ6_numberOfTrailingZeros_0f7a4_13 : decode cJ6_numberOfTrailingZeros_0f7a4 13 = .ok (.bipush 32, 2) := by decide +kernel
theorem dJ6_numberOfTrailingZeros_0f7a4_15 : decode cJ6_numberOfTrailingZeros_0f7a4 15 = .ok (.iand, 1) := by decide +kernel
theorem dJ6_numberOfTrailingZeros_0f7a4_16 : decode cJ6_numberOfTrailingZeros_0f7a4 16 = .ok (.ireturn, 1) := by decide +kernel
theorem dJ6_numberOfTrailingZeros_0f7a4_17 : decode cJ6_numberOfTrailingZeros_0f7a4 17 = .ok (.iconst 1, 1) := by decide +kernel
theorem dJ6_numberOfTrailingZeros_0f7a4_18 : decode cJ6_numberOfTrailingZeros_0f7a4 18 = .ok (.istore_n 1, 1) := by decide +kernel
theorem dJ6_numberOfTrailingZeros_0f7a4_19 : decode cJ6_numberOfTrailingZeros_0f7a4 19 = .ok (.iload_n 0, 1) := by decide +kernel
theorem dJ6_numberOfTrailingZeros_0f7a4_20 : decode cJ6_numberOfTrailingZeros_0f7a4 20 = .ok (.ldc_w 264, 3) := by decide +kernel
theorem dJ6_numberOfTrailingZeros_0f7a4_23 : decode cJ6_numberOfTrailingZeros_0f7a4 23 = .ok (.if_icmp .le 11, 3) := by decide +kernel
theorem dJ6_numberOfTrailingZeros_0f7a4_26 : decode cJ6_numberOfTrailingZeros_0f7a4 26 = .ok (.iinc 1 16, 3) := by decide +kernel
theorem dJ6_numberOfTrailingZeros_0f7a4_29 : decode cJ6_numberOfTrailingZeros_0f7a4 29 = .ok (.iload_n 0, 1) := by decide +kernel
theorem dJ6_numberOfTrailingZeros_0f7a4_30 : decode cJ6_numberOfTrailingZeros_0f7a4 30 = .ok (.bipush 16, 2) := by decide +kernel
theorem dJ6_numberOfTrailingZeros_0f7a4_32 : decode cJ6_numberOfTrailingZeros_0f7a4 32 = .ok (.iushr, 1) := by decide +kernel
theorem dJ6_numberOfTrailingZeros_0f7a4_33 : decode cJ6_numberOfTrailingZeros_0f7a4 33 = .ok (.istore_n 0, 1) := by decide +kernel
theorem dJ6_numberOfTrailingZeros_0f7a4_34 : decode cJ6_numberOfTrailingZeros_0f7a4 34 = .ok (.iload_n 0, 1) := by decide +kernel
theorem dJ6_numberOfTrailingZeros_0f7a4_35 : decode cJ6_numberOfTrailingZeros_0f7a4 35 = .ok (.sipush 256, 3) := by decide +kernel
theorem dJ6_numberOfTrailingZeros_0f7a4_38 : decode cJ6_numberOfTrailingZeros_0f7a4 38 = .ok (.if_icmp .le 11, 3) := by decide +kernel
theorem dJ6_numberOfTrailingZeros_0f7a4_41 : decode cJ6_numberOfTrailingZeros_0f7a4 41 = .ok (.iinc 1 8, 3) := by decide +kernel
theorem dJ6_numberOfTrailingZeros_0f7a4_44 : decode cJ6_numberOfTrailingZeros_0f7a4 44 = .ok (.iload_n 0, 1) := by decide +kernel
theorem dJ6_numberOfTrailingZeros_0f7a4_45 : decode cJ6_numberOfTrailingZeros_0f7a4 45 = .ok (.bipush 8, 2) := by decide +kernel
theorem dJ6_numberOfTrailingZeros_0f7a4_47 : decode cJ6_numberOfTrailingZeros_0f7a4 47 = .ok (.iushr, 1) := by decide +kernel
theorem dJ6_numberOfTrailingZeros_0f7a4_48 : decode cJ6_numberOfTrailingZeros_0f7a4 48 = .ok (.istore_n 0, 1) := by decide +kernel
theorem dJ6_numberOfTrailingZeros_0f7a4_49 : decode cJ6_numberOfTrailingZeros_0f7a4 49 = .ok (.iload_n 0, 1) := by decide +kernel
theorem dJ6_numberOfTrailingZeros_0f7a4_50 : decode cJ6_numberOfTrailingZeros_0f7a4 50 = .ok (.bipush 16, 2) := by decide +kernel
theorem dJ6_numberOfTrailingZeros_0f7a4_52 : decode cJ6_numberOfTrailingZeros_0f7a4 52 = .ok (.if_icmp .le 10, 3) := by decide +kernel
theorem dJ6_numberOfTrailingZeros_0f7a4_55 : decode cJ6_numberOfTrailingZeros_0f7a4 55 = .ok (.iinc 1 4, 3) := by decide +kernel
theorem dJ6_numberOfTrailingZeros_0f7a4_58 : decode cJ6_numberOfTrailingZeros_0f7a4 58 = .ok (.iload_n 0, 1) := by decide +kernel
theorem dJ6_numberOfTrailingZeros_0f7a4_59 : decode cJ6_numberOfTrailingZeros_0f7a4 59 = .ok (.iconst 4, 1) := by decide +kernel
theorem dJ6_numberOfTrailingZeros_0f7a4_60 : decode cJ6_numberOfTrailingZeros_0f7a4 60 = .ok (.iushr, 1) := by decide +kernel
theorem dJ6_numberOfTrailingZeros_0f7a4_61 : decode cJ6_numberOfTrailingZeros_0f7a4 61 = .ok (.istore_n 0, 1) := by decide +kernel
theorem dJ6_numberOfTrailingZeros_0f7a4_62 : decode cJ6_numberOfTrailingZeros_0f7a4 62 = .ok (.iload_n 0, 1) := by decide +kernel
theorem dJ6_numberOfTrailingZeros_0f7a4_63 : decode cJ6_numberOfTrailingZeros_0f7a4 63 = .ok (.iconst 4, 1) := by decide +kernel
theorem dJ6_numberOfTrailingZeros_0f7a4_64 : decode cJ6_numberOfTrailingZeros_0f7a4 64 = .ok (.if_icmp .le 10, 3) := by decide +kernel
theorem dJ6_numberOfTrailingZeros_0f7a4_67 : decode cJ6_numberOfTrailingZeros_0f7a4 67 = .ok (.iinc 1 2, 3) := by decide +kernel
theorem dJ6_numberOfTrailingZeros_0f7a4_70 : decode cJ6_numberOfTrailingZeros_0f7a4 70 = .ok (.iload_n 0, 1) := by decide +kernel
theorem dJ6_numberOfTrailingZeros_0f7a4_71 : decode cJ6_numberOfTrailingZeros_0f7a4 71 = .ok (.iconst 2, 1) := by decide +kernel
theorem dJ6_numberOfTrailingZeros_0f7a4_72 : decode cJ6_numberOfTrailingZeros_0f7a4 72 = .ok (.iushr, 1) := by decide +kernel
theorem dJ6_numberOfTrailingZeros_0f7a4_73 : decode cJ6_numberOfTrailingZeros_0f7a4 73 = .ok (.istore_n 0, 1) := by decide +kernel
theorem dJ6_numberOfTrailingZeros_0f7a4_74 : decode cJ6_numberOfTrailingZeros_0f7a4 74 = .ok (.iload_n 1, 1) := by decide +kernel
theorem dJ6_numberOfTrailingZeros_0f7a4_75 : decode cJ6_numberOfTrailingZeros_0f7a4 75 = .ok (.iload_n 0, 1) := by decide +kernel
theorem dJ6_numberOfTrailingZeros_0f7a4_76 : decode cJ6_numberOfTrailingZeros_0f7a4 76 = .ok (.iconst 1, 1) := by decide +kernel
theorem dJ6_numberOfTrailingZeros_0f7a4_77 : decode cJ6_numberOfTrailingZeros_0f7a4 77 = .ok (.iushr, 1) := by decide +kernel
theorem dJ6_numberOfTrailingZeros_0f7a4_78 : decode cJ6_numberOfTrailingZeros_0f7a4 78 = .ok (.iadd, 1) := by decide +kernel
theorem dJ6_numberOfTrailingZeros_0f7a4_79 : decode cJ6_numberOfTrailingZeros_0f7a4 79 = .ok (.ireturn, 1) := by decide +kernel
theorem dJ6_bitCount_0f7a4_0 : decode cJ6_bitCount_0f7a4 0 = .ok (.iload_n 0, 1) := by decide +kernel
theorem dJ6_bitCount_0f7a4_1 : decode cJ6_bitCount_0f7a4 1 = .ok (.iload_n 0, 1) := by decide +kernel
theorem dJ6_bitCount_0f7a4_2 : decode cJ6_bitCount_0f7a4 2 = .ok (.iconst 1, 1) := by decide +kernel
theorem dJ6_bitCount_0f7a4_3 : decode cJ6_bitCount_0f7a4 3 = .ok (.iushr, 1) := by decide +kernel
theorem dJ6_bitCount_0f7a4_4 : decode cJ6_bitCount_0f7a4 4 = .ok (.ldc_w 265, 3) := by decide +kernel
theorem dJ6_bitCount_0f7a4_7 : decode cJ6_bitCount_0f7a4 7 = .ok (.iand, 1) := by decide +kernel
theorem dJ6_bitCount_0f7a4_8 : decode cJ6_bitCount_0f7a4 8 = .ok (.isub, 1) := by decide +kernel
theorem dJ6_bitCount_0f7a4_9 : decode cJ6_bitCount_0f7a4 9 = .ok (.istore_n 0, 1) := by decide +kernel
theorem dJ6_bitCount_0f7a4_10 : decode cJ6_bitCount_0f7a4 10 = .ok (.iload_n 0, 1) := by decide +kernel
theorem dJ6_bitCount_0f7a4_11 : decode cJ6_bitCount_0f7a4 11 = .ok (.ldc_w 266, 3) := by decide +kernel
theorem dJ6_bitCount_0f7a4_14 : decode cJ6_bitCount_0f7a4 14 = .ok (.iand, 1) := by decide +kernel
theorem dJ6_bitCount_0f7a4_15 : decode cJ6_bitCount_0f7a4 15 = .ok (.iload_n 0, 1) := by decide +kernel
theorem dJ6_bitCount_0f7a4_16 : decode cJ6_bitCount_0f7a4 16 = .ok (.iconst 2, 1) := by decide +kernel
theorem dJ6_bitCount_0f7a4_17 : decode cJ6_bitCount_0f7a4 17 = .ok (.iushr, 1) := by decide +kernel
theorem dJ6_bitCount_0f7a4_18 : decode cJ6_bitCount_0f7a4 18 = .ok (.ldc_w 266, 3) := by decide +kernel
theorem dJ6_bitCount_0f7a4_21 : decode cJ6_bitCount_0f7a4 21 = .ok (.iand, 1) := by decide +kernel
theorem dJ6_bitCount_0f7a4_22 : decode cJ6_bitCount_0f7a4 22 = .ok (.iadd, 1) := by decide +kernel
theorem dJ6_bitCount_0f7a4_23 : decode cJ6_bitCount_0f7a4 23 = .ok (.istore_n 0, 1) := by decide +kernel
theorem dJ6_bitCount_0f7a4_24 : decode cJ6_bitCount_0f7a4 24 = .ok (.iload_n 0, 1) := by decide +kernel
theorem dJ6_bitCount_0f7a4_25 : decode cJ6_bitCount_0f7a4 25 = .ok (.iload_n 0, 1) := by decide +kernel
theorem dJ6_bitCount_0f7a4_26 : decode cJ6_bitCount_0f7a4 26 = .ok (.iconst 4, 1) := by decide +kernel
theorem dJ6_bitCount_0f7a4_27 : decode cJ6_bitCount_0f7a4 27 = .ok (.iushr, 1) := by decide +kernel
theorem dJ6_bitCount_0f7a4_28 : decode cJ6_bitCount_0f7a4 28 = .ok (.iadd, 1) := by decide +kernel
theorem dJ6_bitCount_0f7a4_29 : decode cJ6_bitCount_0f7a4 29 = .ok (.ldc_w 267, 3) := by decide +kernel
theorem dJ6_bitCount_0f7a4_32 : decode cJ6_bitCount_0f7a4 32 = .ok (.iand, 1) := by decide +kernel
theorem dJ6_bitCount_0f7a4_33 : decode cJ6_bitCount_0f7a4 33 = .ok (.istore_n 0, 1) := by decide +kernel
theorem dJ6_bitCount_0f7a4_34 : decode cJ6_bitCount_0f7a4 34 = .ok (.iload_n 0, 1) := by decide +kernel
theorem dJ6_bitCount_0f7a4_35 : decode cJ6_bitCount_0f7a4 35 = .ok (.iload_n 0, 1) := by decide +kernel
theorem dJ6_bitCount_0f7a4_36 : decode cJ6_bitCount_0f7a4 36 = .ok (.bipush 8, 2) := by decide +kernel
theorem dJ6_bitCount_0f7a4_38 : decode cJ6_bitCount_0f7a4 38 = .ok (.iushr, 1) := by decide +kernel
theorem dJ6_bitCount_0f7a4_39 : decode cJ6_bitCount_0f7a4 39 = .ok (.iadd, 1) := by decide +kernel
theorem dJ6_bitCount_0f7a4_40 : decode cJ6_bitCount_0f7a4 40 = .ok (.istore_n 0, 1) := by decide +kernel
theorem dJ6_bitCount_0f7a4_41 : decode cJ6_bitCount_0f7a4 41 = .ok (.iload_n 0, 1) := by decide +kernel
theorem dJ6_bitCount_0f7a4_42 : decode cJ6_bitCount_0f7a4 42 = .ok (.iload_n 0, 1) := by decide +kernel
theorem dJ6_bitCount_0f7a4_43 : decode cJ6_bitCount_0f7a4 43 = .ok (.bipush 16, 2) := by decide +kernel
theorem dJ6_bitCount_0f7a4_45 : decode cJ6_bitCount_0f7a4 45 = .ok (.iushr, 1) := by decide +kernel
theorem dJ6_bitCount_0f7a4_46 : decode cJ6_bitCount_0f7a4 46 = .ok (.iadd, 1) := by decide +kernel
theorem dJ6_bitCount_0f7a4_47 : decode cJ6_bitCount_0f7a4 47 = .ok (.istore_n 0, 1) := by decide +kernel
theorem dJ6_bitCount_0f7a4_48 : decode cJ6_bitCount_0f7a4 48 = .ok (.iload_n 0, 1) := by decide +kernel
theorem dJ6_bitCount_0f7a4_49 : decode cJ6_bitCount_0f7a4 49 = .ok (.bipush 63, 2) := by decide +kernel
theorem dJ6_bitCount_0f7a4_51 : decode cJ6_bitCount_0f7a4 51 = .ok (.iand, 1) := by decide +kernel
theorem dJ6_bitCount_0f7a4_52 : decode cJ6_bitCount_0f7a4 52 = .ok (.ireturn, 1) := by decide +kernel
theorem dJ9_abs_0f7a4_0 : decode cJ9_abs_0f7a4 0 = .ok (.iload_n 0, 1) := by decide +kernel
theorem dJ9_abs_0f7a4_1 : decode cJ9_abs_0f7a4 1 = .ok (.ifCond .ge 8, 3) := by decide +kernel
theorem dJ9_abs_0f7a4_4 : decode cJ9_abs_0f7a4 4 = .ok (.iload_n 0, 1) := by decide +kernel
theorem dJ9_abs_0f7a4_5 : decode cJ9_abs_0f7a4 5 = .ok (.ineg, 1) := by decide +kernel
theorem dJ9_abs_0f7a4_6 : decode cJ9_abs_0f7a4 6 = .ok (.goto 4, 3) := by decide +kernel
theorem dJ9_abs_0f7a4_9 : decode cJ9_abs_0f7a4 9 = .ok (.iload_n 0, 1) := by decide +kernel
theorem dJ9_abs_0f7a4_10 : decode cJ9_abs_0f7a4 10 = .ok (.ireturn, 1) := by decide +kernel
theorem dJ9_max_7cf53_0 : decode cJ9_max_7cf53 0 = .ok (.iload_n 0, 1) := by decide +kernel
theorem dJ9_max_7cf53_1 : decode cJ9_max_7cf53 1 = .ok (.iload_n 1, 1) := by decide +kernel
theorem dJ9_max_7cf53_2 : decode cJ9_max_7cf53 2 = .ok (.if_icmp .lt 7, 3) := by decide +kernel
theorem dJ9_max_7cf53_5 : decode cJ9_max_7cf53 5 = .ok (.iload_n 0, 1) := by decide +kernel
theorem dJ9_max_7cf53_6 : decode cJ9_max_7cf53 6 = .ok (.goto 4, 3) := by decide +kernel
theorem dJ9_max_7cf53_9 : decode cJ9_max_7cf53 9 = .ok (.iload_n 1, 1) := by decide +kernel
theorem dJ9_max_7cf53_10 : decode cJ9_max_7cf53 10 = .ok (.ireturn, 1) := by decide +kernel
theorem dJ9_min_7cf53_0 : decode cJ9_min_7cf53 0 = .ok (.iload_n 0, 1) := by decide +kernel
theorem dJ9_min_7cf53_1 : decode cJ9_min_7cf53 1 = .ok (.iload_n 1, 1) := by decide +kernel
theorem dJ9_min_7cf53_2 : decode cJ9_min_7cf53 2 = .ok (.if_icmp .gt 7, 3) := by decide +kernel
theorem dJ9_min_7cf53_5 : decode cJ9_min_7cf53 5 = .ok (.iload_n 0, 1) := by decide +kernel
theorem dJ9_min_7cf53_6 : decode cJ9_min_7cf53 6 = .ok (.goto 4, 3) := by decide +kernel
theorem dJ9_min_7cf53_9 : decode cJ9_min_7cf53 9 = .ok (.iload_n 1, 1) := by decide +kernel
theorem dJ9_min_7cf53_10 : decode cJ9_min_7cf53 10 = .ok (.ireturn, 1) := by decide +kernel
set_option maxRecDepth 20000 in
theorem ggJ0_length_8abf5_J0_coder_7d493 : GoodIn wsJ0_length_8abf5 wsJ0_coder_7d493 := goodIn_r _ [6, 7, 8] (by decide +kernel) (by decide +kernel)
set_option maxRecDepth 20000 in
theorem gJ0_length_8abf5_J0_coder_7d493 : GoodIn wsJ0_length_8abf5 (wsV RJ0 335 RJ0 yJ0_coder_7d493 wsJ0_coder_7d493) := goodIn_app (goodIn_of _ (by decide +kernel)) ggJ0_length_8abf5_J0_coder_7d493
theorem dJ0_length_8abf5_0 : decode cJ0_length_8abf5 0 = .ok (.aload_n 0, 1) := by decide +kernel
theorem dJ0_length_8abf5_1 : decode cJ0_length_8abf5 1 = .ok (.getfield 9, 3) := by decide +kernel
theorem dJ0_length_8abf5_4 : decode cJ0_length_8abf5 4 = .ok (.arraylength, 1) := by decide +kernel
theorem dJ0_length_8abf5_5 : decode cJ0_length_8abf5 5 = .ok (.aload_n 0, 1) := by decide +kernel
theorem dJ0_length_8abf5_6 : decode cJ0_length_8abf5 6 = .ok (.invokevirtual 335, 3) := by decide +kernel
theorem dJ0_length_8abf5_9 : decode cJ0_length_8abf5 9 = .ok (.ishr, 1) := by decide +kernel
theorem dJ0_length_8abf5_10 : decode cJ0_length_8abf5 10 = .ok (.ireturn, 1) := by decide +kernel
set_option maxRecDepth 20000 in
theorem ggJ0_charAt_5068e_J0_isLatin1_aae02 : GoodIn wsJ0_charAt_5068e wsJ0_isLatin1_aae02 := goodIn_r _ [6, 7, 8] (by decide +kernel) (by decide +kernel)
set_option maxRecDepth 20000 in
theorem gJ0_charAt_5068e_J0_isLatin1_aae02 : GoodIn wsJ0_charAt_5068e (wsV RJ0 492 RJ0 yJ0_isLatin1_aae02 wsJ0_isLatin1_aae02) := goodIn_app (goodIn_of _ (by decide +kernel)) ggJ0_charAt_5068e_J0_isLatin1_aae02
set_option maxRecDepth 20000 in
theorem ggJ0_charAt_5068e_J1_charAt_3b067 : GoodIn wsJ0_charAt_5068e wsJ1_charAt_3b067 := goodIn_r _ [12, 13, 14, 5, 15, 16, 17, 18, 19, 20] (by decide +kernel) (by decide +kernel)
set_option maxRecDepth 20000 in
theorem gJ0_charAt_5068e_J1_charAt_3b067 : GoodIn wsJ0_charAt_5068e (va_wsS RJ0 495 yJ1_charAt_3b067 wsJ1_charAt_3b067) := goodIn_app (goodIn_of _ (by decide +kernel)) ggJ0_charAt_5068e_J1_charAt_3b067
set_option maxRecDepth 20000 in
theorem ggJ0_charAt_5068e_J2_charAt_3b067 : GoodIn wsJ0_charAt_5068e wsJ2_charAt_3b067 := goodIn_r _ [24, 25, 26, 23, 27, 28, 29, 30, 31, 14, 5, 15, 16, 17, 18, 19, 20, 32, 33, 34, 35, 36, 37] (by decide +kernel) (by decide +kernel)
set_option maxRecDepth 20000 in
theorem gJ0_charAt_5068e_J2_charAt_3b067 : GoodIn wsJ0_charAt_5068e (va_wsS RJ0 498 yJ2_charAt_3b067 wsJ2_charAt_3b067) := goodIn_app (goodIn_of _ (by decide +kernel)) ggJ0_charAt_5068e_J2_charAt_3b067
theorem dJ0_charAt_5068e_0 : decode cJ0_charAt_5068e 0 = .ok (.aload_n 0, 1) := by decide +kernel
theorem dJ0_charAt_5068e_1 : decode cJ0_charAt_5068e 1 = .ok (.invokevirtual 492, 3) := by decide +kernel
theorem dJ0_charAt_5068e_4 : decode cJ0_charAt_5068e 4 = .ok (.ifCond .eq 12, 3) := by decide +kernel
theorem dJ0_charAt_5068e_7 : decode cJ0_charAt_5068e 7 = .ok (.aload_n 0, 1) := by decide +kernel
theorem dJ0_charAt_5068e_8 : decode cJ0_charAt_5068e 8 = .ok (.getfield 9, 3) := by decide +kernel
theorem dJ0_charAt_5068e_11 : decode cJ0_charAt_5068e 11 = .ok (.iload_n 1, 1) := by decide +kernel
theorem dJ0_charAt_5068e_12 : decode cJ0_charAt_5068e 12 = .ok (.invokestatic 495, 3) := by decide +kernel
theorem dJ0_charAt_5068e_15 : decode cJ0_charAt_5068e 15 = .ok (.ireturn, 1) := by decide +kernel
theorem dJ0_charAt_5068e_16 : decode cJ0_charAt_5068e 16 = .ok (.aload_n 0, 1) := by decide +kernel
theorem dJ0_charAt_5068e_17 : decode cJ0_charAt_5068e 17 = .ok (.getfield 9, 3) := by decide +kernel
theorem dJ0_charAt_5068e_20 : decode cJ0_charAt_5068e 20 = .ok (.iload_n 1, 1) := by decide +kernel
theorem dJ0_charAt_5068e_21 : decode cJ0_charAt_5068e 21 = .ok (.invokestatic 498, 3) := by decide +kernel
theorem dJ0_charAt_5068e_24 : decode cJ0_charAt_5068e 24 = .ok (.ireturn, 1) := by decide +kernel
theorem dJ0_coder_7d493_0 : decode cJ0_coder_7d493 0 = .ok (.getstatic 38, 3) := by decide +kernel
theorem dJ0_coder_7d493_3 : decode cJ0_coder_7d493 3 = .ok (.ifCond .eq 10, 3) := by decide +kernel
theorem dJ0_coder_7d493_6 : decode cJ0_coder_7d493 6 = .ok (.aload_n 0, 1) := by decide +kernel
theorem dJ0_coder_7d493_7 : decode cJ0_coder_7d493 7 = .ok (.getfield 15, 3) := by decide +kernel
theorem dJ0_coder_7d493_10 : decode cJ0_coder_7d493 10 = .ok (.goto 4, 3) := by decide +kernel
theorem dJ0_coder_7d493_13 : decode cJ0_coder_7d493 13 = .ok (.iconst 1, 1) := by decide +kernel
theorem dJ0_coder_7d493_14 : decode cJ0_coder_7d493 14 = .ok (.ireturn, 1) := by decide +kernel
theorem dJ0_isLatin1_aae02_0 : decode cJ0_isLatin1_aae02 0 = .ok (.getstatic 38, 3) := by decide +kernel
theorem dJ0_isLatin1_aae02_3 : decode cJ0_isLatin1_aae02 3 = .ok (.ifCond .eq 14, 3) := by decide +kernel
theorem dJ0_isLatin1_aae02_6 : decode cJ0_isLatin1_aae02 6 = .ok (.aload_n 0, 1) := by decide +kernel
theorem dJ0_isLatin1_aae02_7 : decode cJ0_isLatin1_aae02 7 = .ok (.getfield 15, 3) := by decide +kernel
theorem dJ0_isLatin1_aae02_10 : decode cJ0_isLatin1_aae02 10 = .ok (.ifCond .ne 7, 3) := by decide +kernel
theorem dJ0_isLatin1_aae02_13 : decode cJ0_isLatin1_aae02 13 = .ok (.iconst 1, 1) := by decide +kernel
theorem dJ0_isLatin1_aae02_14 : decode cJ0_isLatin1_aae02 14 = .ok (.goto 4, 3) := by decide +kernel
theorem dJ0_isLatin1_aae02_17 : decode cJ0_isLatin1_aae02 17 = .ok (.iconst 0, 1) := by decide +kernel
theorem dJ0_isLatin1_aae02_18 : decode cJ0_isLatin1_aae02 18 = .ok (.ireturn, 1) := by decide +kernel
set_option maxRecDepth 20000 in
theorem ggJ0_checkIndex_df160_J3_checkIndex_8e157 : GoodIn wsJ0_checkIndex_df160 wsJ3_checkIndex_8e157 := goodIn_r _ [5] (by decide +kernel) (by decide +kernel)
set_option maxRecDepth 20000 in
theorem gJ0_checkIndex_df160_J3_checkIndex_8e157 : GoodIn wsJ0_checkIndex_df160 (va_wsS RJ0 1059 yJ3_checkIndex_8e157 wsJ3_checkIndex_8e157) := goodIn_app (goodIn_of _ (by decide +kernel)) ggJ0_checkIndex_df160_J3_checkIndex_8e157
theorem dJ0_checkIndex_df160_0 : decode cJ0_checkIndex_df160 0 = .ok (.iload_n 0, 1) := by decide +kernel
theorem dJ0_checkIndex_df160_1 : decode cJ0_checkIndex_df160 1 = .ok (.iload_n 1, 1) := by decide +kernel
theorem dJ0_checkIndex_df160_2 : decode cJ0_checkIndex_df160 2 = .ok (.getstatic 1053, 3) := by decide +kernel
theorem dJ0_checkIndex_df160_5 : decode cJ0_checkIndex_df160 5 = .ok (.invokestatic 1059, 3) := by decide +kernel
theorem dJ0_checkIndex_df160_8 : decode cJ0_checkIndex_df160 8 = .ok (.pop, 1) := by decide +kernel
theorem dJ0_checkIndex_df160_9 : decode cJ0_checkIndex_df160 9 = .ok (.return_, 1) := by decide +kernel
set_option maxRecDepth 20000 in
theorem ggJ1_charAt_3b067_J0_checkIndex_df160 : GoodIn wsJ1_charAt_3b067 wsJ0_checkIndex_df160 := goodIn_r _ [4, 5, 6, 7, 8, 9] (by decide +kernel) (by decide +kernel)
set_option maxRecDepth 20000 in
theorem gJ1_charAt_3b067_J0_checkIndex_df160 : GoodIn wsJ1_charAt_3b067 (va_wsS RJ1 9 yJ0_checkIndex_df160 wsJ0_checkIndex_df160) := goodIn_app (goodIn_of _ (by decide +kernel)) ggJ1_charAt_3b067_J0_checkIndex_df160
theorem dJ1_charAt_3b067_0 : decode cJ1_charAt_3b067 0 = .ok (.iload_n 1, 1) := by decide +kernel
theorem dJ1_charAt_3b067_1 : decode cJ1_charAt_3b067 1 = .ok (.aload_n 0, 1) := by decide +kernel
theorem dJ1_charAt_3b067_2 : decode cJ1_charAt_3b067 2 = .ok (.arraylength, 1) := by decide +kernel
theorem dJ1_charAt_3b067_3 : decode cJ1_charAt_3b067 3 = .ok (.invokestatic 9, 3) := by decide +kernel
theorem dJ1_charAt_3b067_6 : decode cJ1_charAt_3b067 6 = .ok (.aload_n 0, 1) := by decide +kernel
theorem dJ1_charAt_3b067_7 : decode cJ1_charAt_3b067 7 = .ok (.iload_n 1, 1) := by decide +kernel
theorem dJ1_charAt_3b067_8 : decode cJ1_charAt_3b067 8 = .ok (.baload, 1) := by decide +kernel
theorem dJ1_charAt_3b067_9 : decode cJ1_charAt_3b067 9 = .ok (.sipush 255, 3) := by decide +kernel
theorem dJ1_charAt_3b067_12 : decode cJ1_charAt_3b067 12 = .ok (.iand, 1) := by decide +kernel
end
section
theorem dJ1_charAt_3b067_13 : decode cJ1_charAt_3b067 13 = .ok (.i2c, 1) := by decide +kernel
theorem dJ1_charAt_3b067_14 : decode cJ1_charAt_3b067 14 = .ok (.ireturn, 1) := by decide +kernel
set_option maxRecDepth 20000 in
theorem ggJ2_getChar_3b067_J2_length_9d52b : GoodIn wsJ2_getChar_3b067 wsJ2_length_9d52b := goodIn_r _ [7] (by decide +kernel) (by decide +kernel)
set_option maxRecDepth 20000 in
theorem gJ2_getChar_3b067_J2_length_9d52b : GoodIn wsJ2_getChar_3b067 (va_wsS RJ2 48 yJ2_length_9d52b wsJ2_length_9d52b) := goodIn_app (goodIn_of _ (by decide +kernel)) ggJ2_getChar_3b067_J2_length_9d52b
theorem dJ2_getChar_3b067_0 : decode cJ2_getChar_3b067 0 = .ok (.getstatic 44, 3) := by decide +kernel
theorem dJ2_getChar_3b067_3 : decode cJ2_getChar_3b067 3 = .ok (.ifCond .ne 25, 3) := by decide +kernel
theorem dJ2_getChar_3b067_6 : decode cJ2_getChar_3b067 6 = .ok (.iload_n 1, 1) := by decide +kernel
theorem dJ2_getChar_3b067_7 : decode cJ2_getChar_3b067 7 = .ok (.ifCond .lt 11, 3) := by decide +kernel
theorem dJ2_getChar_3b067_10 : decode cJ2_getChar_3b067 10 = .ok (.iload_n 1, 1) := by decide +kernel
theorem dJ2_getChar_3b067_11 : decode cJ2_getChar_3b067 11 = .ok (.aload_n 0, 1) := by decide +kernel
theorem dJ2_getChar_3b067_12 : decode cJ2_getChar_3b067 12 = .ok (.invokestatic 48, 3) := by decide +kernel
theorem dJ2_getChar_3b067_15 : decode cJ2_getChar_3b067 15 = .ok (.if_icmp .lt 13, 3) := by decide +kernel
theorem dJ2_getChar_3b067_18 : decode cJ2_getChar_3b067 18 = .ok (.new 52, 3) := by decide +kernel
theorem dJ2_getChar_3b067_21 : decode cJ2_getChar_3b067 21 = .ok (.dup, 1) := by decide +kernel
theorem dJ2_getChar_3b067_22 : decode cJ2_getChar_3b067 22 = .ok (.ldc 54, 2) := by decide +kernel
theorem dJ2_getChar_3b067_24 : decode cJ2_getChar_3b067 24 = .ok (.invokespecial 56, 3) := by decide +kernel
theorem dJ2_getChar_3b067_27 : decode cJ2_getChar_3b067 27 = .ok (.athrow, 1) := by decide +kernel
theorem dJ2_getChar_3b067_28 : decode cJ2_getChar_3b067 28 = .ok (.iload_n 1, 1) := by decide +kernel
theorem dJ2_getChar_3b067_29 : decode cJ2_getChar_3b067 29 = .ok (.iconst 1, 1) := by decide +kernel
theorem dJ2_getChar_3b067_30 : decode cJ2_getChar_3b067 30 = .ok (.ishl, 1) := by decide +kernel
theorem dJ2_getChar_3b067_31 : decode cJ2_getChar_3b067 31 = .ok (.istore_n 1, 1) := by decide +kernel
theorem dJ2_getChar_3b067_32 : decode cJ2_getChar_3b067 32 = .ok (.aload_n 0, 1) := by decide +kernel
theorem dJ2_getChar_3b067_33 : decode cJ2_getChar_3b067 33 = .ok (.iload_n 1, 1) := by decide +kernel
theorem dJ2_getChar_3b067_34 : decode cJ2_getChar_3b067 34 = .ok (.iinc 1 1, 3) := by decide +kernel
theorem dJ2_getChar_3b067_37 : decode cJ2_getChar_3b067 37 = .ok (.baload, 1) := by decide +kernel
theorem dJ2_getChar_3b067_38 : decode cJ2_getChar_3b067 38 = .ok (.sipush 255, 3) := by decide +kernel
theorem dJ2_getChar_3b067_41 : decode cJ2_getChar_3b067 41 = .ok (.iand, 1) := by decide +kernel
theorem dJ2_getChar_3b067_42 : decode cJ2_getChar_3b067 42 = .ok (.getstatic 59, 3) := by decide +kernel
theorem dJ2_getChar_3b067_45 : decode cJ2_getChar_3b067 45 = .ok (.ishl, 1) := by decide +kernel
theorem dJ2_getChar_3b067_46 : decode cJ2_getChar_3b067 46 = .ok (.aload_n 0, 1) := by decide +kernel
theorem dJ2_getChar_3b067_47 : decode cJ2_getChar_3b067 47 = .ok (.iload_n 1, 1) := by decide +kernel
theorem dJ2_getChar_3b067_48 : decode cJ2_getChar_3b067 48 = .ok (.baload, 1) := by decide +kernel
theorem dJ2_getChar_3b067_49 : decode cJ2_getChar_3b067 49 = .ok (.sipush 255, 3) := by decide +kernel
theorem dJ2_getChar_3b067_52 : decode cJ2_getChar_3b067 52 = .ok (.iand, 1) := by decide +kernel
theorem dJ2_getChar_3b067_53 : decode cJ2_getChar_3b067 53 = .ok (.getstatic 63, 3) := by decide +kernel
theorem dJ2_getChar_3b067_56 : decode cJ2_getChar_3b067 56 = .ok (.ishl, 1) := by decide +kernel
theorem dJ2_getChar_3b067_57 : decode cJ2_getChar_3b067 57 = .ok (.ior, 1) := by decide +kernel
theorem dJ2_getChar_3b067_58 : decode cJ2_getChar_3b067 58 = .ok (.i2c, 1) := by decide +kernel
theorem dJ2_getChar_3b067_59 : decode cJ2_getChar_3b067 59 = .ok (.ireturn, 1) := by decide +kernel
theorem dJ2_length_9d52b_0 : decode cJ2_length_9d52b 0 = .ok (.aload_n 0, 1) := by decide +kernel
theorem dJ2_length_9d52b_1 : decode cJ2_length_9d52b 1 = .ok (.arraylength, 1) := by decide +kernel
theorem dJ2_length_9d52b_2 : decode cJ2_length_9d52b 2 = .ok (.iconst 1, 1) := by decide +kernel
theorem dJ2_length_9d52b_3 : decode cJ2_length_9d52b 3 = .ok (.ishr, 1) := by decide +kernel
theorem dJ2_length_9d52b_4 : decode cJ2_length_9d52b 4 = .ok (.ireturn, 1) := by decide +kernel
set_option maxRecDepth 20000 in
theorem ggJ2_charAt_3b067_J2_checkIndex_2214a : GoodIn wsJ2_charAt_3b067 wsJ2_checkIndex_2214a := goodIn_r _ [4, 5, 6, 3, 7, 8, 9, 10, 11, 12, 13, 14, 15, 16] (by decide +kernel) (by decide +kernel)
set_option maxRecDepth 20000 in
theorem gJ2_charAt_3b067_J2_checkIndex_2214a : GoodIn wsJ2_charAt_3b067 (va_wsS RJ2 67 yJ2_checkIndex_2214a wsJ2_checkIndex_2214a) := goodIn_app (goodIn_of _ (by decide +kernel)) ggJ2_charAt_3b067_J2_checkIndex_2214a
set_option maxRecDepth 20000 in
theorem ggJ2_charAt_3b067_J2_getChar_3b067 : GoodIn wsJ2_charAt_3b067 wsJ2_getChar_3b067 := goodIn_r _ [19, 20, 21, 22, 5, 6, 3, 7] (by decide +kernel) (by decide +kernel)
set_option maxRecDepth 20000 in
theorem gJ2_charAt_3b067_J2_getChar_3b067 : GoodIn wsJ2_charAt_3b067 (va_wsS RJ2 71 yJ2_getChar_3b067 wsJ2_getChar_3b067) := goodIn_app (goodIn_of _ (by decide +kernel)) ggJ2_charAt_3b067_J2_getChar_3b067
theorem dJ2_charAt_3b067_0 : decode cJ2_charAt_3b067 0 = .ok (.iload_n 1, 1) := by decide +kernel
theorem dJ2_charAt_3b067_1 : decode cJ2_charAt_3b067 1 = .ok (.aload_n 0, 1) := by decide +kernel
theorem dJ2_charAt_3b067_2 : decode cJ2_charAt_3b067 2 = .ok (.invokestatic 67, 3) := by decide +kernel
theorem dJ2_charAt_3b067_5 : decode cJ2_charAt_3b067 5 = .ok (.aload_n 0, 1) := by decide +kernel
theorem dJ2_charAt_3b067_6 : decode cJ2_charAt_3b067 6 = .ok (.iload_n 1, 1) := by decide +kernel
theorem dJ2_charAt_3b067_7 : decode cJ2_charAt_3b067 7 = .ok (.invokestatic 71, 3) := by decide +kernel
theorem dJ2_charAt_3b067_10 : decode cJ2_charAt_3b067 10 = .ok (.ireturn, 1) := by decide +kernel
set_option maxRecDepth 20000 in
theorem ggJ2_checkIndex_2214a_J2_length_9d52b : GoodIn wsJ2_checkIndex_2214a wsJ2_length_9d52b := goodIn_r _ [4] (by decide +kernel) (by decide +kernel)
set_option maxRecDepth 20000 in
theorem gJ2_checkIndex_2214a_J2_length_9d52b : GoodIn wsJ2_checkIndex_2214a (va_wsS RJ2 48 yJ2_length_9d52b wsJ2_length_9d52b) := goodIn_app (goodIn_of _ (by decide +kernel)) ggJ2_checkIndex_2214a_J2_length_9d52b
set_option maxRecDepth 20000 in
theorem ggJ2_checkIndex_2214a_J0_checkIndex_df160 : GoodIn wsJ2_checkIndex_2214a wsJ0_checkIndex_df160 := goodIn_r _ [8, 9, 10, 11, 12, 13] (by decide +kernel) (by decide +kernel)
set_option maxRecDepth 20000 in
theorem gJ2_checkIndex_2214a_J0_checkIndex_df160 : GoodIn wsJ2_checkIndex_2214a (va_wsS RJ2 414 yJ0_checkIndex_df160 wsJ0_checkIndex_df160) := goodIn_app (goodIn_of _ (by decide +kernel)) ggJ2_checkIndex_2214a_J0_checkIndex_df160
theorem dJ2_checkIndex_2214a_0 : decode cJ2_checkIndex_2214a 0 = .ok (.iload_n 0, 1) := by decide +kernel
theorem dJ2_checkIndex_2214a_1 : decode cJ2_checkIndex_2214a 1 = .ok (.aload_n 1, 1) := by decide +kernel
theorem dJ2_checkIndex_2214a_2 : decode cJ2_checkIndex_2214a 2 = .ok (.invokestatic 48, 3) := by decide +kernel
theorem dJ2_checkIndex_2214a_5 : decode cJ2_checkIndex_2214a 5 = .ok (.invokestatic 414, 3) := by decide +kernel
theorem dJ2_checkIndex_2214a_8 : decode cJ2_checkIndex_2214a 8 = .ok (.return_, 1) := by decide +kernel
theorem dJ7_fill_53178_0 : decode cJ7_fill_53178 0 = .ok (.iconst 0, 1) := by decide +kernel
theorem dJ7_fill_53178_1 : decode cJ7_fill_53178 1 = .ok (.istore_n 2, 1) := by decide +kernel
theorem dJ7_fill_53178_2 : decode cJ7_fill_53178 2 = .ok (.aload_n 0, 1) := by decide +kernel
theorem dJ7_fill_53178_3 : decode cJ7_fill_53178 3 = .ok (.arraylength, 1) := by decide +kernel
theorem dJ7_fill_53178_4 : decode cJ7_fill_53178 4 = .ok (.istore_n 3, 1) := by decide +kernel
theorem dJ7_fill_53178_5 : decode cJ7_fill_53178 5 = .ok (.iload_n 2, 1) := by decide +kernel
theorem dJ7_fill_53178_6 : decode cJ7_fill_53178 6 = .ok (.iload_n 3, 1) := by decide +kernel
theorem dJ7_fill_53178_7 : decode cJ7_fill_53178 7 = .ok (.if_icmp .ge 13, 3) := by decide +kernel
theorem dJ7_fill_53178_10 : decode cJ7_fill_53178 10 = .ok (.aload_n 0, 1) := by decide +kernel
theorem dJ7_fill_53178_11 : decode cJ7_fill_53178 11 = .ok (.iload_n 2, 1) := by decide +kernel
theorem dJ7_fill_53178_12 : decode cJ7_fill_53178 12 = .ok (.iload_n 1, 1) := by decide +kernel
theorem dJ7_fill_53178_13 : decode cJ7_fill_53178 13 = .ok (.iastore, 1) := by decide +kernel
theorem dJ7_fill_53178_14 : decode cJ7_fill_53178 14 = .ok (.iinc 2 1, 3) := by decide +kernel
theorem dJ7_fill_53178_17 : decode cJ7_fill_53178 17 = .ok (.goto (-12), 3) := by decide +kernel
theorem dJ7_fill_53178_20 : decode cJ7_fill_53178 20 = .ok (.return_, 1) := by decide +kernel
theorem dJ3_checkIndex_8e157_0 : decode cJ3_checkIndex_8e157 0 = .ok (.iload_n 0, 1) := by decide +kernel
theorem dJ3_checkIndex_8e157_1 : decode cJ3_checkIndex_8e157 1 = .ok (.ifCond .lt 8, 3) := by decide +kernel
theorem dJ3_checkIndex_8e157_4 : decode cJ3_checkIndex_8e157 4 = .ok (.iload_n 0, 1) := by decide +kernel
theorem dJ3_checkIndex_8e157_5 : decode cJ3_checkIndex_8e157 5 = .ok (.iload_n 1, 1) := by decide +kernel
theorem dJ3_checkIndex_8e157_6 : decode cJ3_checkIndex_8e157 6 = .ok (.if_icmp .lt 10, 3) := by decide +kernel
theorem dJ3_checkIndex_8e157_9 : decode cJ3_checkIndex_8e157 9 = .ok (.aload_n 2, 1) := by decide +kernel
theorem dJ3_checkIndex_8e157_10 : decode cJ3_checkIndex_8e157 10 = .ok (.iload_n 0, 1) := by decide +kernel
theorem dJ3_checkIndex_8e157_11 : decode cJ3_checkIndex_8e157 11 = .ok (.iload_n 1, 1) := by decide +kernel
theorem dJ3_checkIndex_8e157_12 : decode cJ3_checkIndex_8e157 12 = .ok (.invokestatic 95, 3) := by decide +kernel
theorem dJ3_checkIndex_8e157_15 : decode cJ3_checkIndex_8e157 15 = .ok (.athrow, 1) := by decide +kernel
theorem dJ3_checkIndex_8e157_16 : decode cJ3_checkIndex_8e157 16 = .ok (.iload_n 0, 1) := by decide +kernel
theorem dJ3_checkIndex_8e157_17 : decode cJ3_checkIndex_8e157 17 = .ok (.ireturn, 1) := by decide +kernel
abbrev vwCl : List vw_C := [(RX0, TX0, 2), (RX1, TX1, 5), (RX2, TX2, 7), (RX3, TX3, 10), (RX4, TX4, 8), (RX5, TX5, 3), (RX6, TX6, 4), (RX7, TX7, 1), (RX8, TX8, 5), (RX9, TX9, 14), (RX10, TX10, 27)]
end
section
theorem i_vc : Claimed_1_1 ∧ Claimed_1_2 := sorry
end
