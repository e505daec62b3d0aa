/-! the class's items -/
def Sd (o : Nat) : List Nat := [6, o, o + 1, o + 2, o + 3, o + 4, o + 5, o + 6, o + 7, o + 8]
theorem Sd_r {o k : Nat} (h : k ∈ Sd o) : k = 6 ∨ (o ≤ k ∧ k ≤ o + 8) := by
  unfold Sd at h
  simp at h
  omega
def So (o : Nat) : List Nat := [o, o + 1, o + 2, o + 3, o + 4, o + 5, o + 6, o + 7, o + 8]
theorem So_6 {o : Nat} (ho : isO o) : 6 ∉ So o := fun h => by
  have := isO_r ho
  unfold So at h
  simp at h
  omega
theorem So_Sd {o : Nat} : ∀ k, k ∈ So o → k ∈ Sd o := fun k h => List.mem_cons_of_mem _ h
theorem s_addHalf {σ : St} {o : Nat} {O : Orc} {s g l c : Nat} {P : St → Prop} (ho : isO o) (hO : orC σ o O) (hk : oOk O) (h8 : oP O < 8) (hP : ∀ σ', frC (So o) σ σ' → orC σ' o (addH O s g l c) → P σ') : wX3_addHalf σ o (nI s) (nI g) (nI l) (nI c) P := by
  obtain ⟨a0, a1, a2, a3⟩ := hO
  unfold wX3_addHalf
  rw [a0, cl (n := oP O) (by omega)]
  have v : vp_in (nI (oP O)) 8 := vp_in_nI h8 (by omega)
  refine ⟨ho, fun c => absurd ((leI (a := 8) rfl rfl (by omega) (by omega)).mp c) (by omega), fun _ => ⟨v, fun σ3 h3 => ?_⟩⟩
  have e3 : σ3.1 o 0 = nI (oP O) := by rw [h3, sI_ne (by omega)]; exact a0
  rw [e3, cl (n := oP O) (by omega)]
  refine ⟨v, fun σ5 h5 => ?_⟩
  have e5 : σ5.1 o 0 = nI (oP O) := by rw [h5, sI_ne (by omega)]; exact e3
  rw [e5, cl (n := oP O) (by omega)]
  refine ⟨v, fun σ7 h7 => ?_⟩
  have e7 : σ7.1 o 0 = nI (oP O) := by rw [h7, sI_ne (by omega)]; exact e5
  rw [e7, cl (n := oP O) (by omega)]
  refine ⟨v, fun σ9 h9 => ?_⟩
  have e9 : σ9.1 o 0 = nI (oP O) := by rw [h9, sI_ne (by omega)]; exact e7
  rw [e9, cl (n := oP O) (by omega)]
  refine ⟨v, fun σ11 h11 σ12 h12 => ?_⟩
  have e11 : σ11.1 o 0 = nI (oP O) := by rw [h11, sI_ne (by omega)]; exact e9
  rw [e11, add1] at h12
  refine hP σ12 ?_ ?_
  · rw [h12, h11, h9, h7, h5, h3]
    exact (((((frC.rf.wr (by simp [So])).wr (by simp [So])).wr (by simp [So])).wr (by simp [So])).wr (by simp [So])).wr (by simp [So])
  · have E : ∀ k j, σ12.1 k j = if k = o ∧ j = 0 then nI (oP O + 1) else if k = o + 5 ∧ j = oP O then 0 else if k = o + 4 ∧ j = oP O then nI c else if k = o + 3 ∧ j = oP O then nI l else if k = o + 2 ∧ j = oP O then nI g else if k = o + 1 ∧ j = oP O then nI s else σ.1 k j := fun k j => by
      rw [h12, sI_get, h11, sI_get, h9, sI_get, h7, sI_get, h5, sI_get, h3, sI_get]
    refine ⟨by rw [E, if_pos ⟨rfl, rfl⟩]; rfl, ?_, fun p hp => ?_, fun t ht => ?_⟩
    · rw [E, if_neg (by omega), if_neg (by omega), if_neg (by omega), if_neg (by omega), if_neg (by omega), if_neg (by omega)]; exact a1
    · have hp : p < oP O + 1 := hp
      show σ12.1 (o + 1) p = nI (upN (oS O) (oP O) s p) ∧ σ12.1 (o + 2) p = nI (upN (oG O) (oP O) g p) ∧ σ12.1 (o + 3) p = nI (upN (oL O) (oP O) l p) ∧ σ12.1 (o + 4) p = nI (upN (oC O) (oP O) c p) ∧ σ12.1 (o + 5) p = nI (upN (oQ O) (oP O) 0 p)
      rw [updN, updN, updN, updN, updN, E, E, E, E, E]
      by_cases e : p = oP O
      · subst e
        refine ⟨?_, ?_, ?_, ?_, ?_⟩
        · rw [if_neg (by omega), if_neg (by omega), if_neg (by omega), if_neg (by omega), if_neg (by omega), if_pos ⟨rfl, rfl⟩, if_pos rfl]
        · rw [if_neg (by omega), if_neg (by omega), if_neg (by omega), if_neg (by omega), if_pos ⟨rfl, rfl⟩, if_pos rfl]
        · rw [if_neg (by omega), if_neg (by omega), if_neg (by omega), if_pos ⟨rfl, rfl⟩, if_pos rfl]
        · rw [if_neg (by omega), if_neg (by omega), if_pos ⟨rfl, rfl⟩, if_pos rfl]
        · rw [if_neg (by omega), if_pos ⟨rfl, rfl⟩, if_pos rfl]; rfl
      · have A := a2 p (by omega)
        refine ⟨?_, ?_, ?_, ?_, ?_⟩ <;> rw [if_neg (by omega), if_neg (by omega), if_neg (by omega), if_neg (by omega), if_neg (by omega), if_neg (by omega), if_neg e]
        · exact A.1
        · exact A.2.1
        · exact A.2.2.1
        · exact A.2.2.2.1
        · exact A.2.2.2.2
    · have B := a3 t ht
      show σ12.1 (o + 6) t = nI (oH O t) ∧ σ12.1 (o + 7) t = nI (oR O t) ∧ σ12.1 (o + 8) t = nI (oB O t)
      rw [E, E, E]
      refine ⟨?_, ?_, ?_⟩ <;> rw [if_neg (by omega), if_neg (by omega), if_neg (by omega), if_neg (by omega), if_neg (by omega), if_neg (by omega)]
      · exact B.1
      · exact B.2.1
      · exact B.2.2
theorem s_addTree {σ : St} {o : Nat} {O : Orc} {g r b : Nat} {P : St → Prop} (ho : isO o) (hO : orC σ o O) (hk : oOk O) (h5 : oT O < 5) (hP : ∀ σ', frC (So o) σ σ' → orC σ' o (addT O g r b) → P σ') : wX3_addTree σ o (nI g) (nI r) (nI b) P := by
  obtain ⟨a0, a1, a2, a3⟩ := hO
  unfold wX3_addTree
  rw [a1, cl (n := oT O) (by omega)]
  have v : vp_in (nI (oT O)) 5 := vp_in_nI h5 (by omega)
  refine ⟨ho, fun c => absurd ((leI (a := 5) rfl rfl (by omega) (by omega)).mp c) (by omega), fun _ => ⟨v, fun σ3 h3 => ?_⟩⟩
  have e3 : σ3.1 o 1 = nI (oT O) := by rw [h3, sI_ne (by omega)]; exact a1
  rw [e3, cl (n := oT O) (by omega)]
  refine ⟨v, fun σ5 h5' => ?_⟩
  have e5 : σ5.1 o 1 = nI (oT O) := by rw [h5', sI_ne (by omega)]; exact e3
  rw [e5, cl (n := oT O) (by omega)]
  refine ⟨v, fun σ7 h7 σ8 h8 => ?_⟩
  have e7 : σ7.1 o 1 = nI (oT O) := by rw [h7, sI_ne (by omega)]; exact e5
  rw [e7, add1] at h8
  refine hP σ8 ?_ ?_
  · rw [h8, h7, h5', h3]
    exact (((frC.rf.wr (by simp [So])).wr (by simp [So])).wr (by simp [So])).wr (by simp [So])
  · have E : ∀ k j, σ8.1 k j = if k = o ∧ j = 1 then nI (oT O + 1) else if k = o + 8 ∧ j = oT O then nI b else if k = o + 7 ∧ j = oT O then nI r else if k = o + 6 ∧ j = oT O then nI g else σ.1 k j := fun k j => by
      rw [h8, sI_get, h7, sI_get, h5', sI_get, h3, sI_get]
    refine ⟨?_, by rw [E, if_pos ⟨rfl, rfl⟩]; rfl, fun p hp => ?_, fun t ht => ?_⟩
    · rw [E, if_neg (by omega), if_neg (by omega), if_neg (by omega), if_neg (by omega)]; exact a0
    · have A := a2 p hp
      show σ8.1 (o + 1) p = nI (oS O p) ∧ σ8.1 (o + 2) p = nI (oG O p) ∧ σ8.1 (o + 3) p = nI (oL O p) ∧ σ8.1 (o + 4) p = nI (oC O p) ∧ σ8.1 (o + 5) p = nI (oQ O p)
      rw [E, E, E, E, E]
      refine ⟨?_, ?_, ?_, ?_, ?_⟩ <;> rw [if_neg (by omega), if_neg (by omega), if_neg (by omega), if_neg (by omega)]
      · exact A.1
      · exact A.2.1
      · exact A.2.2.1
      · exact A.2.2.2.1
      · exact A.2.2.2.2
    · have ht : t < oT O + 1 := ht
      show σ8.1 (o + 6) t = nI (upN (oH O) (oT O) g t) ∧ σ8.1 (o + 7) t = nI (upN (oR O) (oT O) r t) ∧ σ8.1 (o + 8) t = nI (upN (oB O) (oT O) b t)
      rw [updN, updN, updN, E, E, E]
      by_cases e : t = oT O
      · subst e
        refine ⟨?_, ?_, ?_⟩
        · rw [if_neg (by omega), if_neg (by omega), if_neg (by omega), if_pos ⟨rfl, rfl⟩, if_pos rfl]
        · rw [if_neg (by omega), if_neg (by omega), if_pos ⟨rfl, rfl⟩, if_pos rfl]
        · rw [if_neg (by omega), if_pos ⟨rfl, rfl⟩, if_pos rfl]
      · have B := a3 t (by omega)
        refine ⟨?_, ?_, ?_⟩ <;> rw [if_neg (by omega), if_neg (by omega), if_neg (by omega), if_neg (by omega), if_neg e]
        · exact B.1
        · exact B.2.1
        · exact B.2.2
theorem s_addQuarrel {σ : St} {o : Nat} {O : Orc} {a b : Nat} {P : St → Prop} (ho : isO o) (hO : orC σ o O) (hk : oOk O) (ha : a < oP O) (hb : b < oP O) (hab : a ≠ b) (hP : ∀ σ', frC (So o) σ σ' → orC σ' o (addQ O a b) → P σ') : wX3_addQuarrel σ o (nI a) (nI b) P := by
  have h8 := hk.1
  have hO' := hO
  obtain ⟨a0, a1, a2, a3⟩ := hO
  unfold wX3_addQuarrel
  refine ⟨ho, s_hasHalf ho hO'.1 h8 ?_⟩
  rw [inR_nI (by omega), decide_eq_true ha]
  refine ⟨fun c => absurd c nb0, fun _ => s_hasHalf ho hO'.1 h8 ?_⟩
  rw [inR_nI (by omega), decide_eq_true hb]
  have va : vp_in (nI a) 8 := vp_in_nI (by omega) (by omega)
  have vb : vp_in (nI b) 8 := vp_in_nI (by omega) (by omega)
  rw [cl (n := a) (by omega), cl (n := b) (by omega), (a2 a ha).2.2.2.2, shl1 (k := b) (by omega), shl1 (k := a) (by omega), orN]
  refine ⟨fun c => absurd c nb0, fun _ => ⟨va, va, fun σ7 h7 => ?_⟩⟩
  have e7 : σ7.1 (o + 5) b = nI (oQ O b) := by rw [h7, sI_off (fun e => hab e.symm)]; exact (a2 b hb).2.2.2.2
  rw [e7, orN]
  refine ⟨vb, vb, fun σ10 h10 => hP σ10 (by rw [h10, h7]; exact (frC.rf.wr (by simp [So])).wr (by simp [So])) ?_⟩
  have E : ∀ k j, σ10.1 k j = if k = o + 5 ∧ j = b then nI (oQ O b ||| 2 ^ a) else if k = o + 5 ∧ j = a then nI (oQ O a ||| 2 ^ b) else σ.1 k j := fun k j => by
    rw [h10, sI_get, h7, sI_get]
  refine ⟨?_, ?_, fun p hp => ?_, fun t ht => ?_⟩
  · rw [E, if_neg (by omega), if_neg (by omega)]; exact a0
  · rw [E, if_neg (by omega), if_neg (by omega)]; exact a1
  · have A := a2 p hp
    refine ⟨?_, ?_, ?_, ?_, ?_⟩
    · rw [E, if_neg (by omega), if_neg (by omega)]; exact A.1
    · rw [E, if_neg (by omega), if_neg (by omega)]; exact A.2.1
    · rw [E, if_neg (by omega), if_neg (by omega)]; exact A.2.2.1
    · rw [E, if_neg (by omega), if_neg (by omega)]; exact A.2.2.2.1
    · show σ10.1 (o + 5) p = nI (if p = a then oQ O a ||| 2 ^ b else if p = b then oQ O b ||| 2 ^ a else oQ O p)
      rw [E]
      by_cases e1 : p = a
      · subst e1
        rw [if_neg (fun y => hab y.2), if_pos ⟨rfl, rfl⟩, if_pos rfl]
      · by_cases e2 : p = b
        · subst e2
          rw [if_pos ⟨rfl, rfl⟩, if_neg e1, if_pos rfl]
        · rw [if_neg (fun y => e2 y.2), if_neg (fun y => e1 y.2), if_neg e1, if_neg e2]; exact A.2.2.2.2
  · have B := a3 t ht
    refine ⟨?_, ?_, ?_⟩
    · rw [E, if_neg (by omega), if_neg (by omega)]; exact B.1
    · rw [E, if_neg (by omega), if_neg (by omega)]; exact B.2.1
    · rw [E, if_neg (by omega), if_neg (by omega)]; exact B.2.2
