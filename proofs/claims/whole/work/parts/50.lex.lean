/-! the text as tokens -/
def isLB (c : Nat) : Bool := decide (97 ≤ c) && decide (c ≤ 122)
def isDB (c : Nat) : Bool := decide (48 ≤ c) && decide (c ≤ 57)
def runE (f : Nat → Bool) (ch : Nat → Nat) : Nat → Nat → Nat
  | 0, j => j
  | d + 1, j => if f (ch j) = true then runE f ch d (j + 1) else j
theorem runE_ge (f : Nat → Bool) (ch : Nat → Nat) : ∀ d j, j ≤ runE f ch d j ∧ runE f ch d j ≤ j + d := by
  intro d
  induction d with
  | zero => intro j; exact ⟨Nat.le_refl _, Nat.le_refl _⟩
  | succ d ih =>
    intro j
    rw [runE]
    split
    · have := ih (j + 1); omega
    · omega
theorem runE_all (f : Nat → Bool) (ch : Nat → Nat) : ∀ d j i, j ≤ i → i < runE f ch d j → f (ch i) = true := by
  intro d
  induction d with
  | zero => intro j i h1 h2; have : runE f ch 0 j = j := rfl; omega
  | succ d ih =>
    intro j i h1 h2
    rw [runE] at h2
    by_cases c : f (ch j) = true
    · rw [if_pos c] at h2
      by_cases e : i = j
      · rw [e]; exact c
      · exact ih (j + 1) i (by omega) h2
    · rw [if_neg c] at h2; omega
theorem runE_end (f : Nat → Bool) (ch : Nat → Nat) : ∀ d j, runE f ch d j = j + d ∨ f (ch (runE f ch d j)) = false := by
  intro d
  induction d with
  | zero => intro j; exact Or.inl rfl
  | succ d ih =>
    intro j
    rw [runE]
    by_cases c : f (ch j) = true
    · rw [if_pos c]
      rcases ih (j + 1) with h | h
      · left; omega
      · exact Or.inr h
    · rw [if_neg c]
      right
      cases e : f (ch j) with
      | false => rfl
      | true => exact absurd e c
/-- a text: its length, its bytes -/
abbrev Tx : Type := Nat × (Nat → Nat)
def skS (t : Tx) (j : Nat) : Nat := runE (fun c => decide (c = 32)) t.2 (t.1 - j) j
def tokE (t : Tx) (j : Nat) : Nat := if isLB (t.2 j) = true then runE isLB t.2 (t.1 - (j + 1)) (j + 1) else if isDB (t.2 j) = true then runE isDB t.2 (t.1 - (j + 1)) (j + 1) else j + 1
def wrd (t : Tx) (j n : Nat) : List Nat := (List.range n).map (fun i => t.2 (j + i))
def wrdK (w : List Nat) : Nat := if w = [108, 101, 102, 116] then 0 else if w = [114, 105, 103, 104, 116] then 1 else if w = [113, 117, 97, 114, 114, 101, 108] then 2 else if w = [116, 114, 101, 101] then 3 else 7
def tokK (t : Tx) (j : Nat) : Nat := if isDB (t.2 j) = true then (if tokE t j - j = 1 ∨ (tokE t j - j = 2 ∧ t.2 j ≠ 48) then 4 else 7) else if t.2 j = 59 then 5 else wrdK (wrd t j (tokE t j - j))
def tokV (t : Tx) (j : Nat) : Nat := if tokK t j = 4 then (if tokE t j - j = 1 then t.2 j - 48 else 10 * (t.2 j - 48) + (t.2 (j + 1) - 48)) else 0
def tkP (t : Tx) (s : Nat) : Nat := if s < t.1 then tokK t s else 6
def tvP (t : Tx) (s : Nat) : Nat := if s < t.1 then tokV t s else 0
def afP (t : Tx) (s : Nat) : Nat := if s < t.1 then tokE t s else t.1
def tp (t : Tx) : Nat → Nat
  | 0 => skS t 0
  | i + 1 => skS t (afP t (tp t i))
def tk (t : Tx) (i : Nat) : Nat := tkP t (tp t i)
def tv (t : Tx) (i : Nat) : Nat := tvP t (tp t i)
theorem skS_b (t : Tx) {j : Nat} (h : j ≤ t.1) : j ≤ skS t j ∧ skS t j ≤ t.1 := by
  have := runE_ge (fun c => decide (c = 32)) t.2 (t.1 - j) j
  unfold skS; omega
theorem tokE_b (t : Tx) {j : Nat} (h : j < t.1) : j < tokE t j ∧ tokE t j ≤ t.1 := by
  have h1 := runE_ge isLB t.2 (t.1 - (j + 1)) (j + 1)
  have h2 := runE_ge isDB t.2 (t.1 - (j + 1)) (j + 1)
  unfold tokE
  split
  · omega
  · split <;> omega
theorem tp_b (t : Tx) : ∀ i, tp t i ≤ t.1 ∧ (tp t i = t.1 ∨ i ≤ tp t i) := by
  intro i
  induction i with
  | zero => exact ⟨(skS_b t (Nat.zero_le _)).2, Or.inr (Nat.zero_le _)⟩
  | succ i ih =>
    rw [tp]
    unfold afP
    by_cases c : tp t i < t.1
    · rw [if_pos c]
      have e := tokE_b t c
      have s := skS_b t e.2
      refine ⟨s.2, Or.inr ?_⟩
      omega
    · rw [if_neg c]
      have s := skS_b t (Nat.le_refl t.1)
      exact ⟨s.2, Or.inl (by omega)⟩
theorem wrdK_b (w : List Nat) : wrdK w = 0 ∨ wrdK w = 1 ∨ wrdK w = 2 ∨ wrdK w = 3 ∨ wrdK w = 7 := by
  unfold wrdK
  split
  · simp
  · split
    · simp
    · split
      · simp
      · split <;> simp
theorem tokK_b (t : Tx) (j : Nat) : tokK t j ≤ 7 ∧ tokK t j ≠ 6 := by
  unfold tokK
  have := wrdK_b (wrd t j (tokE t j - j))
  split
  · split <;> omega
  · split
    · omega
    · omega
theorem tk_6 (t : Tx) (i : Nat) : tk t i = 6 ↔ tp t i = t.1 := by
  have b := (tp_b t i).1
  unfold tk tkP
  by_cases c : tp t i < t.1
  · rw [if_pos c]
    have := (tokK_b t (tp t i)).2
    exact ⟨fun h => absurd h this, fun h => by omega⟩
  · rw [if_neg c]; exact ⟨fun _ => by omega, fun _ => rfl⟩
theorem tk_b (t : Tx) (i : Nat) : tk t i ≤ 7 := by
  unfold tk tkP
  split
  · exact (tokK_b t _).1
  · omega
theorem tokV_b (t : Tx) (j : Nat) (h : tokK t j = 4) : tokV t j ≤ 99 := by
  have d : isDB (t.2 j) = true := by
    cases e : isDB (t.2 j) with
    | true => rfl
    | false =>
      unfold tokK at h
      rw [if_neg (by rw [e]; decide)] at h
      have := wrdK_b (wrd t j (tokE t j - j))
      split at h
      · omega
      · omega
  have d9 := d
  unfold isDB at d9
  simp at d9
  unfold tokV
  rw [if_pos h]
  split
  · omega
  · rename_i n1
    unfold tokK at h
    rw [if_pos d] at h
    split at h
    · rename_i c
      have e2 : tokE t j - j = 2 := by omega
      have : isDB (t.2 (j + 1)) = true := by
        have el : isLB (t.2 j) = false := by unfold isLB; simp; omega
        unfold tokE at e2
        rw [if_neg (by rw [el]; decide), if_pos d] at e2
        exact runE_all isDB t.2 (t.1 - (j + 1)) (j + 1) (j + 1) (Nat.le_refl _) (by omega)
      unfold isDB at this
      simp at this
      omega
    · omega
theorem tv_b (t : Tx) (i : Nat) (h : tk t i = 4) : tv t i ≤ 99 := by
  unfold tk tkP at h
  unfold tv tvP
  split
  · rename_i c; rw [if_pos c] at h; exact tokV_b t _ h
  · omega
/-- the tokens before the end -/
theorem tk_end (t : Tx) : ∃ m, m ≤ t.1 ∧ tk t m = 6 ∧ ∀ i, i < m → tk t i ≠ 6 := by
  have ex : ∃ m, tk t m = 6 := ⟨t.1, by
    rw [tk_6]
    have := tp_b t t.1
    omega⟩
  obtain ⟨m, hm⟩ := ex
  induction m using Nat.strongRecOn with
  | _ m ih =>
    by_cases g : ∃ i, i < m ∧ tk t i = 6
    · obtain ⟨i, h1, h2⟩ := g; exact ih i h1 h2
    · have all : ∀ i, i < m → tk t i ≠ 6 := fun i hi h => g ⟨i, hi, h⟩
      refine ⟨m, ?_, hm, all⟩
      cases m with
      | zero => exact Nat.zero_le _
      | succ m =>
        have := all m (by omega)
        rw [Ne, tk_6] at this
        have b := tp_b t m
        omega
noncomputable def nT (t : Tx) : Nat := Classical.choose (tk_end t)
theorem nT_s (t : Tx) : nT t ≤ t.1 ∧ tk t (nT t) = 6 ∧ ∀ i, i < nT t → tk t i ≠ 6 := Classical.choose_spec (tk_end t)
