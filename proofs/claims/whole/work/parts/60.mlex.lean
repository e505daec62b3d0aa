/-! the reference's words and numbers, as mathematics -/
def cdA (t : Tx) (s : Nat) : Nat → Nat
  | 0 => 0
  | k + 1 => if k < 6 then 27 * cdA t s k + (t.2 (s + k) - 96) else cdA t s k
def svA (t : Tx) (s : Nat) : Nat → Nat
  | 0 => 0
  | k + 1 => if k = 6 then t.2 (s + k) - 96 else if 6 < k then 99 else svA t s k
def vaA (t : Tx) (s : Nat) : Nat → Nat
  | 0 => 0
  | k + 1 => if vaA t s k ≤ 99 then 10 * vaA t s k + (t.2 (s + k) - 48) else vaA t s k
def mean (c v : Nat) : Nat := if v = 0 then (if c = 240023 then 0 else if c = 406922 then 3 else if c = 9748424 then 1 else 7) else if c = 255124976 then (if v = 12 then 2 else 7) else 7
theorem cdA_b {t : Tx} {s n : Nat} (h : ∀ k, k < n → 97 ≤ t.2 (s + k) ∧ t.2 (s + k) ≤ 122) : ∀ k, k ≤ n → (k ≤ 6 → cdA t s k < 27 ^ k) ∧ cdA t s k < 387420489 := by
  intro k
  induction k with
  | zero => intro _; exact ⟨fun _ => by show (0 : Nat) < 1; omega, by show (0 : Nat) < _; omega⟩
  | succ k ih =>
    intro hk
    have := ih (by omega)
    have x := h k (by omega)
    rw [cdA]
    by_cases c : k < 6
    · rw [if_pos c]
      have i1 := this.1 (by omega)
      have p : 27 ^ (k + 1) = 27 ^ k * 27 := Nat.pow_succ _ _
      have b : 27 * cdA t s k + (t.2 (s + k) - 96) < 27 ^ (k + 1) := by rw [p]; omega
      have q : 27 ^ (k + 1) ≤ 27 ^ 6 := Nat.pow_le_pow_right (by omega) (by omega)
      have q6 : 27 ^ 6 = 387420489 := by decide
      exact ⟨fun _ => b, by omega⟩
    · rw [if_neg c]
      exact ⟨fun g => by omega, this.2⟩
theorem svA_b {t : Tx} {s n : Nat} (h : ∀ k, k < n → 97 ≤ t.2 (s + k) ∧ t.2 (s + k) ≤ 122) : ∀ k, k ≤ n → svA t s k ≤ 99 := by
  intro k
  induction k with
  | zero => intro _; show (0 : Nat) ≤ 99; omega
  | succ k ih =>
    intro hk
    have x := h k (by omega)
    rw [svA]
    split
    · omega
    · split
      · omega
      · exact ih (by omega)
theorem svA_8 {t : Tx} {s : Nat} : ∀ n, 8 ≤ n → svA t s n = 99 := by
  intro n h
  cases n with
  | zero => omega
  | succ n => rw [svA, if_neg (by omega), if_pos (by omega)]
theorem wrd_len (t : Tx) (s n : Nat) : (wrd t s n).length = n := by unfold wrd; simp
theorem wrdK_7 {w : List Nat} (h4 : w.length ≠ 4) (h5 : w.length ≠ 5) (h7 : w.length ≠ 7) : wrdK w = 7 := by
  unfold wrdK
  rw [if_neg (fun e => h4 (by rw [e]; rfl)), if_neg (fun e => h5 (by rw [e]; rfl)), if_neg (fun e => h7 (by rw [e]; rfl)), if_neg (fun e => h4 (by rw [e]; rfl))]
theorem mean_w {t : Tx} {s n : Nat} (h : ∀ k, k < n → 97 ≤ t.2 (s + k) ∧ t.2 (s + k) ≤ 122) (h1 : 1 ≤ n) : mean (cdA t s n) (svA t s n) = wrdK (wrd t s n) := by
  by_cases c8 : 8 ≤ n
  · rw [svA_8 n c8, wrdK_7 (by rw [wrd_len]; omega) (by rw [wrd_len]; omega) (by rw [wrd_len]; omega)]
    unfold mean
    rw [if_neg (by omega)]
    split <;> rfl
  have e : n = 1 ∨ n = 2 ∨ n = 3 ∨ n = 4 ∨ n = 5 ∨ n = 6 ∨ n = 7 := by omega
  rcases e with rfl | rfl | rfl | rfl | rfl | rfl | rfl
  · have x0 := h 0 (by omega)
    rw [wrdK_7 (by rw [wrd_len]; omega) (by rw [wrd_len]; omega) (by rw [wrd_len]; omega)]
    have ec : cdA t s 1 = 27 * 0 + (t.2 (s + 0) - 96) := rfl
    have ev : svA t s 1 = 0 := rfl
    rw [ec, ev]
    unfold mean
    rw [if_pos rfl, if_neg (by omega), if_neg (by omega), if_neg (by omega)]
  · have x0 := h 0 (by omega)
    have x1 := h 1 (by omega)
    rw [wrdK_7 (by rw [wrd_len]; omega) (by rw [wrd_len]; omega) (by rw [wrd_len]; omega)]
    have ec : cdA t s 2 = 27 * (27 * 0 + (t.2 (s + 0) - 96)) + (t.2 (s + 1) - 96) := rfl
    have ev : svA t s 2 = 0 := rfl
    rw [ec, ev]
    unfold mean
    rw [if_pos rfl, if_neg (by omega), if_neg (by omega), if_neg (by omega)]
  · have x0 := h 0 (by omega)
    have x1 := h 1 (by omega)
    have x2 := h 2 (by omega)
    rw [wrdK_7 (by rw [wrd_len]; omega) (by rw [wrd_len]; omega) (by rw [wrd_len]; omega)]
    have ec : cdA t s 3 = 27 * (27 * (27 * 0 + (t.2 (s + 0) - 96)) + (t.2 (s + 1) - 96)) + (t.2 (s + 2) - 96) := rfl
    have ev : svA t s 3 = 0 := rfl
    rw [ec, ev]
    unfold mean
    rw [if_pos rfl, if_neg (by omega), if_neg (by omega), if_neg (by omega)]
  · have x0 := h 0 (by omega)
    have x1 := h 1 (by omega)
    have x2 := h 2 (by omega)
    have x3 := h 3 (by omega)
    have ew : wrd t s 4 = [t.2 (s + 0), t.2 (s + 1), t.2 (s + 2), t.2 (s + 3)] := rfl
    have ec : cdA t s 4 = 27 * (27 * (27 * (27 * 0 + (t.2 (s + 0) - 96)) + (t.2 (s + 1) - 96)) + (t.2 (s + 2) - 96)) + (t.2 (s + 3) - 96) := rfl
    have ev : svA t s 4 = 0 := rfl
    rw [ew, ec, ev]
    generalize t.2 (s + 0) = a at *
    generalize t.2 (s + 1) = b at *
    generalize t.2 (s + 2) = c at *
    generalize t.2 (s + 3) = d at *
    unfold mean wrdK
    rw [if_pos rfl]
    by_cases q : a = 108 ∧ b = 101 ∧ c = 102 ∧ d = 116
    · obtain ⟨rfl, rfl, rfl, rfl⟩ := q
      rfl
    · by_cases q2 : a = 116 ∧ b = 114 ∧ c = 101 ∧ d = 101
      · obtain ⟨rfl, rfl, rfl, rfl⟩ := q2
        rfl
      · rw [if_neg (by omega), if_neg (by omega), if_neg (by omega), if_neg (fun h => q (by simpa using h)), if_neg (by simp), if_neg (by simp), if_neg (fun h => q2 (by simpa using h))]
  · have x0 := h 0 (by omega)
    have x1 := h 1 (by omega)
    have x2 := h 2 (by omega)
    have x3 := h 3 (by omega)
    have x4 := h 4 (by omega)
    have ew : wrd t s 5 = [t.2 (s + 0), t.2 (s + 1), t.2 (s + 2), t.2 (s + 3), t.2 (s + 4)] := rfl
    have ec : cdA t s 5 = 27 * (27 * (27 * (27 * (27 * 0 + (t.2 (s + 0) - 96)) + (t.2 (s + 1) - 96)) + (t.2 (s + 2) - 96)) + (t.2 (s + 3) - 96)) + (t.2 (s + 4) - 96) := rfl
    have ev : svA t s 5 = 0 := rfl
    rw [ew, ec, ev]
    generalize t.2 (s + 0) = a at *
    generalize t.2 (s + 1) = b at *
    generalize t.2 (s + 2) = c at *
    generalize t.2 (s + 3) = d at *
    generalize t.2 (s + 4) = e at *
    unfold mean wrdK
    rw [if_pos rfl]
    by_cases q : a = 114 ∧ b = 105 ∧ c = 103 ∧ d = 104 ∧ e = 116
    · obtain ⟨rfl, rfl, rfl, rfl, rfl⟩ := q
      rfl
    · rw [if_neg (by omega), if_neg (by omega), if_neg (by omega), if_neg (by simp), if_neg (fun h => q (by simpa using h)), if_neg (by simp), if_neg (by simp)]
  · have x0 := h 0 (by omega)
    have x1 := h 1 (by omega)
    have x2 := h 2 (by omega)
    have x3 := h 3 (by omega)
    have x4 := h 4 (by omega)
    have x5 := h 5 (by omega)
    rw [wrdK_7 (by rw [wrd_len]; omega) (by rw [wrd_len]; omega) (by rw [wrd_len]; omega)]
    have ec : cdA t s 6 = 27 * (27 * (27 * (27 * (27 * (27 * 0 + (t.2 (s + 0) - 96)) + (t.2 (s + 1) - 96)) + (t.2 (s + 2) - 96)) + (t.2 (s + 3) - 96)) + (t.2 (s + 4) - 96)) + (t.2 (s + 5) - 96) := rfl
    have ev : svA t s 6 = 0 := rfl
    rw [ec, ev]
    unfold mean
    rw [if_pos rfl, if_neg (by omega), if_neg (by omega), if_neg (by omega)]
  · have x0 := h 0 (by omega)
    have x1 := h 1 (by omega)
    have x2 := h 2 (by omega)
    have x3 := h 3 (by omega)
    have x4 := h 4 (by omega)
    have x5 := h 5 (by omega)
    have x6 := h 6 (by omega)
    have ew : wrd t s 7 = [t.2 (s + 0), t.2 (s + 1), t.2 (s + 2), t.2 (s + 3), t.2 (s + 4), t.2 (s + 5), t.2 (s + 6)] := rfl
    have ec : cdA t s 7 = 27 * (27 * (27 * (27 * (27 * (27 * 0 + (t.2 (s + 0) - 96)) + (t.2 (s + 1) - 96)) + (t.2 (s + 2) - 96)) + (t.2 (s + 3) - 96)) + (t.2 (s + 4) - 96)) + (t.2 (s + 5) - 96) := rfl
    have ev : svA t s 7 = t.2 (s + 6) - 96 := rfl
    rw [ew, ec, ev]
    generalize t.2 (s + 0) = a at *
    generalize t.2 (s + 1) = b at *
    generalize t.2 (s + 2) = c at *
    generalize t.2 (s + 3) = d at *
    generalize t.2 (s + 4) = e at *
    generalize t.2 (s + 5) = f at *
    generalize t.2 (s + 6) = g at *
    unfold mean wrdK
    rw [if_neg (show ¬ g - 96 = 0 by omega)]
    by_cases q : a = 113 ∧ b = 117 ∧ c = 97 ∧ d = 114 ∧ e = 114 ∧ f = 101
    · obtain ⟨rfl, rfl, rfl, rfl, rfl, rfl⟩ := q
      by_cases q2 : g = 108
      · subst q2; rfl
      · rw [if_pos (by omega), if_neg (by omega), if_neg (by simp), if_neg (by simp), if_neg (fun h => q2 (by simpa using h)), if_neg (by simp)]
    · rw [if_neg (by omega), if_neg (by simp), if_neg (by simp), if_neg (fun h => q (by simp at h; exact ⟨h.1, h.2.1, h.2.2.1, h.2.2.2.1, h.2.2.2.2.1, h.2.2.2.2.2.1⟩)), if_neg (by simp)]
theorem vaA_b {t : Tx} {s n : Nat} (h : ∀ k, k < n → 48 ≤ t.2 (s + k) ∧ t.2 (s + k) ≤ 57) : ∀ k, k ≤ n → vaA t s k ≤ 999 := by
  intro k
  induction k with
  | zero => intro _; show (0 : Nat) ≤ 999; omega
  | succ k ih =>
    intro hk
    have x := h k (by omega)
    have := ih (by omega)
    rw [vaA]
    split <;> omega
theorem vaA_3 {t : Tx} {s n : Nat} (h : ∀ k, k < n → 48 ≤ t.2 (s + k) ∧ t.2 (s + k) ≤ 57) (h0 : t.2 s ≠ 48) : ∀ k, 3 ≤ k → k ≤ n → 100 ≤ vaA t s k := by
  intro k
  induction k with
  | zero => intro h3; omega
  | succ k ih =>
    intro h3 hk
    have x := h k (by omega)
    rw [vaA]
    by_cases e : k = 2
    · subst e
      have x0 := h 0 (by omega)
      have x1 := h 1 (by omega)
      have e1 : vaA t s 1 = 10 * 0 + (t.2 (s + 0) - 48) := rfl
      have e2 : vaA t s 2 = if vaA t s 1 ≤ 99 then 10 * vaA t s 1 + (t.2 (s + 1) - 48) else vaA t s 1 := rfl
      rw [Nat.add_zero] at x0 e1
      split <;> (split at e2 <;> omega)
    · have := ih (by omega) (by omega)
      rw [if_neg (by omega)]; exact this
/-- the reference's number of a kind -/
def srt (k : Nat) : Nat := if k = 4 then 5 else if k = 5 then 6 else if k = 6 then 4 else k
theorem srt_b {k : Nat} (h : k ≤ 7) : srt k ≤ 7 := by unfold srt; split <;> (try omega); split <;> (try omega); split <;> omega
theorem srt_5 {k : Nat} : srt k = 5 ↔ k = 4 := by unfold srt; constructor <;> intro h <;> (try subst h) <;> (try rfl); split at h <;> (try omega); split at h <;> (try omega); split at h <;> omega
theorem srt_6 {k : Nat} : srt k = 6 ↔ k = 5 := by unfold srt; constructor <;> intro h <;> (try subst h) <;> (try rfl); split at h <;> (try omega); split at h <;> (try omega); split at h <;> omega
theorem srt_4 {k : Nat} : srt k = 4 ↔ k = 6 := by unfold srt; constructor <;> intro h <;> (try subst h) <;> (try rfl); split at h <;> (try omega); split at h <;> (try omega); split at h <;> omega
theorem srt_lo {k : Nat} (h : k ≤ 3 ∨ k = 7) : srt k = k := by unfold srt; rw [if_neg (by omega), if_neg (by omega), if_neg (by omega)]
theorem srt_lo3 {k j : Nat} (hj : j ≤ 3) : srt k = j ↔ k = j := by unfold srt; constructor <;> intro h; · split at h <;> (try omega); split at h <;> (try omega); split at h <;> omega
                                                                   · rw [if_neg (by omega), if_neg (by omega), if_neg (by omega)]; exact h
theorem tokE_L {t : Tx} {s : Nat} (hs : s < t.1) (h : isLB (t.2 s) = true) : tokE t s = runE isLB t.2 (t.1 - s) s := by
  unfold tokE
  rw [if_pos h, show t.1 - s = (t.1 - (s + 1)) + 1 by omega, runE, if_pos h]
theorem tokE_D {t : Tx} {s : Nat} (hs : s < t.1) (hL : isLB (t.2 s) = false) (h : isDB (t.2 s) = true) : tokE t s = runE isDB t.2 (t.1 - s) s := by
  unfold tokE
  rw [if_neg (by rw [hL]; decide), if_pos h, show t.1 - s = (t.1 - (s + 1)) + 1 by omega, runE, if_pos h]
theorem isLB_r {c : Nat} (h : isLB c = true) : 97 ≤ c ∧ c ≤ 122 := by unfold isLB at h; simpa using h
theorem isDB_r {c : Nat} (h : isDB c = true) : 48 ≤ c ∧ c ≤ 57 := by unfold isDB at h; simpa using h
theorem isLD {c : Nat} (h : isLB c = true) : isDB c = false := by have := isLB_r h; unfold isDB; simp; omega
theorem isDL {c : Nat} (h : isDB c = true) : isLB c = false := by have := isDB_r h; unfold isLB; simp; omega
theorem tok_let {t : Tx} {s : Nat} (hs : s < t.1) (h : isLB (t.2 s) = true) : tokK t s = mean (cdA t s (tokE t s - s)) (svA t s (tokE t s - s)) ∧ (∀ k, k < tokE t s - s → 97 ≤ t.2 (s + k) ∧ t.2 (s + k) ≤ 122) := by
  have b := tokE_b t hs
  have all : ∀ k, k < tokE t s - s → 97 ≤ t.2 (s + k) ∧ t.2 (s + k) ≤ 122 := fun k hk => isLB_r (by
    have e := tokE_L hs h
    exact runE_all isLB t.2 (t.1 - s) s (s + k) (by omega) (by omega))
  have r := isLB_r h
  refine ⟨?_, all⟩
  rw [mean_w all (by omega)]
  unfold tokK
  rw [if_neg (by rw [isLD h]; decide), if_neg (by omega)]
/-- what the reference makes of digits -/
def digK (t : Tx) (s n : Nat) : Nat := if 99 < vaA t s n then 7 else if t.2 s = 48 then (if n ≤ 1 then 5 else 7) else 5
theorem tok_dig {t : Tx} {s : Nat} (hs : s < t.1) (h : isDB (t.2 s) = true) : srt (tokK t s) = digK t s (tokE t s - s) ∧ (tokK t s = 4 → tokV t s = vaA t s (tokE t s - s)) ∧ (∀ k, k < tokE t s - s → 48 ≤ t.2 (s + k) ∧ t.2 (s + k) ≤ 57) := by
  have b := tokE_b t hs
  have all : ∀ k, k < tokE t s - s → 48 ≤ t.2 (s + k) ∧ t.2 (s + k) ≤ 57 := fun k hk => isDB_r (by
    have e := tokE_D hs (isDL h) h
    exact runE_all isDB t.2 (t.1 - s) s (s + k) (by omega) (by omega))
  have r := isDB_r h
  have e1 : vaA t s 1 = 10 * 0 + (t.2 (s + 0) - 48) := rfl
  have e2 : vaA t s 2 = if vaA t s 1 ≤ 99 then 10 * vaA t s 1 + (t.2 (s + 1) - 48) else vaA t s 1 := rfl
  rw [Nat.add_zero] at e1
  rw [if_pos (by omega)] at e2
  unfold tokV tokK
  rw [if_pos h]
  unfold digK
  generalize hn : tokE t s - s = n at *
  by_cases c1 : n = 1
  · subst c1
    rw [if_pos (Or.inl rfl), if_neg (by omega), if_pos rfl, if_pos rfl]
    refine ⟨?_, fun _ => by omega, all⟩
    split
    · rw [if_pos (by omega)]; rfl
    · rfl
  · by_cases c2 : n = 2
    · subst c2
      have x1 := all 1 (by omega)
      by_cases z : t.2 s = 48
      · rw [if_neg (by omega), if_neg (by omega), if_pos z, if_neg (by omega)]
        exact ⟨rfl, fun q => by omega, all⟩
      · rw [if_pos (Or.inr ⟨rfl, z⟩), if_neg (by omega), if_neg z, if_pos rfl, if_neg (by omega)]
        exact ⟨rfl, fun q => by omega, all⟩
    · rw [if_neg (by omega)]
      refine ⟨?_, fun q => by omega, all⟩
      by_cases z : t.2 s = 48
      · rw [if_pos z]
        split
        · rfl
        · rw [if_neg (by omega)]; rfl
      · have := vaA_3 all z n (by omega) (Nat.le_refl _)
        rw [if_pos (by omega)]; rfl
theorem tok_oth {t : Tx} {s : Nat} (h : isLB (t.2 s) = false) (h2 : isDB (t.2 s) = false) : tokE t s = s + 1 ∧ srt (tokK t s) = (if t.2 s = 59 then 6 else 7) ∧ tokK t s ≠ 4 := by
  have e : tokE t s = s + 1 := by unfold tokE; rw [if_neg (by rw [h]; decide), if_neg (by rw [h2]; decide)]
  refine ⟨e, ?_⟩
  unfold tokK
  rw [if_neg (by rw [h2]; decide), e, show s + 1 - s = 1 by omega]
  by_cases c : t.2 s = 59
  · rw [if_pos c, if_pos c]; exact ⟨rfl, by omega⟩
  · rw [if_neg c, if_neg c, wrdK_7 (by rw [wrd_len]; omega) (by rw [wrd_len]; omega) (by rw [wrd_len]; omega)]; exact ⟨rfl, by omega⟩
