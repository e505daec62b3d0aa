section LLL
variable {p : Program} {l : Launch} {e : Env} {s : State} {m : MethodId} {args : Array Value} {below : List Frame} {meth : Method} {c : Code} {Q : State → Prop} {D : va_G} {cy : Nat → ClassId} {aC aM : Nat → Nat} {b L : Nat} {xs : Nat → Int32} {zb : Nat → Nat} {σ μ : St}
theorem in_k {k j L : Nat} (hL : L ≤ 2048) (h : 4 * k + 4 ≤ L) (hj : j < 4) : vp_in (nI (4 * k) + nI j) L := by
  rw [nI_add]
  exact vp_in_nI (by omega) (by omega)
set_option maxHeartbeats 4000000 in
theorem law_loop (X : ZZ p s m #[Value.ref b] meth c D cy aC aM b L xs zb) (hr : meth.sig.returnType = ret) (hlocks : meth.locks = false) : ∀ (n k : Nat) (σ μ : St), L < 4 * (k + n) → 4 * k ≤ 2052 → RR σ μ → LL p l e s m #[Value.ref b] below meth c (lw_Z below #[Value.ref b] s) D cy aC aM zb σ μ 18 (lvL b aC aM k) [] := by
  have hL : L ≤ 2048 := X.2.2.2.2.2.2.2.2.2.2
  have fin0 : ∀ (k : Nat) (σ μ : St), L < 4 * k + 4 → 4 * k ≤ 2052 → LL p l e s m #[Value.ref b] below meth c (lw_Z below #[Value.ref b] s) D cy aC aM zb σ μ 18 (lvL b aC aM k) [] := by
    intro k σ μ hk hk2
    refine ll_iload_n (q := 19) X 3 dL_law_18 rfl rfl rfl ?_
    refine ll_aload_n (q := 20) X 0 dL_law_19 rfl rfl rfl ?_
    refine ll_len (q := 21) X dL_law_20 rfl ?_
    refine ll_iconst (q := 22) X (4 : Int32) dL_law_21 (by decide) rfl ?_
    refine ll_isub (q := 23) X dL_law_22 rfl ?_
    refine ll_icmp_gt (q := 26) X 773 dL_law_23 (by decide) rfl (fun _ => ?_) (fun c9 => ?_)
    · refine ll_iconst (q := 774) X (1 : Int32) dL_law_773 (by decide) rfl ?_
      intro ls hls H locs hP hM hS
      refine va_forget hS.2.2 ?_
      refine W.widen (k := 600000) (n := 7302250) (Nat.le_of_ble_eq_true rfl) (Nat.le_of_ble_eq_true rfl) ?_
      exact lw_ret X.1.1 X.1.2.1 hr hlocks dL_law_774
    · exfalso
      refine c9 (Int32.lt_iff_toInt_lt.mpr ?_)
      rw [show (4 : Int32) = nI 4 from rfl, pk_sub_toInt (by omega) (by omega), toI (by omega)]
      omega
  intro n
  induction n with
  | zero =>
    intro k σ μ hk hk2 hR
    exact fin0 k σ μ (by omega) hk2
  | succ n ih =>
    intro k σ μ hk hk2 hR
    by_cases hlt : L < 4 * k + 4
    · exact fin0 k σ μ hlt (by omega)
    refine ll_iload_n (q := 19) X 3 dL_law_18 rfl rfl rfl ?_
    refine ll_aload_n (q := 20) X 0 dL_law_19 rfl rfl rfl ?_
    refine ll_len (q := 21) X dL_law_20 rfl ?_
    refine ll_iconst (q := 22) X (4 : Int32) dL_law_21 (by decide) rfl ?_
    refine ll_isub (q := 23) X dL_law_22 rfl ?_
    refine ll_icmp_gt (q := 26) X 773 dL_law_23 (by decide) rfl (fun c9 => ?_) (fun _ => ?_)
    · exfalso
      have c9 := Int32.lt_iff_toInt_lt.mp c9
      rw [show (4 : Int32) = nI 4 from rfl, pk_sub_toInt (by omega) (by omega), toI (by omega)] at c9
      omega
    have hin0 : vp_in (nI (4 * k)) L := vp_in_nI (by omega) (by omega)
    have hin1 : vp_in (nI (4 * k) + (1 : Int32)) L := in_k (j := 1) hL (by omega) (by omega)
    have hin2 : vp_in (nI (4 * k) + (2 : Int32)) L := in_k (j := 2) hL (by omega) (by omega)
    have hin3 : vp_in (nI (4 * k) + (3 : Int32)) L := in_k (j := 3) hL (by omega) (by omega)
    have fin : ∀ σ1 μ1, RR σ1 μ1 → LL p l e s m #[Value.ref b] below meth c (lw_Z below #[Value.ref b] s) D cy aC aM zb σ1 μ1 767 (lvL b aC aM k) [] := by
      intro σ1 μ1 h1
      refine ll_iinc (q := 770) (v := nI (4 * (k + 1))) (lv2 := [(3, .int (nI (4 * (k + 1)))), (0, .ref b), (1, .ref (aC 0)), (2, .ref (aM 0))]) X 3 dL_law_767 rfl (by rw [show Int32.ofInt 4 = nI 4 from rfl, nI_add]; rfl) (by decide) rfl rfl ?_
      refine ll_goto X 18 dL_law_770 (by decide) ?_
      refine ll_sub (lv' := lvL b aC aM (k + 1)) [1, 2, 3, 0] rfl ?_
      exact ih (k + 1) σ1 μ1 (by omega) (by omega) h1
    refine ll_aload_n (q := 27) X 0 dL_law_26 rfl rfl rfl ?_
    refine ll_iload_n (q := 28) X 3 dL_law_27 rfl rfl rfl ?_
    refine ll_iald (q := 29) X hin0 dL_law_28 rfl ?_
    refine ll_bipush (q := 31) X (31 : Int32) dL_law_29 (by decide) rfl ?_
    refine ll_iand (q := 32) X dL_law_31 rfl ?_
    obtain ⟨x, hx⟩ : ∃ x, x = msk (xs (nI (4 * k)).toNatClampNeg) 5 := ⟨_, rfl⟩
    have e31 : (xs (nI (4 * k)).toNatClampNeg) &&& (31 : Int32) = nI x := by rw [hx]; exact msk_eq _ (k := 5) (by omega)
    have lx : x < 32 := by rw [hx]; exact msk_lt _ (k := 5) (by omega)
    rw [e31]
    clear hx e31
    rcases (show x = 0 ∨ x = 1 ∨ x = 2 ∨ x = 3 ∨ x = 4 ∨ x = 5 ∨ x = 6 ∨ x = 7 ∨ x = 8 ∨ x = 9 ∨ x = 10 ∨ x = 11 ∨ x = 12 ∨ x = 13 ∨ x = 14 ∨ x = 15 ∨ x = 16 ∨ x = 17 ∨ x = 18 ∨ x = 19 ∨ x = 20 ∨ x = 21 ∨ x = 22 ∨ x = 23 ∨ 24 ≤ x by omega) with rfl | rfl | rfl | rfl | rfl | rfl | rfl | rfl | rfl | rfl | rfl | rfl | rfl | rfl | rfl | rfl | rfl | rfl | rfl | rfl | rfl | rfl | rfl | rfl | h24
    · exact ll_tabIn (off := 112) X 144 dL_law_32 (by decide) (by decide) (by decide) (by decide) (lc_type X hin1 hin2 hin3 hR fin)
    · exact ll_tabIn (off := 175) X 207 dL_law_32 (by decide) (by decide) (by decide) (by decide) (lc_clear X hin1 hin2 hin3 hR fin)
    · exact ll_tabIn (off := 188) X 220 dL_law_32 (by decide) (by decide) (by decide) (by decide) (lc_orchard X hin1 hin2 hin3 hR fin)
    · exact ll_tabIn (off := 201) X 233 dL_law_32 (by decide) (by decide) (by decide) (by decide) (lc_half X hin1 hin2 hin3 hR fin)
    · exact ll_tabIn (off := 234) X 266 dL_law_32 (by decide) (by decide) (by decide) (by decide) (lc_tree X hin1 hin2 hin3 hR fin)
    · exact ll_tabIn (off := 267) X 299 dL_law_32 (by decide) (by decide) (by decide) (by decide) (lc_fit X hin1 hin2 hin3 hR fin)
    · exact ll_tabIn (off := 300) X 332 dL_law_32 (by decide) (by decide) (by decide) (by decide) (lc_climb X hin1 hin2 hin3 hR fin)
    · exact ll_tabIn (off := 343) X 375 dL_law_32 (by decide) (by decide) (by decide) (by decide) (lc_ends X hin1 hin2 hin3 hR fin)
    · exact ll_tabIn (off := 356) X 388 dL_law_32 (by decide) (by decide) (by decide) (by decide) (lc_now X hin1 hin2 hin3 hR fin)
    · exact ll_tabIn (off := 379) X 411 dL_law_32 (by decide) (by decide) (by decide) (by decide) (lc_year X hin1 hin2 hin3 hR fin)
    · exact ll_tabIn (off := 392) X 424 dL_law_32 (by decide) (by decide) (by decide) (by decide) (lc_lot X hin1 hin2 hin3 hR fin)
    · exact ll_tabIn (off := 415) X 447 dL_law_32 (by decide) (by decide) (by decide) (by decide) (lc_best X hin1 hin2 hin3 hR fin)
    · exact ll_tabIn (off := 438) X 470 dL_law_32 (by decide) (by decide) (by decide) (by decide) (lc_season X hin1 hin2 hin3 hR fin)
    · exact ll_tabIn (off := 461) X 493 dL_law_32 (by decide) (by decide) (by decide) (by decide) (lc_whole X hin1 hin2 hin3 hR fin)
    · exact ll_tabIn (off := 484) X 516 dL_law_32 (by decide) (by decide) (by decide) (by decide) (lc_worth X hin1 hin2 hin3 hR fin)
    · exact ll_tabIn (off := 517) X 549 dL_law_32 (by decide) (by decide) (by decide) (by decide) (lc_asked X hin1 hin2 hin3 hR fin)
    · exact ll_tabIn (off := 540) X 572 dL_law_32 (by decide) (by decide) (by decide) (by decide) (lc_rests X hin1 hin2 hin3 hR fin)
    · exact ll_tabIn (off := 553) X 585 dL_law_32 (by decide) (by decide) (by decide) (by decide) (lc_cuts X hin1 hin2 hin3 hR fin)
    · exact ll_tabIn (off := 576) X 608 dL_law_32 (by decide) (by decide) (by decide) (by decide) (lc_whose X hin1 hin2 hin3 hR fin)
    · exact ll_tabIn (off := 619) X 651 dL_law_32 (by decide) (by decide) (by decide) (by decide) (lc_mark X hin1 hin2 hin3 hR fin)
    · exact ll_tabIn (off := 652) X 684 dL_law_32 (by decide) (by decide) (by decide) (by decide) (lc_keep X hin1 hin2 hin3 hR fin)
    · exact ll_tabIn (off := 675) X 707 dL_law_32 (by decide) (by decide) (by decide) (by decide) (lc_back X hin1 hin2 hin3 hR fin)
    · exact ll_tabIn (off := 698) X 730 dL_law_32 (by decide) (by decide) (by decide) (by decide) (lc_count X hin1 hin2 hin3 hR fin)
    · exact ll_tabIn (off := 721) X 753 dL_law_32 (by decide) (by decide) (by decide) (by decide) (lc_trace X hin1 hin2 hin3 hR fin)
    · exact ll_tabOut X 767 dL_law_32 (Or.inr (by rw [toI (by omega)]; omega)) (by decide) (fin σ μ hR)
end LLL
