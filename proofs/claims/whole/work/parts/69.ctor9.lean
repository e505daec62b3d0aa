set_option maxHeartbeats 16000000 in
set_option maxRecDepth 100000 in
theorem kX9_init (l : Launch) (D : va_G) (cy : Nat → ClassId) (zb : Nat → Nat) (h0 sz : Nat) : Met l yX9_init wsX9_init rmX9_init (va_Pc [.ref h0] (pre9 D cy zb h0 sz)) (va_Qv (fun u : (Nat → Nat) × St => u.1 0 = h0 ∧ P9 u.2) (fun u t => va_P D vwCl (xW (wC u.1 cy zb) u.2) t.heap ∧ va_D (va_A [(h0, e9)] sz) (xW (wC u.1 cy zb) u.2)) (va_A [(h0, e9)] sz)) 74 3754 (va_A [(h0, e9)] sz) := by
  sorry
