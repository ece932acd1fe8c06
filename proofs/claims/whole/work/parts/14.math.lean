/-! ROWS OF THE SMALL MACHINE: Math -/
section MRM
variable {S : Nat × (Nat → Int32)} {M : mM} {pc k n : Nat} {L : List (Option Value)} {st : List Value} {h : mH} {r : mR}
theorem mr_mmax {x y : Int32} (hf : mAt M pc = some (.invokestatic 175, 3)) (ho : M.1.cls = RX0) (hfr : 1 ≤ M.2.2.2.2.2.1) (hlo : (st.map fun v => v.category).sum + 15 ≤ M.2.2.2.2.2.2.1) (hk' : k ≤ r.2.2.1) (hn' : n ≤ r.2.2.2) (k9 : mF S M (pc + 3) L (.int (if x < y then y else x) :: st) h k n r) : mF S M pc L (.int y :: .int x :: st) h k n r := by
  intro N0 b sa D cy a0 z0 p l e R s m args below meth c C hk hn ad H locs ls X
  refine va_mmax C.1 C.2.1 (C.2.2.2.2.2.1.trans X.2.2.2.1.1.symm) (own := RX0) (by rw [← ho]; exact C.own) (C.ts _ lm175.1) (C.ts _ lm175.2.1) (C.ts _ lm175.2.2.1) (C.ts _ lm175.2.2.2) (Nat.le_trans hfr C.2.2.2.2.2.2.2.2.2.2.2.2.2.1) ?_ (Nat.le_trans hk' hk) (Nat.le_trans hn' hn) (mAt_dec C.2.2.1 hf) (k9 N0 b sa D cy a0 z0 p l e R s m args below meth c C hk hn ad H locs ls X)
  rw [m_sum]
  have := C.2.2.2.2.2.2.2.2.2.2.2.2.2.2
  omega
theorem mr_mmin {x y : Int32} (hf : mAt M pc = some (.invokestatic 186, 3)) (ho : M.1.cls = RX0) (hfr : 1 ≤ M.2.2.2.2.2.1) (hlo : (st.map fun v => v.category).sum + 15 ≤ M.2.2.2.2.2.2.1) (hk' : k ≤ r.2.2.1) (hn' : n ≤ r.2.2.2) (k9 : mF S M (pc + 3) L (.int (if y < x then y else x) :: st) h k n r) : mF S M pc L (.int y :: .int x :: st) h k n r := by
  intro N0 b sa D cy a0 z0 p l e R s m args below meth c C hk hn ad H locs ls X
  refine va_mmin C.1 C.2.1 (C.2.2.2.2.2.1.trans X.2.2.2.1.1.symm) (own := RX0) (by rw [← ho]; exact C.own) (C.ts _ lm186.1) (C.ts _ lm186.2.1) (C.ts _ lm186.2.2.1) (C.ts _ lm186.2.2.2) (Nat.le_trans hfr C.2.2.2.2.2.2.2.2.2.2.2.2.2.1) ?_ (Nat.le_trans hk' hk) (Nat.le_trans hn' hn) (mAt_dec C.2.2.1 hf) (k9 N0 b sa D cy a0 z0 p l e R s m args below meth c C hk hn ad H locs ls X)
  rw [m_sum]
  have := C.2.2.2.2.2.2.2.2.2.2.2.2.2.2
  omega
theorem mr_mabs {x : Int32} (hf : mAt M pc = some (.invokestatic 180, 3)) (ho : M.1.cls = RX0) (hfr : 1 ≤ M.2.2.2.2.2.1) (hlo : (st.map fun v => v.category).sum + 15 ≤ M.2.2.2.2.2.2.1) (hk' : k ≤ r.2.2.1) (hn' : n ≤ r.2.2.2) (k9 : mF S M (pc + 3) L (.int (if 0 ≤ x then x else 0 - x) :: st) h k n r) : mF S M pc L (.int x :: st) h k n r := by
  intro N0 b sa D cy a0 z0 p l e R s m args below meth c C hk hn ad H locs ls X
  refine va_mabs C.1 C.2.1 (C.2.2.2.2.2.1.trans X.2.2.2.1.1.symm) (own := RX0) (by rw [← ho]; exact C.own) (C.ts _ lm180.1) (C.ts _ lm180.2.1) (C.ts _ lm180.2.2.1) (C.ts _ lm180.2.2.2) (Nat.le_trans hfr C.2.2.2.2.2.2.2.2.2.2.2.2.2.1) ?_ (Nat.le_trans hk' hk) (Nat.le_trans hn' hn) (mAt_dec C.2.2.1 hf) (k9 N0 b sa D cy a0 z0 p l e R s m args below meth c C hk hn ad H locs ls X)
  rw [m_sum]
  have := C.2.2.2.2.2.2.2.2.2.2.2.2.2.2
  omega
theorem mr_lmin {x y : Int64} (hf : mAt M pc = some (.invokestatic 189, 3)) (ho : M.1.cls = RX0) (hfr : 1 ≤ M.2.2.2.2.2.1) (hlo : (st.map fun v => v.category).sum + 15 ≤ M.2.2.2.2.2.2.1) (hk' : k ≤ r.2.2.1) (hn' : n ≤ r.2.2.2) (k9 : mF S M (pc + 3) L (.long (if y < x then y else x) :: st) h k n r) : mF S M pc L (.long y :: .long x :: st) h k n r := by
  intro N0 b sa D cy a0 z0 p l e R s m args below meth c C hk hn ad H locs ls X
  refine va_mmin_long C.1 C.2.1 (C.2.2.2.2.2.1.trans X.2.2.2.1.1.symm) (own := RX0) (by rw [← ho]; exact C.own) (C.ts _ lm189.1) (C.ts _ lm189.2.1) (C.ts _ lm189.2.2.1) (C.ts _ lm189.2.2.2) (Nat.le_trans hfr C.2.2.2.2.2.2.2.2.2.2.2.2.2.1) ?_ (Nat.le_trans hk' hk) (Nat.le_trans hn' hn) (mAt_dec C.2.2.1 hf) (k9 N0 b sa D cy a0 z0 p l e R s m args below meth c C hk hn ad H locs ls X)
  rw [m_sum]
  have := C.2.2.2.2.2.2.2.2.2.2.2.2.2.2
  omega
end MRM
