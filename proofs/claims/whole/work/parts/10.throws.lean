/-! ROWS OF THE SMALL MACHINE: throws, catches, new things -/
section MRT
variable {S : Nat × (Nat → Int32)} {M M' : mM} {pc k n kf nf : Nat} {L : List (Option Value)} {st : List Value} {h : mH} {r r' : mR} {As : List Value}
/-- the words of 'throw new E("text")' in the class own -/
def mLkT (own : String) (ik is ic : Nat) (E text : String) (names : List String) : Prop :=
  own = RX0 ∧ (is, text) ∈ mStrs ∧ E ∈ mCast ∧ Jvm.Bundle.fit E = true ∧ (∀ q ∈ names, Jvm.Bundle.fit q = true) ∧ Cond.classLink own ik E ∈ mTW ∧ Cond.initialized E ∈ mTW ∧ (∀ w ∈ vx_atS own ic E names, w = .castable E E ∨ (∃ q ∈ mDecl, w = .declares q) ∨ w ∈ mTW)
theorem mr_throw {ik is ic : Nat} {E text : String} {names : List String} (d0 : mAt M pc = some (.new ik, 3)) (d3 : mAt M (pc + 3) = some (.dup, 1)) (d4 : mAt M (pc + 4) = some (.ldc is, 2)) (d6 : mAt M (pc + 6) = some (.invokespecial ic, 3)) (d9 : mAt M (pc + 9) = some (.athrow, 1))
    (lk : mLkT M.1.cls ik is ic E text names) (htab : M.2.2.2.2.1 = []) (hfr : names.length + 3 < M.2.2.2.2.2.1) (hlo : (st.map fun v => v.category).sum + (13 * (names.length + 1) + 43) ≤ M.2.2.2.2.2.2.1) (hk' : k + 1 ≤ kf) (hn' : n + 6 ≤ nf) : mF S M pc L st h k n (.inr E, h, kf, nf) := by
  intro N0 b sa D cy a0 z0 p l e R s m args below meth c C hk hn ad H locs ls X
  obtain ⟨t1, t2, t3, t4, t5, t6, t7, t8⟩ := lk
  obtain ⟨g1, g2, g3, g4, g5, g6, g7, g8, g9⟩ := C.G
  have hk : kf ≤ R.cells := hk
  have hn : nf ≤ R.slots := hn
  have hcast : (Cond.castable E E).before args s = true := va_Nw.use rfl (g2.1 E t3)
  refine vx_throwS (own := M.1.cls) (cls := E) (text := text) (names := names) (ik := ik) (is := is) (ic := ic) (sa := sa is) (A := mA N0) C.1 C.2.1 C.2.2.2.2.2.2.2.2.2.2.1 C.own t4 t5 (C.ts _ t6) (C.ts _ t7) (by rw [t1]; exact g4 (is, text) t2) ?_ ?_ g5 g6 X.2.2.1 (X.2.2.2.1.1.trans C.2.2.2.2.2.1.symm)
    (mAt_dec C.2.2.1 d0) (mAt_dec C.2.2.1 d3) (mAt_dec C.2.2.1 d4) (mAt_dec C.2.2.1 d6) (mAt_dec C.2.2.1 d9) ?_ (Nat.lt_of_lt_of_le hfr C.2.2.2.2.2.2.2.2.2.2.2.2.2.1) ?_ (Nat.le_trans hk' hk) (Nat.le_trans hn' hn) C.locks ?_ X.2.2.1.2.2 hk' hn'
  · intro w hw
    rcases t8 w hw with rfl | ⟨q, hq, rfl⟩ | h9
    · exact hcast
    · exact va_Nw.use rfl (g2.2 q hq)
    · exact C.ts w h9
  · intro w hw
    rcases List.mem_cons.mp hw with rfl | hw
    · rfl
    · rcases List.mem_cons.mp hw with rfl | hw
      · rfl
      · rcases t8 w hw with rfl | ⟨q, hq, rfl⟩ | h9
        · rfl
        · rfl
        · unfold vx_ot
          rw [(m_good h9).2, Bool.or_true]
  · intro x hx
    rw [C.2.2.2.2.2.2.2.2.2.1, htab] at hx
    cases hx
  · rw [m_sum]
    exact Nat.le_trans hlo C.2.2.2.2.2.2.2.2.2.2.2.2.2.2
  · intro t al hz hq
    refine ⟨rfl, ad, X.2.2.2.2.1, X.2.2.2.2.2.1, X.2.2.2.2.2.2, ?_, X.2.1, ?_⟩
    · intro j q hj
      exact (X.1 j q hj).kept (hq q.1 (X.1 j q hj).lt)
    · exact ⟨Nat.le_trans X.2.2.1.1 hz, fun j hj hA => by rw [hq j (Nat.lt_of_lt_of_le hj X.2.2.1.1)]; exact X.2.2.1.2.1 j hj hA⟩
/-- a call that throws, caught here; what is caught is laid away -/
theorem mr_caught {rest : List Value} {E : String} {h' : mH} {k' n' i len : Nat} (pre : List (Nat × Nat × Nat × Nat)) (x : Nat × Nat × Nat × Nat) (suf : List (Nat × Nat × Nat × Nat)) (hrun : mRun S M pc L st rest h k n (.inr E, h', k', n')) (htab : M.2.2.2.2.1 = pre ++ x :: suf) (hl : h'.length = h.length) (hk' : k + k' ≤ r.2.2.1) (hn' : n + n' ≤ r.2.2.2)
    (hpre : ∀ z ∈ pre, z.2.2.2 ≠ 0 ∧ ∃ nm : String, Cond.classLink M.1.cls z.2.2.2 nm ∈ mTW ∧ (E, nm) ∈ mNcs) (hx : covers ⟨x.1, x.2.1, x.2.2.1, x.2.2.2⟩ pc = true) (h0 : x.2.2.2 ≠ 0) (hE : Cond.classLink M.1.cls x.2.2.2 E ∈ mTW) (hEc : E ∈ mCast)
    (hi : i < M.2.2.1) (hc1 : mOk1 L i = true) (hd : mAt M x.2.2.1 = some (.astore i, 2) ∧ len = 2 ∨ ∃ j : Fin 4, mAt M x.2.2.1 = some (.astore_n j, 1) ∧ (j : Nat) = i ∧ len = 1) (k9 : mF S M (x.2.2.1 + len) (L.set i none) [] h' (k + k') (n + n') r) : mF S M pc L st h k n r := by
  intro N0 b sa D cy a0 z0 p l e R s m args below meth c C hk hn ad H locs ls X
  obtain ⟨av, hr⟩ := hrun N0 b sa D cy a0 z0 p l e R s m args below meth c C (Nat.le_trans hk' hk) (Nat.le_trans hn' hn) ad H locs ls X
  obtain ⟨g1, g2, g3, g4, g5, g6, g7, g8, g9⟩ := C.G
  intro T hT Y
  rcases hr T hT Y with ⟨w, st₀, t, T', L', h0', Y', hL, e1, e2, ⟨v2, ad2, e3, -⟩, go⟩ | ⟨q, st₀, t, T', L', E2, ce, h0', Y', hL, e1, e2, ⟨e3, ad2, p1, p2, p3, p4, p5, p6⟩, hce, hcv, hcl, go⟩
  · cases e3
  · cases e3
    have e5 : ad2 = ad := funext fun j => p1 j (by
      show j < h.length ∨ h'.length ≤ j
      omega)
    subst e5
    have hS2 : va_S (mA N0) s.heap T'.heap (locs ++ L') := by
      obtain ⟨f1, f2⟩ := p6
      rw [h0'] at f1 f2
      refine ⟨Nat.le_trans X.2.2.1.1 (by rw [e1]; exact f1), fun j hj hA => ?_, fun j hj => ?_⟩
      · rw [e1, f2 j (Nat.lt_of_lt_of_le hj X.2.2.1.1) hA]
        exact X.2.2.1.2.1 j hj hA
      · rcases List.mem_append.mp hj with z | z
        · exact X.2.2.1.2.2 j z
        · exact hL j z
    have fin : ∀ ls' : Array Slot, mL ad2 ls' M.2.2.1 (L.set i none) → W p l e R s m args below meth c T'.heap (locs ++ L') (k + k') (n + n') (vx_MQ below (mQc N0 D cy a0 z0 r) (mXC N0 D cy a0 z0 r) args s r.2.2.1 r.2.2.2 (mA N0)) (F0 m (x.2.2.1 + len) ls' []) := fun ls' hl' =>
      k9 N0 b sa D cy a0 z0 p l e R s m args below meth c C hk hn ad2 T'.heap (locs ++ L') ls' ⟨by rw [e1]; exact p4, p5, hS2, hl', fun j hj => X.2.2.2.2.1 j (by rw [hl] at hj; exact hj), by rw [hl]; exact X.2.2.2.2.2.1, by rw [hl]; exact X.2.2.2.2.2.2⟩
    have key : vx_W p l e R s m args below meth c T'.heap (locs ++ L') (k + k') (n + n') (vx_MQ below (mQc N0 D cy a0 z0 r) (mXC N0 D cy a0 z0 r) args s r.2.2.1 r.2.2.2 (mA N0)) (F0 m pc ls (rest.map (mv ad2))) q := by
      refine vx_catch (own := M.1.cls) (name := E) (E := E) (ce := ce) C.own (tableOf pre) ⟨x.1, x.2.1, x.2.2.1, x.2.2.2⟩ (tableOf suf) ?_ ?_ hx h0 (C.ts _ hE) (va_Nw.use rfl (g2.1 E hEc)) (by rw [e1]; exact hce) hcv hcl ?_
      · rw [C.2.2.2.2.2.2.2.2.2.1, htab]
        simp [tableOf]
      · intro z hz
        unfold tableOf at hz
        obtain ⟨z', hz', rfl⟩ := List.mem_map.mp hz
        obtain ⟨y1, nm, y2, y3⟩ := hpre z' hz'
        exact Or.inr ⟨y1, nm, C.ts _ y2, g3.1 (E, nm) y3⟩
      · show W p l e R s m args below meth c T'.heap (locs ++ L') (k + k') (n + n') _ (F0 m x.2.2.1 ls [.ref q])
        rcases hd with ⟨hd, rfl⟩ | ⟨j, hd, rfl, rfl⟩
        · exact lv_astore C.1 C.2.1 (mAt_dec C.2.2.1 hd) X.2.2.2.1.has hi rfl (fun ls' h9 => fin ls' (mL.set0 hc1 h9))
        · exact lv_astore_n C.1 C.2.1 (mAt_dec C.2.2.1 hd) rfl X.2.2.2.1.has hi rfl (fun ls' h9 => fin ls' (mL.set0 hc1 h9))
    obtain ⟨t2, a1, b1⟩ := key T' rfl Y'
    exact ⟨t2, go.trans a1, b1⟩
end MRT
