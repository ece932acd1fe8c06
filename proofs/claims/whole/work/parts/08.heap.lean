/-! ROWS OF THE SMALL MACHINE: the heap, the ends -/
section MRH
variable {S : Nat × (Nat → Int32)} {M : mM} {pc k n kf nf : Nat} {L : List (Option Value)} {st : List Value} {h : mH} {r : mR}
theorem mC.ts {S : Nat × (Nat → Int32)} {M : mM} {N0 b : Nat} {sa : Nat → Nat} {D : va_G} {cy : Nat → ClassId} {a0 : Nat → Nat} {p : Program} {l : Launch} {R : Room} {s : State} {m : MethodId} {args : Array Value} {meth : Method} {c : Code} (C : mC S M N0 b sa D cy a0 p l R s m args meth c) : ∀ w ∈ mTW, w.before args s = true := C.2.2.2.2.2.2.2.2.1
theorem mC.own {S : Nat × (Nat → Int32)} {M : mM} {N0 b : Nat} {sa : Nat → Nat} {D : va_G} {cy : Nat → ClassId} {a0 : Nat → Nat} {p : Program} {l : Launch} {R : Room} {s : State} {m : MethodId} {args : Array Value} {meth : Method} {c : Code} (C : mC S M N0 b sa D cy a0 p l R s m args meth c) : s.vm.findClass M.1.cls = some m.cls := C.2.2.2.2.2.2.1
theorem mC.G {S : Nat × (Nat → Int32)} {M : mM} {N0 b : Nat} {sa : Nat → Nat} {D : va_G} {cy : Nat → ClassId} {a0 : Nat → Nat} {p : Program} {l : Launch} {R : Room} {s : State} {m : MethodId} {args : Array Value} {meth : Method} {c : Code} (C : mC S M N0 b sa D cy a0 p l R s m args meth c) : mG N0 b S sa D cy s s.heap := C.2.2.2.2.2.2.2.2.2.2.2.1
theorem mC.K {S : Nat × (Nat → Int32)} {M : mM} {N0 b : Nat} {sa : Nat → Nat} {D : va_G} {cy : Nat → ClassId} {a0 : Nat → Nat} {p : Program} {l : Launch} {R : Room} {s : State} {m : MethodId} {args : Array Value} {meth : Method} {c : Code} (C : mC S M N0 b sa D cy a0 p l R s m args meth c) : va_K D mCl (mTys cy) s := C.G.1
theorem mC.locks {S : Nat × (Nat → Int32)} {M : mM} {N0 b : Nat} {sa : Nat → Nat} {D : va_G} {cy : Nat → ClassId} {a0 : Nat → Nat} {p : Program} {l : Launch} {R : Room} {s : State} {m : MethodId} {args : Array Value} {meth : Method} {c : Code} (C : mC S M N0 b sa D cy a0 p l R s m args meth c) : meth.locks = false := C.2.2.2.2.1
theorem mC.ret {S : Nat × (Nat → Int32)} {M : mM} {N0 b : Nat} {sa : Nat → Nat} {D : va_G} {cy : Nat → ClassId} {a0 : Nat → Nat} {p : Program} {l : Launch} {R : Room} {s : State} {m : MethodId} {args : Array Value} {meth : Method} {c : Code} (C : mC S M N0 b sa D cy a0 p l R s m args meth c) : meth.sig.returnType = M.2.2.2.1 := C.2.2.2.1
theorem mC.sz {S : Nat × (Nat → Int32)} {M : mM} {N0 b : Nat} {sa : Nat → Nat} {D : va_G} {cy : Nat → ClassId} {a0 : Nat → Nat} {p : Program} {l : Launch} {R : Room} {s : State} {m : MethodId} {args : Array Value} {meth : Method} {c : Code} (C : mC S M N0 b sa D cy a0 p l R s m args meth c) : N0 ≤ s.heap.size := C.G.2.2.2.2.2.2.2.2
/-- the ends -/
theorem mr_ireturn {x : Int32} (hf : mAt M pc = some (.ireturn, 1)) (hr : M.2.2.2.1 = some .int) (hk' : k ≤ kf) (hn' : n ≤ nf) : mF S M pc L [.int x] h k n (.inl (some (.int x)), h, kf, nf) := by
  intro N0 b sa D cy a0 z0 p l e R s m args below meth c C hk hn ad H locs ls X
  refine W.widen hk' hn' (vx_ret ?_)
  exact W.iret (v := x) C.1 C.2.1 (C.ret.trans hr) (fun t ht hW => ⟨some (.int x), ad, rfl, rfl, X.2.2.2.2.1, X.2.2.2.2.2.1, X.2.2.2.2.2.2, by rw [ht]; exact X.1, X.2.1, X.2.2.1.F ht⟩) X.2.2.1.2.2 (mAt_dec C.2.2.1 hf) C.locks
theorem mr_zreturn {x : Int32} (hf : mAt M pc = some (.ireturn, 1)) (hr : M.2.2.2.1 = some .boolean) (hx : x = 0 ∨ x = 1) (hk' : k ≤ kf) (hn' : n ≤ nf) : mF S M pc L [.int x] h k n (.inl (some (.int x)), h, kf, nf) := by
  intro N0 b sa D cy a0 z0 p l e R s m args below meth c C hk hn ad H locs ls X
  refine W.widen hk' hn' (vx_ret ?_)
  exact W.zret (v := x) (ty := .boolean) C.1 C.2.1 (C.ret.trans hr) (by rcases hx with rfl | rfl <;> rfl) (fun t ht hW => ⟨some (.int x), ad, rfl, rfl, X.2.2.2.2.1, X.2.2.2.2.2.1, X.2.2.2.2.2.2, by rw [ht]; exact X.1, X.2.1, X.2.2.1.F ht⟩) X.2.2.1.2.2 (mAt_dec C.2.2.1 hf) C.locks
theorem mr_lreturn {x : Int64} (hf : mAt M pc = some (.lreturn, 1)) (hr : M.2.2.2.1 = some .long) (hk' : k ≤ kf) (hn' : n ≤ nf) : mF S M pc L [.long x] h k n (.inl (some (.long x)), h, kf, nf) := by
  intro N0 b sa D cy a0 z0 p l e R s m args below meth c C hk hn ad H locs ls X
  refine W.widen hk' hn' (vx_ret ?_)
  exact W.lret (v := x) C.1 C.2.1 (C.ret.trans hr) (fun t ht hW => ⟨some (.long x), ad, rfl, rfl, X.2.2.2.2.1, X.2.2.2.2.2.1, X.2.2.2.2.2.2, by rw [ht]; exact X.1, X.2.1, X.2.2.1.F ht⟩) X.2.2.1.2.2 (mAt_dec C.2.2.1 hf) C.locks
theorem mr_return (hf : mAt M pc = some (.return_, 1)) (hr : M.2.2.2.1 = none) (hk' : k ≤ kf) (hn' : n ≤ nf) : mF S M pc L [] h k n (.inl none, h, kf, nf) := by
  intro N0 b sa D cy a0 z0 p l e R s m args below meth c C hk hn ad H locs ls X
  refine W.widen hk' hn' (vx_ret ?_)
  exact W.vret C.1 C.2.1 (C.ret.trans hr) (fun t ht hW => ⟨none, ad, rfl, rfl, X.2.2.2.2.1, X.2.2.2.2.2.1, X.2.2.2.2.2.2, by rw [ht]; exact X.1, X.2.1, X.2.2.1.F ht⟩) X.2.2.1.2.2 (mAt_dec C.2.2.1 hf) C.locks
/-- an int constant of the pool -/
theorem mr_ldc {i : Nat} {v : Int32} (hf : mAt M pc = some (.ldc i, 2)) (hw : Cond.constant M.1.cls i v ∈ mTW) (k9 : mF S M (pc + 2) L (.int v :: st) h k n r) : mF S M pc L st h k n r :=
  fun N0 b sa D cy a0 z0 p l e R s m args below meth c C hk hn ad H locs ls X => lv_ldc C.1 C.2.1 C.own (C.ts _ hw) (mAt_dec C.2.2.1 hf) (k9 N0 b sa D cy a0 z0 p l e R s m args below meth c C hk hn ad H locs ls X)
/-- a field by its entry: the class, the slot -/
def mLkF (own : String) (idx ci kf : Nat) : Prop := ∃ (C : String) (T : u_T) (N : Nat) (ty : Nat → FieldType), mCl[ci]? = some (C, T, N) ∧ kf < N ∧ Cond.fieldLink own idx (T kf).1 (T kf).2.1 (T kf).2.2.1 ∈ mTW ∧ (∀ w ∈ u_ws C T N, w ∈ mTW) ∧
  (∀ k, k < N → parseFieldDescriptor (T k).2.2.1 = some (ty k)) ∧ (∀ a, a < N → ∀ b, b < N → a ≠ b → (T a).2.1 ≠ (T b).2.1) ∧ (T kf).1 = own
theorem mr_getfield {idx ci j q : Nat} {fs : List Value} {v : Value} (hf : mAt M pc = some (.getfield idx, 3)) (lk : mLkF M.1.cls idx ci j) (hq : h[q]? = some (.inr (ci, fs))) (hv : fs[j]? = some v) (k9 : mF S M (pc + 3) L (v :: st) h k n r) : mF S M pc L (.ref q :: st) h k n r := by
  intro N0 b sa D cy a0 z0 p l e R s m args below meth c C hk hn ad H locs ls X
  obtain ⟨Cn, T, N, ty, hc, hj, hl, hin, -, -, -⟩ := lk
  refine va_get (D := D) (cl := mCl) (ci := ci) (C := Cn) (T := T) (N := N) C.1 C.2.1 C.ts hin C.own C.K X.1 q (fs := fs.map (mv ad)) (mw_at hq) hc j hj (C.ts _ hl) (fun _ h9 => h9) (v := mv ad v) (by rw [List.getElem?_map, hv]; rfl) (mAt_dec C.2.2.1 hf) ?_
  exact k9 N0 b sa D cy a0 z0 p l e R s m args below meth c C hk hn ad H locs ls X
theorem mS.upd {M : mM} {N0 : Nat} {D : va_G} {cy : Nat → ClassId} {a0 : Nat → Nat} {z0 : Nat} {s : State} {ad : Nat → Nat} {L : List (Option Value)} {h : mH} {H H1 : Heap} {locs locs1 : List Loc} {ls : Array Slot} {q : Nat} {e : mE} (X : mS M N0 D cy a0 z0 s ad L h H locs ls)
    (hP : va_P D mCl ((mw ad cy h).set q (ad q, mvE ad cy e)) H1) (hD : va_D (mA N0) ((mw ad cy h).set q (ad q, mvE ad cy e))) (hS : va_S (mA N0) s.heap H1 locs1) : mS M N0 D cy a0 z0 s ad L (h.set q e) H1 locs1 ls := by
  rw [mw_set] at hP hD
  exact ⟨hP, hD, hS, X.2.2.2.1, fun j hj => X.2.2.2.2.1 j (by rw [List.length_set] at hj; exact hj), by rw [List.length_set]; exact X.2.2.2.2.2.1, by rw [List.length_set]; exact X.2.2.2.2.2.2⟩
theorem mr_putfield {idx ci j q : Nat} {fs : List Value} {x : Int32} (hf : mAt M pc = some (.putfield idx, 3)) (lk : mLkF M.1.cls idx ci j) (hq : h[q]? = some (.inr (ci, fs))) (hl : j < fs.length) (hfin : ∀ q : vw_C, mCl[ci]? = some q → (q.2.1 j).2.2 = ("I", false))
    (k9 : mF S M (pc + 3) L st (h.set q (.inr (ci, fs.set j (.int x)))) k n r) : mF S M pc L (.int x :: .ref q :: st) h k n r := by
  intro N0 b sa D cy a0 z0 p l e R s m args below meth c C hk hn ad H locs ls X
  obtain ⟨Cn, T, N, ty, hc, hj, hlk, hin, hty, hnm, -⟩ := lk
  have hT : (T j).2.2 = ("I", false) := hfin _ hc
  refine va_put (D := D) (cl := mCl) (ci := ci) (C := Cn) (T := T) (N := N) (v := .int x) (ty := .int) C.1 C.2.1 C.ts hin ty hty hnm C.own C.K X.1 X.2.1 X.2.2.1 q (fs := fs.map (mv ad)) (mw_at hq) hc j hj (C.ts _ hlk) (fun _ h9 => h9) (by rw [hT]) (by rw [hT]; rfl) rfl rfl (by rw [List.length_map]; exact hl) (mAt_dec C.2.2.1 hf) (fun H1 locs1 hP hD hS => ?_)
  have e9 : (Sum.inr (ci, (fs.map (mv ad)).set j (.int x)) : va_E) = mvE ad cy (.inr (ci, fs.set j (.int x))) := by
    show Sum.inr (ci, (fs.map (mv ad)).set j (mv ad (.int x))) = Sum.inr (ci, (fs.set j (.int x)).map (mv ad))
    rw [List.map_set]
  rw [e9] at hP hD
  exact k9 N0 b sa D cy a0 z0 p l e R s m args below meth c C hk hn ad H1 locs1 ls (X.upd hP hD hS)
/-- a final field in the constructor: a reference to an array -/
theorem mr_putfinal {idx ci j q q' : Nat} {fs : List Value} (hf : mAt M pc = some (.putfield idx, 3)) (lk : mLkF M.1.cls idx ci j) (hq : h[q]? = some (.inr (ci, fs))) (hl : j < fs.length) (hfin : ∀ q : vw_C, mCl[ci]? = some q → (q.2.1 j).2.2 = ("[I", true) ∨ (q.2.1 j).2.2 = ("[Z", true)) (hin : M.1.name = "<init>")
    (k9 : mF S M (pc + 3) L st (h.set q (.inr (ci, fs.set j (.ref q')))) k n r) : mF S M pc L (.ref q' :: .ref q :: st) h k n r := by
  intro N0 b sa D cy a0 z0 p l e R s m args below meth c C hk hn ad H locs ls X
  obtain ⟨Cn, T, N, ty, hc, hj, hlk, hin9, hty, hnm, hdecl⟩ := lk
  have hinit : meth.name = "<init>" := C.2.2.2.2.2.2.2.1.trans hin
  have go : ∀ ty9 : FieldType, parseFieldDescriptor (T j).2.2.1 = some ty9 → (T j).2.2.2 = true → narrow ty9 (.ref (ad q')) = .ref (ad q') → fits ty9 (.ref (ad q')) = true → W p l e R s m args below meth c H locs k n (vx_MQ below (mQc N0 D cy a0 z0 r) (mXC N0 D cy a0 z0 r) args s r.2.2.1 r.2.2.2 (mA N0)) (F0 m pc ls (.ref (ad q') :: .ref (ad q) :: st.map (mv ad))) := by
    intro ty9 e1 e2 e3 e4
    refine va_putF (D := D) (cl := mCl) (ci := ci) (C := Cn) (T := T) (N := N) (v := .ref (ad q')) (ty := ty9) C.1 C.2.1 C.ts hin9 ty hty hnm C.own C.K X.1 X.2.1 X.2.2.1 q (fs := fs.map (mv ad)) (mw_at hq) hc j hj (C.ts _ hlk) (fun _ h9 => h9) e2 hinit hdecl e1 e3 e4 (by rw [List.length_map]; exact hl) (mAt_dec C.2.2.1 hf) (fun H1 locs1 hP hD hS => ?_)
    have e : (Sum.inr (ci, (fs.map (mv ad)).set j (.ref (ad q'))) : va_E) = mvE ad cy (.inr (ci, fs.set j (.ref q'))) := by
      show Sum.inr (ci, (fs.map (mv ad)).set j (mv ad (.ref q'))) = Sum.inr (ci, (fs.set j (.ref q')).map (mv ad))
      rw [List.map_set]
    rw [e] at hP hD
    exact k9 N0 b sa D cy a0 z0 p l _ R s m args below meth c C hk hn ad H1 locs1 ls (X.upd hP hD hS)
  rcases hfin _ hc with hT | hT
  · have hT : (T j).2.2 = ("[I", true) := hT
    exact go (.array .int) (by rw [hT]; decide +kernel) (by rw [hT]) rfl rfl
  · have hT : (T j).2.2 = ("[Z", true) := hT
    exact go (.array .boolean) (by rw [hT]; decide +kernel) (by rw [hT]) rfl rfl
/-- arrays -/
theorem mr_iaload {q N : Nat} {f : Nat → Int32} {i : Int32} (hf : mAt M pc = some (.iaload, 1)) (hq : h[q]? = some (.inl (0, N, .inl f))) (hin : vp_in i N) (k9 : mF S M (pc + 1) L (.int (f i.toNatClampNeg) :: st) h k n r) : mF S M pc L (.int i :: .ref q :: st) h k n r :=
  fun N0 b sa D cy a0 z0 p l e R s m args below meth c C hk hn ad H locs ls X => va_iald (tys := mTys cy) C.1 C.2.1 C.K X.1 q 0 (mw_at hq) rfl hin (mAt_dec C.2.2.1 hf) (k9 N0 b sa D cy a0 z0 p l e R s m args below meth c C hk hn ad H locs ls X)
theorem mr_baload {q N : Nat} {f : Nat → Int32} {i : Int32} (hf : mAt M pc = some (.baload, 1)) (hq : h[q]? = some (.inl (1, N, .inl f))) (hin : vp_in i N) (k9 : mF S M (pc + 1) L (.int (f i.toNatClampNeg) :: st) h k n r) : mF S M pc L (.int i :: .ref q :: st) h k n r :=
  fun N0 b sa D cy a0 z0 p l e R s m args below meth c C hk hn ad H locs ls X => va_zald (tys := mTys cy) C.1 C.2.1 C.K X.1 q 1 (mw_at hq) rfl hin (mAt_dec C.2.2.1 hf) (k9 N0 b sa D cy a0 z0 p l e R s m args below meth c C hk hn ad H locs ls X)
theorem mr_laload {q N : Nat} {f : Nat → Int64} {i : Int32} (hf : mAt M pc = some (.laload, 1)) (hq : h[q]? = some (.inl (2, N, .inr (.inl f)))) (hin : vp_in i N) (k9 : mF S M (pc + 1) L (.long (f i.toNatClampNeg) :: st) h k n r) : mF S M pc L (.int i :: .ref q :: st) h k n r :=
  fun N0 b sa D cy a0 z0 p l e R s m args below meth c C hk hn ad H locs ls X => va_lald (tys := mTys cy) C.1 C.2.1 C.K X.1 q 2 (mw_at hq) rfl hin (mAt_dec C.2.2.1 hf) (k9 N0 b sa D cy a0 z0 p l e R s m args below meth c C hk hn ad H locs ls X)
theorem mr_iastore {q N : Nat} {f : Nat → Int32} {i x : Int32} (hf : mAt M pc = some (.iastore, 1)) (hq : h[q]? = some (.inl (0, N, .inl f))) (hin : vp_in i N) (k9 : mF S M (pc + 1) L st (h.set q (.inl (0, N, .inl (upd f i.toNatClampNeg x)))) k n r) : mF S M pc L (.int x :: .int i :: .ref q :: st) h k n r :=
  fun N0 b sa D cy a0 z0 p l e R s m args below meth c C hk hn ad H locs ls X => va_iast (tys := mTys cy) C.1 C.2.1 C.K X.1 X.2.1 X.2.2.1 q 0 (mw_at hq) rfl hin (mAt_dec C.2.2.1 hf) (fun H1 locs1 hP hD hS => k9 N0 b sa D cy a0 z0 p l e R s m args below meth c C hk hn ad H1 locs1 ls (X.upd hP hD hS))
theorem mr_bastore {q N : Nat} {f : Nat → Int32} {i x : Int32} (hf : mAt M pc = some (.bastore, 1)) (hq : h[q]? = some (.inl (1, N, .inl f))) (hin : vp_in i N) (k9 : mF S M (pc + 1) L st (h.set q (.inl (1, N, .inl (upd f i.toNatClampNeg (vp_nar .boolean x))))) k n r) : mF S M pc L (.int x :: .int i :: .ref q :: st) h k n r :=
  fun N0 b sa D cy a0 z0 p l e R s m args below meth c C hk hn ad H locs ls X => va_zast (tys := mTys cy) C.1 C.2.1 C.K X.1 X.2.1 X.2.2.1 q 1 (mw_at hq) rfl hin (mAt_dec C.2.2.1 hf) (fun H1 locs1 hP hD hS => k9 N0 b sa D cy a0 z0 p l e R s m args below meth c C hk hn ad H1 locs1 ls (X.upd hP hD hS))
theorem mr_lastore {q N : Nat} {f : Nat → Int64} {i : Int32} {x : Int64} (hf : mAt M pc = some (.lastore, 1)) (hq : h[q]? = some (.inl (2, N, .inr (.inl f)))) (hin : vp_in i N) (k9 : mF S M (pc + 1) L st (h.set q (.inl (2, N, .inr (.inl (vp_updL f i.toNatClampNeg x))))) k n r) : mF S M pc L (.long x :: .int i :: .ref q :: st) h k n r :=
  fun N0 b sa D cy a0 z0 p l e R s m args below meth c C hk hn ad H locs ls X => va_last (tys := mTys cy) C.1 C.2.1 C.K X.1 X.2.1 X.2.2.1 q 2 (mw_at hq) rfl hin (mAt_dec C.2.2.1 hf) (fun H1 locs1 hP hD hS => k9 N0 b sa D cy a0 z0 p l e R s m args below meth c C hk hn ad H1 locs1 ls (X.upd hP hD hS))
theorem mr_alen {q : Nat} {x : vp_A} {v : Int32} (hf : mAt M pc = some (.arraylength, 1)) (hq : h[q]? = some (.inl (0, x))) (hv : Int32.ofNat x.1 = v) (k9 : mF S M (pc + 1) L (.int v :: st) h k n r) : mF S M pc L (.ref q :: st) h k n r :=
  fun N0 b sa D cy a0 z0 p l e R s m args below meth c C hk hn ad H locs ls X => va_alen (tys := mTys cy) C.1 C.2.1 C.K X.1 q 0 (mw_at hq) rfl hv (mAt_dec C.2.2.1 hf) (k9 N0 b sa D cy a0 z0 p l e R s m args below meth c C hk hn ad H locs ls X)
theorem mS.scr {S : Nat × (Nat → Int32)} {M : mM} {N0 b : Nat} {sa : Nat → Nat} {D : va_G} {cy : Nat → ClassId} {a0 : Nat → Nat} {p : Program} {l : Launch} {R : Room} {s : State} {m : MethodId} {args : Array Value} {meth : Method} {c : Code} {z0 : Nat} {ad : Nat → Nat} {L : List (Option Value)} {h : mH} {H : Heap} {locs : List Loc} {ls : Array Slot}
    (C : mC S M N0 b sa D cy a0 p l R s m args meth c) (X : mS M N0 D cy a0 z0 s ad L h H locs ls) : ad 1000 = b ∧ va_X b S.1 S.2 s s.heap ∧ b < s.heap.size ∧ ¬ mA N0 b := by
  have h1 := C.G.2.2.2.2.2.2
  refine ⟨(X.2.2.2.2.1 1000 (Or.inr X.2.2.2.2.2.2)).trans C.2.2.2.2.2.2.2.2.2.2.2.2.1, h1.1, Nat.lt_of_lt_of_le h1.2.1 h1.2.2, Nat.not_le.mpr h1.2.1⟩
theorem mr_sload {i : Int32} (hf : mAt M pc = some (.iaload, 1)) (hin : vp_in i S.1) (k9 : mF S M (pc + 1) L (.int (S.2 i.toNatClampNeg) :: st) h k n r) : mF S M pc L (.int i :: .ref 1000 :: st) h k n r := by
  intro N0 b sa D cy a0 z0 p l e R s m args below meth c C hk hn ad H locs ls X
  obtain ⟨e1, hX, hb, hA⟩ := mS.scr C X
  show W p l e R s m args below meth c H locs k n _ (F0 m pc ls (.int i :: .ref (ad 1000) :: st.map (mv ad)))
  rw [e1]
  exact va_sld C.1 C.2.1 hX hb hA X.2.2.1 hin (mAt_dec C.2.2.1 hf) (k9 N0 b sa D cy a0 z0 p l e R s m args below meth c C hk hn ad H locs ls X)
theorem mr_slen (hf : mAt M pc = some (.arraylength, 1)) (k9 : mF S M (pc + 1) L (.int (Int32.ofNat S.1) :: st) h k n r) : mF S M pc L (.ref 1000 :: st) h k n r := by
  intro N0 b sa D cy a0 z0 p l e R s m args below meth c C hk hn ad H locs ls X
  obtain ⟨e1, hX, hb, hA⟩ := mS.scr C X
  show W p l e R s m args below meth c H locs k n _ (F0 m pc ls (.ref (ad 1000) :: st.map (mv ad)))
  rw [e1]
  exact va_slen C.1 C.2.1 hX hb hA X.2.2.1 (mAt_dec C.2.2.1 hf) (k9 N0 b sa D cy a0 z0 p l e R s m args below meth c C hk hn ad H locs ls X)
/-- Object's constructor -/
theorem mr_objInit {idx q : Nat} (hf : mAt M pc = some (.invokespecial idx, 3)) (h1 : Cond.methodLink M.1.cls idx objectInit ∈ mTW) (h2 : Cond.instanceMethod objectInit ∈ mTW) (h3 : Cond.code objectInit ⟨#[0xb1]⟩ 1 none ∈ mTW) (hfr : 1 ≤ M.2.2.2.2.2.1) (hlo : (st.map fun v => v.category).sum + 12 ≤ M.2.2.2.2.2.2.1)
    (k9 : mF S M (pc + 3) L st h k n r) : mF S M pc L (.ref q :: st) h k n r := by
  intro N0 b sa D cy a0 z0 p l e R s m args below meth c C hk hn ad H locs ls X
  have e9 : (((st.map (mv ad)).map fun v => v.category).sum) = (st.map fun v => v.category).sum := by rw [List.map_map]; congr 1; exact List.map_congr_left (fun v _ => mv_cat ad v)
  refine W.objInit (g := F0 m pc ls (.ref (ad q) :: st.map (mv ad))) (rest := st.map (mv ad)) C.1 C.2.1 C.own (C.ts _ h1) (C.ts _ h2) (C.ts _ h3) rfl (X.2.2.2.1.1.trans C.2.2.2.2.2.1.symm) rfl (mAt_dec C.2.2.1 hf) (Nat.le_trans hfr C.2.2.2.2.2.2.2.2.2.2.2.2.2.1) ?_ (k9 N0 b sa D cy a0 z0 p l e R s m args below meth c C hk hn ad H locs ls X)
  rw [e9]
  refine Nat.le_trans ?_ C.2.2.2.2.2.2.2.2.2.2.2.2.2.2
  show 2 * (F0 m pc ls (.ref (ad q) :: st.map (mv ad))).monitorRoom + _ + 12 ≤ _
  have : (F0 m pc ls (.ref (ad q) :: st.map (mv ad))).monitorRoom = 0 := rfl
  omega
end MRH
