/-! A FRAME OF THE SMALL MACHINE -/
def mCl : List vw_C := [(RX0, TX0, 10), (RX1, TX1, 15)]
def mTys (cy : Nat → ClassId) : List (ClassId × FieldType) := [(cy 0, .int), (cy 1, .boolean), (cy 2, .long)]
def mA (N0 : Nat) : Nat → Prop := fun q => N0 ≤ q
def xA : String := "java/lang/ArrayIndexOutOfBoundsException"
def xI : String := "java/lang/IllegalArgumentException"
def xN : String := "java/lang/NullPointerException"
def xS : String := "java/lang/IllegalStateException"
def xU : String := "java/lang/UnsupportedOperationException"
def xD : String := "java/lang/ArithmeticException"
def mCast : List String := [xA, xI, xN, xS, xU, xD]
def mDecl : List MethodName := [Jvm.Bundle.initS "java/lang/IndexOutOfBoundsException", Jvm.Bundle.initS "java/lang/RuntimeException", Jvm.Bundle.initS "java/lang/Exception", Jvm.Bundle.initS "java/lang/Throwable"]
/-- (thrown, named by an earlier row) -/
def mNcs : List (String × String) := [(xI, xA), (xN, xA), (xN, xI), (xS, xA), (xS, xN), (xU, xA), (xU, xI), (xU, xN), (xU, xS), (xD, xA), (xD, xN), (xD, xS), (xD, xU)]
def mStrs : List (Nat × String) := [(59, "the height is below 0"), (82, "the boat lies in no pool"), (91, "no gate that way"), (107, "the first pool is above the last"), (123, "the pool is not dug"), (150, "no such boat"), (152, "no such pool"), (154, "no such gate"), (156, "a number is out of its range"), (158, "a pool is not dug"), (160, "a gate is worn, or the boat lies in no pool"), (164, "the boat is stuck"), (169, "levelling is slow")]
/-- what holds of the tables and of the heap below N0, in every frame -/
def mG (N0 b : Nat) (S : Nat × (Nat → Int32)) (sa : Nat → Nat) (D : va_G) (cy : Nat → ClassId) (U : State) (H : Heap) : Prop :=
  va_K D mCl (mTys cy) U ∧ ((∀ q ∈ mCast, va_Nw (.castable q q) U) ∧ ∀ q ∈ mDecl, va_Nw (.declares q) U) ∧ ((∀ q ∈ mNcs, va_Nc q.1 q.2 U) ∧ va_Nw (.castable "java/lang/RuntimeException" "java/lang/Throwable") U) ∧ (∀ q ∈ mStrs, vk_R RX0 q.1 q.2 (sa q.1) U) ∧
  vx_Zq Jvm.Bundle.tN "UNASSIGNED_STACK" Jvm.Bundle.steD (mA N0) U H ∧ vx_Zq Jvm.Bundle.tN "SUPPRESSED_SENTINEL" Jvm.Bundle.listD (mA N0) U H ∧ va_X b S.1 S.2 U H ∧ b < N0 ∧ N0 ≤ H.size
theorem mG.warm {N0 b : Nat} {S : Nat × (Nat → Int32)} {sa : Nat → Nat} {D : va_G} {cy : Nat → ClassId} {s U : State} {H : Heap} {locs : List Loc} (hW : s.WarmedH U.vm) (hS : va_S (mA N0) s.heap H locs) (h : mG N0 b S sa D cy s s.heap) : mG N0 b S sa D cy U H := by
  obtain ⟨h1, h2, h3, h4, h5, h6, ⟨scr, x1, x2, x3, x4, x5⟩, h8, h9⟩ := h
  refine ⟨va_K.moved hW.alike h1, ⟨fun q hq => va_Nw.warmC hW (h2.1 q hq), fun q hq => va_Nw.warmD hW (h2.2 q hq)⟩, ⟨fun q hq => va_Nc.moved hW.alike (h3.1 q hq), va_Nw.warmC hW h3.2⟩, fun q hq => vk_R.warm hW (h4 q hq), vx_Zq.moved hW.alike (h5.kept hS.2.1), vx_Zq.moved hW.alike (h6.kept hS.2.1), ⟨scr, ?_, State.isArrayOf_alike hW.alike x2, x3, x4, x5⟩, h8, Nat.le_trans h9 hS.1⟩
  rw [hS.2.1 b (by omega) (by unfold mA; omega)]
  exact x1
theorem mG.calling {N0 b : Nat} {S : Nat × (Nat → Int32)} {sa : Nat → Nat} {D : va_G} {cy : Nat → ClassId} {U : State} {H : Heap} {g : JFrame} {mk : MethodId} {a : Array Value} (h : mG N0 b S sa D cy U H) : mG N0 b S sa D cy (U.calling g mk a) H := by
  obtain ⟨h1, h2, h3, h4, h5, h6, ⟨scr, x1, x2, x3, x4, x5⟩, h8, h9⟩ := h
  have al : U.vm.Alike (U.calling g mk a).vm := Vm.Alike.refl U.vm
  exact ⟨va_K.moved al h1, ⟨fun q hq => va_Nw.same rfl rfl (h2.1 q hq), fun q hq => va_Nw.same rfl rfl (h2.2 q hq)⟩, ⟨fun q hq => va_Nc.moved al (h3.1 q hq), va_Nw.same rfl rfl h3.2⟩, fun q hq => vk_R.same rfl (h4 q hq), vx_Zq.moved al h5, vx_Zq.moved al h6, ⟨scr, x1, State.isArrayOf_alike al x2, x3, x4, x5⟩, h8, h9⟩
/-- a frame's own: the code, the words, the world's start, room -/
def mC (S : Nat × (Nat → Int32)) (M : mM) (N0 b : Nat) (sa : Nat → Nat) (D : va_G) (cy : Nat → ClassId) (a0 : Nat → Nat) (p : Program) (l : Launch) (R : Room) (s : State) (m : MethodId) (args : Array Value) (meth : Method) (c : Code) : Prop :=
  p.tables.exec = Jvm.exec ∧ c.code = M.2.1 ∧ mOk M ∧ meth.sig.returnType = M.2.2.2.1 ∧ meth.locks = false ∧ c.maxLocals = M.2.2.1 ∧ s.vm.findClass M.1.cls = some m.cls ∧ meth.name = M.1.name ∧ (∀ w ∈ mTW, w.before args s = true) ∧
  c.exceptionTable.toList = tableOf M.2.2.2.2.1 ∧ l.stackTraces = false ∧ mG N0 b S sa D cy s s.heap ∧ a0 1000 = b ∧ M.2.2.2.2.2.1 ≤ R.frames ∧ M.2.2.2.2.2.2.1 ≤ R.locals
/-- the world at a point of it -/
def mS (M : mM) (N0 : Nat) (D : va_G) (cy : Nat → ClassId) (a0 : Nat → Nat) (z0 : Nat) (s : State) (ad : Nat → Nat) (L : List (Option Value)) (h : mH) (H : Heap) (locs : List Loc) (ls : Array Slot) : Prop :=
  va_P D mCl (mw ad cy h) H ∧ va_D (mA N0) (mw ad cy h) ∧ va_S (mA N0) s.heap H locs ∧ mL ad ls M.2.2.1 L ∧ (∀ k, (k < z0 ∨ h.length ≤ k) → ad k = a0 k) ∧ z0 ≤ h.length ∧ h.length ≤ 1000
/-- an outcome: returned or threw; the world then; cells and slots at most -/
abbrev mR : Type := (Option Value ⊕ String) × mH × Nat × Nat
def mPost (N0 : Nat) (D : va_G) (cy : Nat → ClassId) (a0 : Nat → Nat) (z0 : Nat) (h : mH) (ad : Nat → Nat) (st t : State) : Prop :=
  (∀ k, (k < z0 ∨ h.length ≤ k) → ad k = a0 k) ∧ z0 ≤ h.length ∧ h.length ≤ 1000 ∧ va_P D mCl (mw ad cy h) t.heap ∧ va_D (mA N0) (mw ad cy h) ∧ va_F (mA N0) st t
def mQc (N0 : Nat) (D : va_G) (cy : Nat → ClassId) (a0 : Nat → Nat) (z0 : Nat) (r : mR) : Array Value → State → Outcome → State → Prop := fun _ st o t =>
  ∃ (v : Option Value) (ad : Nat → Nat), r.1 = .inl v ∧ o = .returned (v.map (mv ad)) ∧ mPost N0 D cy a0 z0 r.2.1 ad st t
def mXC (N0 : Nat) (D : va_G) (cy : Nat → ClassId) (a0 : Nat → Nat) (z0 : Nat) (r : mR) : String → State → State → Prop := fun E st t =>
  r.1 = .inr E ∧ ∃ ad : Nat → Nat, mPost N0 D cy a0 z0 r.2.1 ad st t
/-- FROM THIS POINT THE METHOD M ENDS WITH r -/
def mF (S : Nat × (Nat → Int32)) (M : mM) (pc : Nat) (L : List (Option Value)) (st : List Value) (h : mH) (k n : Nat) (r : mR) : Prop :=
  ∀ (N0 b : Nat) (sa : Nat → Nat) (D : va_G) (cy : Nat → ClassId) (a0 : Nat → Nat) (z0 : Nat) (p : Program) (l : Launch) (e : Env) (R : Room) (s : State) (m : MethodId) (args : Array Value) (below : List Frame) (meth : Method) (c : Code),
    mC S M N0 b sa D cy a0 p l R s m args meth c → r.2.2.1 ≤ R.cells → r.2.2.2 ≤ R.slots → ∀ (ad : Nat → Nat) (H : Heap) (locs : List Loc) (ls : Array Slot), mS M N0 D cy a0 z0 s ad L h H locs ls →
      W p l e R s m args below meth c H locs k n (vx_MQ below (mQc N0 D cy a0 z0 r) (mXC N0 D cy a0 z0 r) args s r.2.2.1 r.2.2.2 (mA N0)) (F0 m pc ls (st.map (mv ad)))
section MR
variable {S : Nat × (Nat → Int32)} {M : mM} {pc k n : Nat} {L : List (Option Value)} {st : List Value} {h : mH} {r : mR}
/-- an instruction that moves stack and pc alone -/
theorem mr_go {pc' : Nat} {st st' : List Value} {x : Instr × Nat} (hf : mAt M pc = some x) (k9 : mF S M pc' L st' h k n r)
    (step : ∀ (p : Program) (l : Launch) (e : Env) (R : Room) (s : State) (m : MethodId) (args : Array Value) (below : List Frame) (meth : Method) (c : Code) (H : Heap) (locs : List Loc) (Q : State → Prop) (ls : Array Slot) (ad : Nat → Nat), p.tables.exec = Jvm.exec → c.code = M.2.1 → decode M.2.1 pc = .ok x →
      W p l e R s m args below meth c H locs k n Q (F0 m pc' ls (st'.map (mv ad))) → W p l e R s m args below meth c H locs k n Q (F0 m pc ls (st.map (mv ad)))) : mF S M pc L st h k n r :=
  fun N0 b sa D cy a0 z0 p l e R s m args below meth c C hk hn ad H locs ls X => step p l e R s m args below meth c H locs _ ls ad C.1 C.2.1 (mAt_dec C.2.2.1 hf) (k9 N0 b sa D cy a0 z0 p l e R s m args below meth c C hk hn ad H locs ls X)
theorem mr_if {P : Prop} {pt pf : Nat} {st st' : List Value} {x : Instr × Nat} (hf : mAt M pc = some x) (kt : P → mF S M pt L st' h k n r) (kf : ¬ P → mF S M pf L st' h k n r)
    (step : ∀ (p : Program) (l : Launch) (e : Env) (R : Room) (s : State) (m : MethodId) (args : Array Value) (below : List Frame) (meth : Method) (c : Code) (H : Heap) (locs : List Loc) (Q : State → Prop) (ls : Array Slot) (ad : Nat → Nat), p.tables.exec = Jvm.exec → c.code = M.2.1 → decode M.2.1 pc = .ok x →
      (P → W p l e R s m args below meth c H locs k n Q (F0 m pt ls (st'.map (mv ad)))) → (¬ P → W p l e R s m args below meth c H locs k n Q (F0 m pf ls (st'.map (mv ad)))) → W p l e R s m args below meth c H locs k n Q (F0 m pc ls (st.map (mv ad)))) : mF S M pc L st h k n r :=
  fun N0 b sa D cy a0 z0 p l e R s m args below meth c C hk hn ad H locs ls X => step p l e R s m args below meth c H locs _ ls ad C.1 C.2.1 (mAt_dec C.2.2.1 hf) (fun q => kt q N0 b sa D cy a0 z0 p l e R s m args below meth c C hk hn ad H locs ls X) (fun q => kf q N0 b sa D cy a0 z0 p l e R s m args below meth c C hk hn ad H locs ls X)
/-- an instruction that reads a local -/
theorem mr_ld {pc' i : Nat} {v : Value} {x : Instr × Nat} (hf : mAt M pc = some x) (hv : L[i]? = some (some v)) (k9 : mF S M pc' L (v :: st) h k n r)
    (step : ∀ (p : Program) (l : Launch) (e : Env) (R : Room) (s : State) (m : MethodId) (args : Array Value) (below : List Frame) (meth : Method) (c : Code) (H : Heap) (locs : List Loc) (Q : State → Prop) (ls : Array Slot) (ad : Nat → Nat), p.tables.exec = Jvm.exec → c.code = M.2.1 → decode M.2.1 pc = .ok x → ls[i]? = some (.val (mv ad v)) →
      W p l e R s m args below meth c H locs k n Q (F0 m pc' ls (mv ad v :: st.map (mv ad))) → W p l e R s m args below meth c H locs k n Q (F0 m pc ls (st.map (mv ad)))) : mF S M pc L st h k n r :=
  fun N0 b sa D cy a0 z0 p l e R s m args below meth c C hk hn ad H locs ls X => step p l e R s m args below meth c H locs _ ls ad C.1 C.2.1 (mAt_dec C.2.2.1 hf) (X.2.2.2.1.2.2 i v hv) (k9 N0 b sa D cy a0 z0 p l e R s m args below meth c C hk hn ad H locs ls X)
/-- an instruction that writes a local (one place) -/
theorem mr_st {pc' i : Nat} {v : Value} {st' : List Value} {x : Instr × Nat} (hf : mAt M pc = some x) (hi : i < M.2.2.1) (hc : mOk1 L i = true) (k9 : mF S M pc' (L.set i (some v)) st' h k n r)
    (step : ∀ (p : Program) (l : Launch) (e : Env) (R : Room) (s : State) (m : MethodId) (args : Array Value) (below : List Frame) (meth : Method) (c : Code) (H : Heap) (locs : List Loc) (Q : State → Prop) (ls : Array Slot) (ad : Nat → Nat), p.tables.exec = Jvm.exec → c.code = M.2.1 → decode M.2.1 pc = .ok x → mL ad ls M.2.2.1 L →
      (∀ ls' : Array Slot, lv_has ls' M.2.2.1 ((i, mv ad v) :: (mLs ad L).filter (fun q => !(q.1 == i) && !(q.1 + 1 == i && q.2.category == 2))) → W p l e R s m args below meth c H locs k n Q (F0 m pc' ls' (st'.map (mv ad)))) → W p l e R s m args below meth c H locs k n Q (F0 m pc ls (st.map (mv ad)))) : mF S M pc L st h k n r :=
  fun N0 b sa D cy a0 z0 p l e R s m args below meth c C hk hn ad H locs ls X => step p l e R s m args below meth c H locs _ ls ad C.1 C.2.1 (mAt_dec C.2.2.1 hf) X.2.2.2.1
    (fun ls' h' => k9 N0 b sa D cy a0 z0 p l e R s m args below meth c C hk hn ad H locs ls' ⟨X.1, X.2.1, X.2.2.1, mL.set1 rfl hc h', X.2.2.2.2⟩)
end MR
