/-! ROWS OF THE SMALL MACHINE: calls -/
section MRC
variable {S : Nat × (Nat → Int32)} {M M' : mM} {pc k n kf nf : Nat} {L : List (Option Value)} {st : List Value} {h : mH} {r r' : mR} {As : List Value}
/-- a callee by its words -/
def mLkM (M' : mM) (np : Nat) : Prop := (if M'.2.2.2.2.1 = [] then Cond.code M'.1 M'.2.1 M'.2.2.1 M'.2.2.2.1 ∈ mTW else Cond.codeWith M'.1 M'.2.1 M'.2.2.1 M'.2.2.2.1 M'.2.2.2.2.1 ∈ mTW) ∧ Cond.initialized M'.1.cls ∈ mTW ∧ plainName M'.1.cls = true ∧
  (M'.1.cls ≠ "java/lang/invoke/MethodHandle" ∧ M'.1.cls ≠ "java/lang/invoke/VarHandle") ∧ (parseMethodDescriptor M'.1.desc).map (fun d => d.parameters.length) = some np ∧ mOk M'
def mRoom (M M' : mM) : Bool := decide (M'.2.2.2.2.2.1 + 1 ≤ M.2.2.2.2.2.1) && decide (8 + (M'.2.2.1 + 11) + M'.2.2.2.2.2.2.1 ≤ M.2.2.2.2.2.2.1)
/-- a call's start -/
def mPc (S : Nat × (Nat → Int32)) (N0 b : Nat) (sa : Nat → Nat) (D : va_G) (cy : Nat → ClassId) (a0 : Nat → Nat) (As : List Value) (h : mH) (l : Launch) : Array Value → State → Prop := fun v U =>
  v = (As.map (mv a0)).toArray ∧ va_P D mCl (mw a0 cy h) U.heap ∧ va_D (mA N0) (mw a0 cy h) ∧ mG N0 b S sa D cy U U.heap ∧ a0 1000 = b ∧ h.length ≤ 1000 ∧ l.stackTraces = false
theorem mPc.blind {N0 b : Nat} {sa : Nat → Nat} {D : va_G} {cy : Nat → ClassId} {a0 : Nat → Nat} {l : Launch} : FrameBlind (mPc S N0 b sa D cy a0 As h l) := fun _ _ _ _ q => ⟨q.1, q.2.1, q.2.2.1, q.2.2.2.1.calling, q.2.2.2.2⟩
abbrev mWs (M' : mM) : List Cond := (if M'.2.2.2.2.1 = [] then Cond.code M'.1 M'.2.1 M'.2.2.1 M'.2.2.2.1 else Cond.codeWith M'.1 M'.2.1 M'.2.2.1 M'.2.2.2.1 M'.2.2.2.2.1) :: mTW
abbrev mRm (M' : mM) (r : mR) : Room := { frames := M'.2.2.2.2.2.1, cells := r.2.2.1, slots := r.2.2.2, locals := M'.2.2.2.2.2.2.1 }
/-- the contract of a method, out of its run -/
theorem mc_met (hc : mF S M' 0 (mEnt As M'.2.2.1) [] h 0 0 r') (hn : (mA0 As).length ≤ M'.2.2.1) {np : Nat} (lk : mLkM M' np) (N0 b : Nat) (sa : Nat → Nat) (D : va_G) (cy : Nat → ClassId) (a0 : Nat → Nat) (l : Launch) :
    vx_Met l M'.1 (mWs M') (mRm M' r') (mPc S N0 b sa D cy a0 As h l) (mQc N0 D cy a0 h.length r') (mXC N0 D cy a0 h.length r') r'.2.2.1 r'.2.2.2 (mA N0) := by
  obtain ⟨-, -, hpl, -, -, hok⟩ := lk
  have body : ∀ (p : Program) (e : Env) (s : State) (m : MethodId) (args : Array Value) (below : List Frame) (meth : Method) (c : Code) (s₁ : State), BodyLoose p l M'.1 (headSpec (mWs M') (mRm M' r')) M'.2.1 M'.2.2.1 M'.2.2.2.1 e s m args below meth c s₁ → c.maxLocals = M'.2.2.1 → c.exceptionTable.toList = tableOf M'.2.2.2.2.1 → mPc S N0 b sa D cy a0 As h l args s →
      W p l e (headSpec (mWs M') (mRm M' r')).room s m args below meth c s.heap [] 0 0 (vx_MQ below (mQc N0 D cy a0 h.length r') (mXC N0 D cy a0 h.length r') args s r'.2.2.1 r'.2.2.2 (mA N0)) (entryFrame m args M'.2.2.1) := by
    intro p e s m args below meth c s₁ B hml htab ⟨hv, hP, hD, hG, h1, h2, h3⟩
    subst hv
    have hts := atoms_spec (ws := mWs M') B.pre
    rw [lg_entry_eq]
    exact hc N0 b sa D cy a0 h.length p l e (headSpec (mWs M') (mRm M' r')).room s m _ below meth c
      ⟨B.exec, B.bytes, hok, B.returns, B.notSynchronized, hml, findClass_of_methodNamed B.named, (name_of_methodNamed B.named B.method).1, fun w hw => hts w (List.mem_cons_of_mem _ hw), htab, h3, hG, h1, Nat.le_refl _, Nat.le_refl _⟩
      (Nat.le_refl _) (Nat.le_refl _) a0 s.heap [] _ ⟨hP, hD, va_S.rf, mL_entry a0 As hn, fun _ _ => rfl, Nat.le_refl _, h2⟩
  by_cases hh : M'.2.2.2.2.1 = []
  · refine vx_ofW (cc := M'.2.1) (maxL := M'.2.2.1) (ret := M'.2.2.2.1) (ws' := mTW) hpl (by unfold mWs; rw [if_pos hh]) ?_
    intro p e s m args below meth c s₁ B hml ht hv
    refine body p e s m args below meth c s₁ B hml ?_ hv
    rw [hh]
    cases hx : c.exceptionTable.toList with
    | nil => rfl
    | cons y ys => exact absurd (ht y (by rw [hx]; exact List.mem_cons_self)) (fun q => q)
  · refine vx_ofWH (cc := M'.2.1) (maxL := M'.2.2.1) (ret := M'.2.2.2.1) (hh := M'.2.2.2.2.1) (ws' := mTW) hpl (by unfold mWs; rw [if_neg hh]) ?_
    intro p e s m args below meth c s₁ B hml hv
    refine body p e s m args below meth c s₁ B hml ?_ hv
    have hw : Cond.codeWith M'.1 M'.2.1 M'.2.2.1 M'.2.2.2.1 M'.2.2.2.2.1 ∈ mWs M' := by unfold mWs; rw [if_neg hh]; exact List.mem_cons_self
    exact vx_table (x := M'.1) B (atoms_spec (ws := mWs M') B.pre _ hw)
theorem m_good {w : Cond} (h : w ∈ mTW) : w ∈ lw_tbl ∧ goodWord w = true := List.mem_filter.mp h
theorem m_pay {s : State} {args : Array Value} (hts : ∀ w ∈ mTW, w.before args s = true) {np : Nat} (lk : mLkM M' np) : ∀ w ∈ mWs M', ∀ (a' : Array Value) (U : State), s.WarmedH U.vm → w.before a' U = true := by
  intro w hw a' U hW
  have : w ∈ mTW := by
    rcases List.mem_cons.mp hw with rfl | h
    · have h1 := lk.1
      split at h1
      · rename_i hh; rw [if_pos hh]; exact h1
      · rename_i hh; rw [if_neg hh]; exact h1
    · exact h
  exact word_at hW (good_of_word (m_good this).2) (hts w this)
theorem m_sum (ad : Nat → Nat) (st : List Value) : (((st.map (mv ad)).map fun v => v.category).sum) = (st.map fun v => v.category).sum := by rw [List.map_map]; congr 1; exact List.map_congr_left (fun v _ => mv_cat ad v)
/-- what a call's run says of the caller -/
def mRun (S : Nat × (Nat → Int32)) (M : mM) (pc : Nat) (L : List (Option Value)) (st rest : List Value) (h : mH) (k n : Nat) (r' : mR) : Prop :=
  ∀ (N0 b : Nat) (sa : Nat → Nat) (D : va_G) (cy : Nat → ClassId) (a0 : Nat → Nat) (z0 : Nat) (p : Program) (l : Launch) (e : Env) (R : Room) (s : State) (m : MethodId) (args : Array Value) (below : List Frame) (meth : Method) (c : Code),
    mC S M N0 b sa D cy a0 p l R s m args meth c → k + r'.2.2.1 ≤ R.cells → n + r'.2.2.2 ≤ R.slots → ∀ (ad : Nat → Nat) (H : Heap) (locs : List Loc) (ls : Array Slot), mS M N0 D cy a0 z0 s ad L h H locs ls →
      ∃ a : Array Value, vx_Run p l e R s m args below meth c H locs k n r'.2.2.1 r'.2.2.2 (F0 m pc ls (st.map (mv ad))) (rest.map (mv ad)) (mQc N0 D cy ad h.length r' a) (mXC N0 D cy ad h.length r') (mA N0)
theorem m_pre {N0 b : Nat} {sa : Nat → Nat} {D : va_G} {cy : Nat → ClassId} {a0 : Nat → Nat} {p : Program} {l : Launch} {R : Room} {s : State} {m : MethodId} {args : Array Value} {meth : Method} {c : Code} {z0 : Nat} {ad : Nat → Nat} {H : Heap} {locs : List Loc} {ls : Array Slot}
    (C : mC S M N0 b sa D cy a0 p l R s m args meth c) (X : mS M N0 D cy a0 z0 s ad L h H locs ls) (As : List Value) (U : State) (hU : U.heap = H) (hW : s.WarmedH U.vm) : mPc S N0 b sa D cy ad As h l (As.map (mv ad)).toArray U := by
  refine ⟨rfl, by rw [hU]; exact X.1, X.2.1, ?_, (mS.scr C X).1, X.2.2.2.2.2.2, C.2.2.2.2.2.2.2.2.2.2.1⟩
  rw [hU]
  exact mG.warm hW X.2.2.1 C.G
theorem m_room (hr : mRoom M M' = true) {R : Room} (h1 : M.2.2.2.2.2.1 ≤ R.frames) (h2 : M.2.2.2.2.2.2.1 ≤ R.locals) : M'.2.2.2.2.2.1 + 1 ≤ R.frames ∧ 8 + (M'.2.2.1 + 11) + M'.2.2.2.2.2.2.1 ≤ R.locals := by
  simp only [mRoom, Bool.and_eq_true, decide_eq_true_eq] at hr
  omega
def mLkS (own : String) (idx : Nat) (M' : mM) (np : Nat) : Prop := Cond.methodLink own idx M'.1 ∈ mTW ∧ Cond.static M'.1 ∈ mTW ∧ mLkM M' np
def mLkV (own : String) (idx : Nat) (M' : mM) (np : Nat) : Prop := Cond.methodLink own idx M'.1 ∈ mTW ∧ Cond.instanceMethod M'.1 ∈ mTW ∧ Cond.selects M'.1.cls M'.1 M'.1 ∈ mTW ∧ M'.2.2.2.2.1 = [] ∧ mLkM M' np
def mLkI (own : String) (idx : Nat) (M' : mM) (np : Nat) : Prop := Cond.methodLink own idx M'.1 ∈ mTW ∧ Cond.instanceMethod M'.1 ∈ mTW ∧ M'.1.name = "<init>" ∧ M'.2.2.2.1 = none ∧ M'.2.2.2.2.1 = [] ∧ mLkM M' np
theorem m_len {y : MethodName} {np : Nat} (h : (parseMethodDescriptor y.desc).map (fun d => d.parameters.length) = some np) : ∀ sig, parseMethodDescriptor y.desc = some sig → np = sig.parameters.length := by
  intro sig h9
  rw [h9] at h
  exact (Option.some.inj h).symm
theorem mRunS {idx : Nat} {rest : List Value} (hf : mAt M pc = some (.invokestatic idx, 3)) (lk : mLkS M.1.cls idx M' As.length) (hr : mRoom M M' = true) (hn : (mA0 As).length ≤ M'.2.2.1) (hsum : (rest.map fun v => v.category).sum ≤ 8)
    (hc : mF S M' 0 (mEnt As M'.2.2.1) [] h 0 0 r') : mRun S M pc L (As.reverse ++ rest) rest h k n r' := by
  intro N0 b sa D cy a0 z0 p l e R s m args below meth c C hk hn9 ad H locs ls X
  obtain ⟨l1, l2, l3⟩ := lk
  have hM := mc_met hc hn l3 N0 b sa D cy ad l
  have hR := m_room hr C.2.2.2.2.2.2.2.2.2.2.2.2.2.1 C.2.2.2.2.2.2.2.2.2.2.2.2.2.2
  have hp : PreS s H (mPc S N0 b sa D cy ad As h l) (As.map (mv ad)) := ⟨mPc.blind, fun U hU hW => m_pre C X As U hU hW⟩
  have hst : (F0 m pc ls ((As.reverse ++ rest).map (mv ad))).stack = (As.map (mv ad)).reverse ++ rest.map (mv ad) := by
    show (As.reverse ++ rest).map (mv ad) = _
    rw [List.map_append, List.map_reverse]
  have hsm : 2 * (F0 m pc ls ((As.reverse ++ rest).map (mv ad))).monitorRoom + ((rest.map (mv ad)).map fun v => v.category).sum ≤ 8 := by
    rw [m_sum]
    have : (F0 m pc ls ((As.reverse ++ rest).map (mv ad))).monitorRoom = 0 := rfl
    omega
  refine ⟨(As.map (mv ad)).toArray, ?_⟩
  obtain ⟨q1, q2, q3, q4, q5, q6⟩ := id l3
  by_cases hh : M'.2.2.2.2.1 = []
  · rw [if_pos hh] at q1
    exact vx_runS (ws := mWs M') (rm := mRm M' r') (bytes := M'.2.1) (maxL := M'.2.2.1) (ret := M'.2.2.2.1) (own := M.1.cls) (Ts := mTW) ⟨C.1, C.2.1, C.2.2.2.2.2.1, C.own, C.ts⟩ hM
      ⟨⟨rfl, rfl, hR.1, hR.2, m_pay C.ts l3, by unfold mWs; rw [if_pos hh]; exact List.mem_cons_self, C.ts _ q1, C.ts _ q2, q4, m_len q5, C.ts _ l1⟩, C.ts _ l2⟩ hp rfl (by rw [List.length_map]) X.2.2.2.1.1 hst hsm (mAt_dec C.2.2.1 hf) ⟨hk, hn9⟩
  · rw [if_neg hh] at q1
    exact vx_runSX (hh := M'.2.2.2.2.1) (ws := mWs M') (rm := mRm M' r') (bytes := M'.2.1) (maxL := M'.2.2.1) (ret := M'.2.2.2.1) (own := M.1.cls) (Ts := mTW) ⟨C.1, C.2.1, C.2.2.2.2.2.1, C.own, C.ts⟩ hM
      ⟨⟨rfl, rfl, hR.1, hR.2, m_pay C.ts l3, by unfold mWs; rw [if_neg hh]; exact List.mem_cons_self⟩, C.ts _ q1, C.ts _ q2, q4, m_len q5, C.ts _ l1, C.ts _ l2⟩ hp rfl (by rw [List.length_map]) X.2.2.2.1.1 hst hsm (mAt_dec C.2.2.1 hf) ⟨hk, hn9⟩
theorem mRunV {idx q ci : Nat} {fs : List Value} {rest : List Value} (hf : mAt M pc = some (.invokevirtual idx, 3)) (lk : mLkV M.1.cls idx M' As.length) (hq : h[q]? = some (.inr (ci, fs))) (hci : (mCl[ci]?).map (fun q => q.1) = some M'.1.cls) (hr : mRoom M M' = true) (hn : (mA0 (.ref q :: As)).length ≤ M'.2.2.1) (hsum : (rest.map fun v => v.category).sum ≤ 8)
    (hc : mF S M' 0 (mEnt (.ref q :: As) M'.2.2.1) [] h 0 0 r') : mRun S M pc L (As.reverse ++ .ref q :: rest) rest h k n r' := by
  intro N0 b sa D cy a0 z0 p l e R s m args below meth c C hk hn9 ad H locs ls X
  obtain ⟨l1, l2, l4, hh, l3⟩ := lk
  have hM := mc_met hc hn l3 N0 b sa D cy ad l
  have hR := m_room hr C.2.2.2.2.2.2.2.2.2.2.2.2.2.1 C.2.2.2.2.2.2.2.2.2.2.2.2.2.2
  obtain ⟨qc, hqc, hqn⟩ : ∃ qc, mCl[ci]? = some qc ∧ qc.1 = M'.1.cls := by
    cases hx : mCl[ci]? with
    | none => rw [hx] at hci; cases hci
    | some qc => rw [hx] at hci; exact ⟨qc, rfl, Option.some.inj hci⟩
  have hrecv := va_recv C.K X.1 hqc (mw_at hq)
  rw [hqn] at hrecv
  have hp : PreV s H M'.1.cls (ad q) (mPc S N0 b sa D cy ad (.ref q :: As) h l) (As.map (mv ad)) := ⟨mPc.blind, hrecv, fun U hU hW => m_pre C X (.ref q :: As) U hU hW⟩
  have hst : (F0 m pc ls ((As.reverse ++ .ref q :: rest).map (mv ad))).stack = (As.map (mv ad)).reverse ++ .ref (ad q) :: rest.map (mv ad) := by
    show (As.reverse ++ .ref q :: rest).map (mv ad) = _
    rw [List.map_append, List.map_reverse]
    rfl
  have hsm : 2 * (F0 m pc ls ((As.reverse ++ .ref q :: rest).map (mv ad))).monitorRoom + ((rest.map (mv ad)).map fun v => v.category).sum ≤ 8 := by
    rw [m_sum]
    have : (F0 m pc ls ((As.reverse ++ .ref q :: rest).map (mv ad))).monitorRoom = 0 := rfl
    omega
  refine ⟨(Value.ref (ad q) :: As.map (mv ad)).toArray, ?_⟩
  obtain ⟨q1, q2, q3, q4, q5, q6⟩ := id l3
  rw [if_pos hh] at q1
  exact vx_runV (ws := mWs M') (rm := mRm M' r') (bytes := M'.2.1) (maxL := M'.2.2.1) (ret := M'.2.2.2.1) (own := M.1.cls) (C := M'.1.cls) (Ts := mTW) ⟨C.1, C.2.1, C.2.2.2.2.2.1, C.own, C.ts⟩ hM
    ⟨⟨rfl, rfl, hR.1, hR.2, m_pay C.ts l3, by unfold mWs; rw [if_pos hh]; exact List.mem_cons_self, C.ts _ q1, C.ts _ q2, q4, m_len q5, C.ts _ l1⟩, C.ts _ l2, C.ts _ l4⟩ hp rfl (by rw [List.length_map]) X.2.2.2.1.1 hst hsm (mAt_dec C.2.2.1 hf) ⟨hk, hn9⟩
/-- a call that returns; the callee makes no thing of the world -/
theorem mr_ret {rest : List Value} {v : Option Value} {h' : mH} {k' n' : Nat} (hrun : mRun S M pc L st rest h k n (.inl v, h', k', n')) (hl : h'.length = h.length) (hk' : k + k' ≤ r.2.2.1) (hn' : n + n' ≤ r.2.2.2) (k9 : mF S M (pc + 3) L (v.toList ++ rest) h' (k + k') (n + n') r) : mF S M pc L st h k n r := by
  intro N0 b sa D cy a0 z0 p l e R s m args below meth c C hk hn ad H locs ls X
  obtain ⟨av, hr⟩ := hrun N0 b sa D cy a0 z0 p l e R s m args below meth c C (Nat.le_trans hk' hk) (Nat.le_trans hn' hn) ad H locs ls X
  intro T hT Y
  rcases hr T hT Y with ⟨w, st₀, t, T', L', h0, Y', hL, e1, e2, ⟨v2, ad2, e3, e4, p1, p2, p3, p4, p5, p6⟩, go⟩ | ⟨q, st₀, t, T', L', E, ce, h0, Y', hL, e1, e2, ⟨e3, -⟩, -⟩
  · cases e3
    cases e4
    have e5 : ad2 = ad := funext fun j => p1 j (by
      show j < h.length ∨ h'.length ≤ j
      omega)
    subst e5
    have hS2 : va_S (mA N0) s.heap T'.heap (locs ++ L') := by
      obtain ⟨f1, f2⟩ := p6
      rw [h0] at f1 f2
      refine ⟨Nat.le_trans X.2.2.1.1 (by rw [e1]; exact f1), fun j hj hA => ?_, fun j hj => ?_⟩
      · rw [e1, f2 j (Nat.lt_of_lt_of_le hj X.2.2.1.1) hA]
        exact X.2.2.1.2.1 j hj hA
      · rcases List.mem_append.mp hj with z | z
        · exact X.2.2.1.2.2 j z
        · exact hL j z
    have X2 : mS M N0 D cy a0 z0 s ad2 L h' T'.heap (locs ++ L') ls := ⟨by rw [e1]; exact p4, p5, hS2, X.2.2.2.1, fun j hj => X.2.2.2.2.1 j (by rw [hl] at hj; exact hj), by rw [hl]; exact X.2.2.2.2.2.1, by rw [hl]; exact X.2.2.2.2.2.2⟩
    obtain ⟨t2, a1, b1⟩ := k9 N0 b sa D cy a0 z0 p l e R s m args below meth c C hk hn ad2 T'.heap (locs ++ L') ls X2 T' rfl Y'
    refine ⟨t2, go t2 ?_, b1⟩
    cases v <;> exact a1
  · cases e3
/-- a call that throws: nothing here takes it -/
theorem mr_thrown {rest : List Value} {E : String} {h' : mH} {k' n' : Nat} (hrun : mRun S M pc L st rest h k n (.inr E, h', k', n')) (htab : M.2.2.2.2.1 = []) (hl : h'.length = h.length) (hk' : k + k' ≤ kf) (hn' : n + n' ≤ nf) : mF S M pc L st h k n (.inr E, h', kf, nf) := by
  intro N0 b sa D cy a0 z0 p l e R s m args below meth c C hk hn ad H locs ls X
  obtain ⟨av, hr⟩ := hrun N0 b sa D cy a0 z0 p l e R s m args below meth c C (Nat.le_trans hk' hk) (Nat.le_trans hn' hn) ad H locs ls X
  intro T hT Y
  rcases hr T hT Y with ⟨w, st₀, t, T', L', h0, Y', hL, e1, e2, ⟨v2, ad2, e3, -⟩, go⟩ | ⟨q, st₀, t, T', L', E2, ce, h0, Y', hL, e1, e2, ⟨e3, ad2, p1, p2, p3, p4, p5, p6⟩, hce, hcv, hcl, go⟩
  · cases e3
  · cases e3
    have e5 : ad2 = ad := funext fun j => p1 j (by
      show j < h.length ∨ h'.length ≤ j
      omega)
    subst e5
    have hS2 : va_S (mA N0) s.heap T'.heap (locs ++ L') := by
      obtain ⟨f1, f2⟩ := p6
      rw [h0] at f1 f2
      refine ⟨Nat.le_trans X.2.2.1.1 (by rw [e1]; exact f1), fun j hj hA => ?_, fun j hj => ?_⟩
      · rw [e1, f2 j (Nat.lt_of_lt_of_le hj X.2.2.1.1) hA]
        exact X.2.2.1.2.1 j hj hA
      · rcases List.mem_append.mp hj with z | z
        · exact X.2.2.1.2.2 j z
        · exact hL j z
    have key : vx_W p l e R s m args below meth c T'.heap (locs ++ L') (k + k') (n + n') (vx_MQ below (mQc N0 D cy a0 z0 (.inr E, h', kf, nf)) (mXC N0 D cy a0 z0 (.inr E, h', kf, nf)) args s kf nf (mA N0)) (F0 m pc ls (rest.map (mv ad2))) q := by
      refine vx_out (E := E) (ce := ce) ?_ C.locks (by rw [e1]; exact hce) hcv hcl (fun t9 ht9 ha9 => ⟨rfl, ad2, ?_, ?_, ?_, by rw [ht9, e1]; exact p4, p5, ?_⟩) hS2.2.2 hk' hn'
      · intro x hx
        rw [C.2.2.2.2.2.2.2.2.2.1, htab] at hx
        cases hx
      · intro j hj
        exact X.2.2.2.2.1 j (by show j < z0 ∨ h.length ≤ j; rw [← hl]; exact hj)
      · show z0 ≤ h'.length
        rw [hl]; exact X.2.2.2.2.2.1
      · show h'.length ≤ 1000
        rw [hl]; exact X.2.2.2.2.2.2
      · exact hS2.F ht9
    obtain ⟨t2, a1, b1⟩ := key T' rfl Y'
    exact ⟨t2, go.trans a1, b1⟩
end MRC
