/-! ROWS OF THE SMALL MACHINE: new things -/
section MRN
variable {S : Nat × (Nat → Int32)} {M M' : mM} {pc k n kf nf : Nat} {L : List (Option Value)} {st : List Value} {h : mH} {r r' : mR} {As : List Value}
/-- no reference to the places from lo to hi -/
def mIn (lo hi : Nat) : Value → Bool
  | .ref j => decide (j < lo) || decide (hi ≤ j)
  | _ => true
def mInL (lo hi : Nat) (L : List (Option Value)) : Bool := L.all (fun o => match o with | some v => mIn lo hi v | none => true)
def mInH (lo hi : Nat) (h : mH) : Bool := h.all (fun e => match e with | .inr q => q.2.all (mIn lo hi) | .inl _ => true)
theorem mv_agree {ad ad' : Nat → Nat} {lo hi : Nat} (ha : ∀ j, (j < lo ∨ hi ≤ j) → ad' j = ad j) {v : Value} (hv : mIn lo hi v = true) : mv ad' v = mv ad v := by
  cases v with
  | ref j =>
    simp only [mIn, Bool.or_eq_true, decide_eq_true_eq] at hv
    show Value.ref (ad' j) = Value.ref (ad j)
    rw [ha j hv]
  | _ => rfl
theorem mv_agreeS {ad ad' : Nat → Nat} {lo hi : Nat} (ha : ∀ j, (j < lo ∨ hi ≤ j) → ad' j = ad j) {st : List Value} (hv : st.all (mIn lo hi) = true) : st.map (mv ad') = st.map (mv ad) :=
  List.map_congr_left (fun v h9 => mv_agree ha (List.all_eq_true.mp hv v h9))
theorem mL.agree {ad ad' : Nat → Nat} {lo hi : Nat} (ha : ∀ j, (j < lo ∨ hi ≤ j) → ad' j = ad j) {ls : Array Slot} {nL : Nat} (hv : mInL lo hi L = true) (hl : mL ad ls nL L) : mL ad' ls nL L := by
  refine ⟨hl.1, hl.2.1, fun i v h9 => ?_⟩
  have h8 := List.all_eq_true.mp hv (some v) (List.mem_of_getElem? h9)
  rw [mv_agree ha h8]
  exact hl.2.2 i v h9
theorem mw_agree {ad ad' : Nat → Nat} {cy : Nat → ClassId} {lo hi : Nat} (ha : ∀ j, (j < lo ∨ hi ≤ j) → ad' j = ad j) (hlen : h.length ≤ lo) (hv : mInH lo hi h = true) : mw ad' cy h = mw ad cy h := by
  apply List.ext_getElem?
  intro i
  unfold mw
  rw [List.getElem?_mapIdx, List.getElem?_mapIdx]
  cases hi : h[i]? with
  | none => rfl
  | some e =>
    have hlt : i < h.length := (List.getElem?_eq_some_iff.mp hi).1
    show some (ad' i, mvE ad' cy e) = some (ad i, mvE ad cy e)
    rw [ha i (Or.inl (by omega))]
    cases e with
    | inl q => rfl
    | inr q =>
      have h8 := List.all_eq_true.mp hv _ (List.mem_of_getElem? hi)
      show some (ad i, Sum.inr (q.1, q.2.map (mv ad'))) = some (ad i, Sum.inr (q.1, q.2.map (mv ad)))
      rw [mv_agreeS ha h8]
theorem mw_app {ad : Nat → Nat} {cy : Nat → ClassId} {e : mE} : mw ad cy (h ++ [e]) = mw ad cy h ++ [(ad h.length, mvE ad cy e)] := by
  unfold mw
  rw [List.mapIdx_append]
  simp
/-- a world with one thing more -/
theorem mS.more {N0 : Nat} {D : va_G} {cy : Nat → ClassId} {a0 : Nat → Nat} {z0 : Nat} {s : State} {ad : Nat → Nat} {H H1 : Heap} {locs : List Loc} {ls : Array Slot} {e : mE} {q : Nat} (X : mS M N0 D cy a0 z0 s ad L h H locs ls)
    (hP : va_P D mCl (mw ad cy h ++ [(q, mvE (va_up ad h.length q) cy e)]) H1) (hD : va_D (mA N0) (mw ad cy h ++ [(q, mvE (va_up ad h.length q) cy e)])) (hS : va_S (mA N0) s.heap H1 locs) (h1 : h.length + 1 ≤ 1000) (h2 : mInH h.length (h.length + 1) h = true) (h3 : mInL h.length (h.length + 1) L = true) :
    mS M N0 D cy a0 z0 s (va_up ad h.length q) L (h ++ [e]) H1 locs ls := by
  have ha : ∀ j, (j < h.length ∨ h.length + 1 ≤ j) → va_up ad h.length q j = ad j := fun j hj => by
    unfold va_up
    rw [if_neg (by omega)]
  have e1 : mw (va_up ad h.length q) cy (h ++ [e]) = mw ad cy h ++ [(q, mvE (va_up ad h.length q) cy e)] := by
    rw [mw_app, mw_agree ha (Nat.le_refl _) h2]
    congr 2
    unfold va_up
    rw [if_pos rfl]
  refine ⟨by rw [e1]; exact hP, by rw [e1]; exact hD, hS, mL.agree ha h3 X.2.2.2.1, fun j hj => ?_, ?_, ?_⟩
  · rw [List.length_append] at hj
    have hz := X.2.2.2.2.2.1
    have hj : j < z0 ∨ h.length + 1 ≤ j := hj
    rw [ha j (by omega)]
    exact X.2.2.2.2.1 j (by omega)
  · rw [List.length_append]
    exact Nat.le_trans X.2.2.2.2.2.1 (Nat.le_add_right _ _)
  · rw [List.length_append]
    exact h1
theorem mr_newarray {t N : Nat} {at9 : ArrayType} {ty : FieldType} {i : Int32} {x : vp_A} (hf : mAt M pc = some (.newarray at9, 2)) (hty : newarray.typeOf at9 = ty) (hw : Cond.arrayClass (newarray.typeOf at9) ∈ mTW) (hidx : ∀ cy : Nat → ClassId, (mTys cy)[t]? = some (cy t, ty)) (hRA : ∀ (U : State) (cA : ClassId), va_RA U cA ty = (U.vm.findClass ("[" ++ ty.toString) = some cA))
    (hx : ∀ cA : ClassId, vp_cell cA x = arrV cA N (fun _ => defaultValue ty)) (hi : ¬ i < 0) (hN : i.toNatClampNeg = N) (hb : N * componentBytes ty ≤ 536870912) (hk' : k + 1 ≤ r.2.2.1) (hn' : n + N ≤ r.2.2.2) (h1 : h.length + 1 ≤ 1000) (h2 : mInH h.length (h.length + 1) h = true) (h3 : mInL h.length (h.length + 1) L = true) (h4 : st.all (mIn h.length (h.length + 1)) = true)
    (k9 : mF S M (pc + 2) L (.ref h.length :: st) (h ++ [.inl (t, x)]) (k + 1) (n + N) r) : mF S M pc L (.int i :: st) h k n r := by
  intro N0 b sa D cy a0 z0 p l e R s m args below meth c C hk hn ad H locs ls X
  refine va_newa (tys := mTys cy) C.1 C.2.1 (C.ts _ hw) hty C.K X.1 X.2.1 X.2.2.1 (fun q hq => Nat.le_trans C.sz hq) hx hi hN hb (Nat.le_trans hk' hk) (Nat.le_trans hn' hn) (mAt_dec C.2.2.1 hf) (fun q cA H1 hK hP hD hS => ?_)
  have hcA : cA = cy t := by
    have e1 := (hK.2 3 (cA, ty) rfl).2
    have e2 := (C.K.2 t _ (hidx cy)).2
    rw [hRA] at e1 e2
    exact Option.some.inj (e1.symm.trans e2)
  subst hcA
  have X2 := X.more (e := .inl (t, x)) (q := q) hP hD hS h1 h2 h3
  have e3 : (.ref q :: st.map (mv ad) : List Value) = (.ref h.length :: st).map (mv (va_up ad h.length q)) := by
    have ha : ∀ j, (j < h.length ∨ h.length + 1 ≤ j) → va_up ad h.length q j = ad j := fun j hj => by
      unfold va_up
      rw [if_neg (by omega)]
    rw [List.map_cons, mv_agreeS ha h4]
    show _ = Value.ref (va_up ad h.length q h.length) :: _
    unfold va_up
    rw [if_pos rfl]
  rw [e3]
  exact k9 N0 b sa D cy a0 z0 p l e R s m args below meth c C hk hn _ H1 locs ls X2
def mLkN (own : String) (idx ci : Nat) (fs : List Value) (N : Nat) : Prop := ∃ (C : String) (T : u_T) (ty : Nat → FieldType), mCl[ci]? = some (C, T, N) ∧ (∀ w ∈ u_ws C T N, w ∈ mTW) ∧ (∀ k, k < N → parseFieldDescriptor (T k).2.2.1 = some (ty k)) ∧ Cond.classLink own idx C ∈ mTW ∧ Cond.instantiable C N ∈ mTW ∧ Cond.initialized C ∈ mTW ∧ (∀ j, j < N → defaultValue (ty j) = vp_V fs j) ∧ (∀ ad : Nat → Nat, fs.map (mv ad) = fs)
theorem mr_new {idx ci N : Nat} {fs : List Value} (hf : mAt M pc = some (.new idx, 3)) (lk : mLkN M.1.cls idx ci fs N) (hk' : k + 1 ≤ r.2.2.1) (hn' : n + N ≤ r.2.2.2) (h1 : h.length + 1 ≤ 1000) (h2 : mInH h.length (h.length + 1) h = true) (h3 : mInL h.length (h.length + 1) L = true) (h4 : st.all (mIn h.length (h.length + 1)) = true)
    (k9 : mF S M (pc + 3) L (.ref h.length :: st) (h ++ [.inr (ci, fs)]) (k + 1) (n + N) r) : mF S M pc L st h k n r := by
  intro N0 b sa D cy a0 z0 p l e R s m args below meth c C hk hn ad H locs ls X
  obtain ⟨Cn, T, ty, hc, hin, hty, w1, w2, w3, hfs, hfx⟩ := lk
  refine va_new (D := D) (cl := mCl) (tys := mTys cy) (ci := ci) (fs := fs) (C := Cn) (T := T) (N := N) C.1 C.2.1 C.ts hin ty hty C.own (C.ts _ w1) (C.ts _ w2) (C.ts _ w3) C.K X.1 X.2.1 X.2.2.1 (fun q hq => Nat.le_trans C.sz hq) hc hfs (Nat.le_trans hk' hk) (Nat.le_trans hn' hn) (mAt_dec C.2.2.1 hf) (fun q H1 hP hD hS => ?_)
  have e2 : ∀ ad9 : Nat → Nat, mvE ad9 cy (.inr (ci, fs)) = .inr (ci, fs) := fun ad9 => by show Sum.inr (ci, fs.map (mv ad9)) = _; rw [hfx]
  have X2 := X.more (e := .inr (ci, fs)) (q := q) (by rw [e2]; exact hP) (by rw [e2]; exact hD) hS h1 h2 h3
  have e3 : (.ref q :: st.map (mv ad) : List Value) = (.ref h.length :: st).map (mv (va_up ad h.length q)) := by
    have ha : ∀ j, (j < h.length ∨ h.length + 1 ≤ j) → va_up ad h.length q j = ad j := fun j hj => by
      unfold va_up
      rw [if_neg (by omega)]
    rw [List.map_cons, mv_agreeS ha h4]
    show _ = Value.ref (va_up ad h.length q h.length) :: _
    unfold va_up
    rw [if_pos rfl]
  rw [e3]
  exact k9 N0 b sa D cy a0 z0 p l e R s m args below meth c C hk hn _ H1 locs ls X2
theorem m_met {l : Launch} {y : MethodName} {ws : List Cond} {rm : Room} {Pc : Array Value → State → Prop} {Qc : Array Value → State → Outcome → State → Prop} {XC : String → State → State → Prop} {mc ms : Nat} {free : Addr → Prop} (hM : vx_Met l y ws rm Pc Qc XC mc ms free) (hx : ∀ E st t, ¬ XC E st t) : Met l y ws rm Pc Qc mc ms free := by
  intro p e ha hc hk s m args below hf happ hP hK
  obtain ⟨n9, o, h1, h2, h3, hq⟩ := hM p e ha hc hk s m args below hf happ hP hK
  refine ⟨n9, o, h1, h2, h3, ?_⟩
  rcases hq with hq | ⟨q, -, E, ce, L9, hx9, -⟩
  · exact hq
  · exact absurd hx9 (hx E _ _)
/-- a constructor that makes things -/
theorem mr_init {idx q ci : Nat} {fs : List Value} {h' : mH} {k' n' : Nat} (hf : mAt M pc = some (.invokespecial idx, 3)) (lk : mLkI M.1.cls idx M' 0) (hr : mRoom M M' = true) (hn : 1 ≤ M'.2.2.1) (hsum : (st.map fun v => v.category).sum ≤ 8)
    (hc : mF S M' 0 (mEnt [.ref q] M'.2.2.1) [] h 0 0 (.inl none, h', k', n')) (hk' : k + k' ≤ r.2.2.1) (hn' : n + n' ≤ r.2.2.2) (h3 : mInL h.length h'.length L = true) (h4 : st.all (mIn h.length h'.length) = true)
    (k9 : mF S M (pc + 3) L st h' (k + k') (n + n') r) : mF S M pc L (.ref q :: st) h k n r := by
  intro N0 b sa D cy a0 z0 p l e R s m args below meth c C hk hn9 ad H locs ls X
  obtain ⟨l1, l2, hnm, hret, hh, l3⟩ := lk
  have hM := m_met (mc_met hc hn l3 N0 b sa D cy ad l) (fun E st t hx => by cases hx.1)
  have hR := m_room hr C.2.2.2.2.2.2.2.2.2.2.2.2.2.1 C.2.2.2.2.2.2.2.2.2.2.2.2.2.2
  have hp : PreS s H (mPc S N0 b sa D cy ad [.ref q] h l) [.ref (ad q)] := ⟨mPc.blind, fun U hU hW => m_pre C X [.ref q] U hU hW⟩
  have hsm : 2 * (F0 m pc ls ((.ref q :: st).map (mv ad))).monitorRoom + ((st.map (mv ad)).map fun v => v.category).sum ≤ 8 := by
    rw [m_sum]
    have : (F0 m pc ls ((.ref q :: st).map (mv ad))).monitorRoom = 0 := rfl
    omega
  obtain ⟨q1, q2, q3, q4, q5, q6⟩ := id l3
  rw [if_pos hh] at q1
  have hrun := va_runI (As := []) (b := ad q) (rest := st.map (mv ad)) (g := F0 m pc ls ((.ref q :: st).map (mv ad))) (ws := mWs M') (rm := mRm M' (.inl none, h', k', n')) (bytes := M'.2.1) (maxL := M'.2.2.1) (own := M.1.cls) (Ts := mTW) (H := H) (locs := locs) (cells := k) (slots := n) (e := e) (below := below) (meth := meth) (R := R) (index := idx) (n := 0) ⟨C.1, C.2.1, C.2.2.2.2.2.1, C.own, C.ts⟩ hM
    ⟨⟨rfl, rfl, hR.1, hR.2, m_pay C.ts l3, by unfold mWs; rw [if_pos hh, hret]; exact List.mem_cons_self, by rw [← hret]; exact C.ts _ q1, C.ts _ q2, q4, m_len q5, C.ts _ l1⟩, hnm, C.ts _ l2⟩ hp rfl rfl X.2.2.2.1.1 rfl hsm (mAt_dec C.2.2.1 hf) ⟨Nat.le_trans hk' hk, Nat.le_trans hn' hn9⟩
  intro T hT Y
  obtain ⟨w, st₀, t, T', L', h0, Y', hL, e1, e2, ⟨v2, ad2, e3, e4, p1, p2, p3, p4, p5, p6⟩, go⟩ := hrun T hT Y
  cases e3
  cases e4
  have hS2 : va_S (mA N0) s.heap T'.heap (locs ++ L') := by
    obtain ⟨f1, f2⟩ := p6
    rw [h0] at f1 f2
    refine ⟨Nat.le_trans X.2.2.1.1 (by rw [e1]; exact f1), fun j hj hA => ?_, fun j hj => ?_⟩
    · rw [e1, f2 j (Nat.lt_of_lt_of_le hj X.2.2.1.1) hA]
      exact X.2.2.1.2.1 j hj hA
    · rcases List.mem_append.mp hj with z | z
      · exact X.2.2.1.2.2 j z
      · exact hL j z
  have p1' : ∀ j, (j < h.length ∨ h'.length ≤ j) → ad2 j = ad j := p1
  have p2' : h.length ≤ h'.length := p2
  have hz := X.2.2.2.2.2.1
  have X2 : mS M N0 D cy a0 z0 s ad2 L h' T'.heap (locs ++ L') ls := ⟨by rw [e1]; exact p4, p5, hS2, mL.agree p1' h3 X.2.2.2.1, fun j hj => by rw [p1' j (by omega)]; exact X.2.2.2.2.1 j (by omega), by omega, p3⟩
  obtain ⟨t2, a1, b1⟩ := k9 N0 b sa D cy a0 z0 p l e R s m args below meth c C hk hn9 ad2 T'.heap (locs ++ L') ls X2 T' rfl Y'
  refine ⟨t2, go t2 ?_, b1⟩
  rw [mv_agreeS p1' h4] at a1
  exact a1
end MRN
