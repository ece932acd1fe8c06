/-! 'throw new NullPointerException("..")': its own fillInStackTrace within Throwable's constructor with a message. The library has both, apart (ColdNpeFill, ColdFillAny, ColdInitSV, ColdChainS); here they are joined. -/
section NX
variable {self : Addr}
/-- room for NullPointerException's fillInStackTrace, Throwable's within it, the native one within that -/
theorem nx_rooms {e : Env} {X : State} {g : JFrame} (htop : X.topJava?.isSome) (T : ThrowableC) (N : NpeC) (cell : Cell) (t : ThreadId)
    {lim : Nat × Nat} (hlim : e.platform.stackLimits X.me = lim) (hframes : X.frames.length + 2 < lim.1) (hwords : (stackUse (.java g :: X.frames.tail)).2 + 43 ≤ lim.2) :
    e.platform.stackFull (((X.setTop g).threads[(X.setTop g).cur]?).getD { frames := [] }) (X.setTop g).frames (1 + 2) = false ∧
    e.platform.stackFull ((((npeInside X g N.toNpeT self cell).setTop (fillJ N.fill self 37 [])).threads[((npeInside X g N.toNpeT self cell).setTop (fillJ N.fill self 37 [])).cur]?).getD { frames := [] }) ((npeInside X g N.toNpeT self cell).setTop (fillJ N.fill self 37 [])).frames (1 + 2) = false ∧
    e.platform.stackFull ((((fillInside (npeInside X g N.toNpeT self cell) (fillJ N.fill self 37 []) T.fill self (npeCell N.toNpeT cell t)).setTop (fillJ T.fill self 16 [])).threads[((fillInside (npeInside X g N.toNpeT self cell) (fillJ N.fill self 37 []) T.fill self (npeCell N.toNpeT cell t)).setTop (fillJ T.fill self 16 [])).cur]?).getD { frames := [] }) ((fillInside (npeInside X g N.toNpeT self cell) (fillJ N.fill self 37 []) T.fill self (npeCell N.toNpeT cell t)).setTop (fillJ T.fill self 16 [])).frames (nativeFrameWords "java/lang/Throwable" "fillInStackTrace" 2) = false := by
  obtain ⟨g₀, hg⟩ := Option.isSome_iff_exists.mp htop
  obtain ⟨tl, htl⟩ := State.topJava?_eq_some.mp hg
  have hlen : X.frames.length = (Frame.java g :: X.frames.tail).length := by rw [htl]; rfl
  have hfg : (X.setTop g).frames = .java g :: X.frames.tail := by rw [State.frames_setTop _ htl, htl]; rfl
  have hlimg : e.platform.stackLimits (X.setTop g).me = lim := by rw [State.stackLimits_setTop _ htop]; exact hlim
  have htopE : (X.setCell self (cell.withEntry X.cur)).topJava?.isSome := htop
  have hfN : (npeInside X g N.toNpeT self cell).frames = .java (entryFrameSync N.fill #[.ref self] 1 self) :: .java g :: X.frames.tail := frames_entered (g := g) htopE _
  have htopN : (npeInside X g N.toNpeT self cell).topJava?.isSome := by rw [State.topJava?_of_frames hfN]; rfl
  have hlimN : e.platform.stackLimits (npeInside X g N.toNpeT self cell).me = lim := by
    show e.platform.stackLimits (fillInside X g N.fill self cell).me = lim
    rw [State.stackLimits_pushFrame, State.stackLimits_setTop _ htopE]; exact hlim
  have hw1 : (stackUse [Frame.java (fillJ N.fill self 37 [])]).2 = 14 := by
    rw [stackUse_java, stackUse_nil]; simp [operandWords]
  have htopE2 : ((npeInside X g N.toNpeT self cell).setCell self ((npeCell N.toNpeT cell t).withEntry (npeInside X g N.toNpeT self cell).cur)).topJava?.isSome := by rw [State.topJava?_setCell]; exact htopN
  have hfF : (fillInside (npeInside X g N.toNpeT self cell) (fillJ N.fill self 37 []) T.fill self (npeCell N.toNpeT cell t)).frames = .java (entryFrameSync T.fill #[.ref self] 1 self) :: .java (fillJ N.fill self 37 []) :: .java g :: X.frames.tail := by
    rw [show (fillInside (npeInside X g N.toNpeT self cell) (fillJ N.fill self 37 []) T.fill self (npeCell N.toNpeT cell t)).frames = _ from frames_entered (g := fillJ N.fill self 37 []) htopE2 _]
    show _ :: _ :: ((npeInside X g N.toNpeT self cell).frames).tail = _
    rw [hfN]; rfl
  have htopF : (fillInside (npeInside X g N.toNpeT self cell) (fillJ N.fill self 37 []) T.fill self (npeCell N.toNpeT cell t)).topJava?.isSome := by rw [State.topJava?_of_frames hfF]; rfl
  have hlimF : e.platform.stackLimits (fillInside (npeInside X g N.toNpeT self cell) (fillJ N.fill self 37 []) T.fill self (npeCell N.toNpeT cell t)).me = lim := by
    rw [State.stackLimits_pushFrame, State.stackLimits_setTop _ htopE2]; exact hlimN
  have hw2 : (stackUse [Frame.java (fillJ T.fill self 16 []), Frame.java (fillJ N.fill self 37 [])]).2 = 28 := by
    rw [stackUse_java, hw1]; simp [operandWords]
  refine ⟨roomAbove (pushed := []) (base := .java g :: X.frames.tail) (free := 43) (lim := lim) hfg hlimg (by rw [← hlen]; simp only [List.length_nil]; omega) hwords (by simp only [stackUse_nil]; omega), ?_, ?_⟩
  · exact roomAbove (pushed := [.java (fillJ N.fill self 37 [])]) (base := .java g :: X.frames.tail) (free := 43) (lim := lim) (State.frames_setTop _ hfN) (by rw [State.stackLimits_setTop _ htopN]; exact hlimN)
      (by rw [← hlen]; simp only [List.length_cons, List.length_nil]; omega) hwords (by rw [hw1]; omega)
  · exact roomAbove (pushed := [.java (fillJ T.fill self 16 []), .java (fillJ N.fill self 37 [])]) (base := .java g :: X.frames.tail) (free := 43) (lim := lim) (State.frames_setTop _ hfF) (by rw [State.stackLimits_setTop _ htopF]; exact hlimF)
      (by rw [← hlen]; simp only [List.length_cons, List.length_nil]; omega) hwords (by rw [hw2]; decide)
/-- NullPointerException's fillInStackTrace, its first call, no traces: in and out -/
theorem nx_fill (p : Program) {e : Env} {below : List Frame} {s₀ X : State} {g : JFrame} {c : Code} (h : At X g.method c below) (hexec : p.tables.exec = Jvm.exec) (htr : e.platform.stackTraces = false)
    (T : ThrowableC) (L : T.Links e.platform s₀) (N : NpeC) (LN : N.Links T e.platform s₀) (hW : s₀.WarmedH X.vm) {t : ThreadId} (ht : X.cur = t)
    {u0 : RefV} {cell cellS : Cell} {kcell : Class}
    (hcell : X.heap[self]? = some cell) (hobj : ∀ k, cell.vm ≠ .statics k) (hknown : cell.vm ≠ .unknown) (hfree : cell.monitor.owner = none)
    (hkcell : s₀.vm.classes[cell.cls]? = some kcell) (hsel0 : selectMethod e.platform s₀.vm cell.cls T.fill0 = .method T.fill0)
    (hcellS : X.heap[T.aS]? = some cellS) (hneS : T.aS ≠ self) (hknownS : cellS.vm ≠ .unknown) (hvU : cellS.slots[T.fUnassigned.slot]? = some u0.v)
    (hv0 : cell.slots[N.fState.slot]? = some (.int 0)) (hvS : cell.slots[T.fStack.slot]? = some u0.v) (hneSt : T.fStack.slot ≠ N.fState.slot)
    (htS : Takes s₀ cell T.fStack u0.v) (ht1 : Takes s₀ cell N.fState (.int 1))
    (hskip : SkipFacts T e.platform s₀ (fun u => u) u0 ((npeCell N.toNpeT cell t).withEntry t))
    {lim : Nat × Nat} (hlim : e.platform.stackLimits X.me = lim) (hframes : X.frames.length + 2 < lim.1) (hwords : (stackUse (.java g :: X.frames.tail)).2 + 43 ≤ lim.2)
    {ig : Instr} {len : Nat} (hdg : decode c.code g.pc = .ok (ig, len)) :
    ∃ vm', s₀.WarmedH vm' ∧ ∀ target, Steps p.tables e below (((X.setVm vm').setCell self ((((npeCell N.toNpeT cell t).withEntry t).setSlot T.fStack.slot u0.v).left).left).setTop { g with pc := g.pc + len, stack := .ref self :: g.stack }) target →
      Steps p.tables e below (doInvoke e (X.setTop g) [] N.fill #[.ref self]).1 target := by
  have hlt : self < X.heap.size := (Array.getElem?_eq_some_iff.mp hcell).1
  have hheld : ((npeCell N.toNpeT cell t).withEntry t).left = npeCell N.toNpeT cell t := Cell.left_withEntry_held _ rfl (by show 0 < cell.monitor.count + 1; omega)
  have hFmon : ((((npeCell N.toNpeT cell t).withEntry t).setSlot T.fStack.slot u0.v).left).monitor = (npeCell N.toNpeT cell t).monitor := by
    rw [Cell.left_monitor_congr (y := (npeCell N.toNpeT cell t).withEntry t) (show (((npeCell N.toNpeT cell t).withEntry t).setSlot T.fStack.slot u0.v).monitor = _ from rfl), hheld]
  have hvSN : (npeCell N.toNpeT cell t).slots[T.fStack.slot]? = some u0.v := by
    simp [npeCell, Cell.setSlot, Cell.withEntry, Ne.symm hneSt, hvS]
  have htSN : Takes s₀ (npeCell N.toNpeT cell t) T.fStack u0.v := ⟨by simpa [npeCell, Cell.setSlot, Cell.withEntry] using htS.1, htS.2⟩
  have hinner : ∀ vm1, s₀.WarmedH vm1 → At (npeInside (X.setVm vm1) g N.toNpeT self cell) N.fill N.codeFill below → ∃ vm2, s₀.WarmedH vm2 ∧ ∀ t' : State,
      Steps p.tables e below (((npeInside (X.setVm vm2) g N.toNpeT self cell).setCell self ((((npeCell N.toNpeT cell t).withEntry t).setSlot T.fStack.slot u0.v).left)).setTop (fillJ N.fill self 40 [.ref self])) t' →
      Steps p.tables e below (doInvoke e ((npeInside (X.setVm vm1) g N.toNpeT self cell).setTop (fillJ N.fill self 37 [])) [] T.fill #[.ref self]).1 t' := by
    intro vm1 hW1 hB
    have hc1 : (npeInside (X.setVm vm1) g N.toNpeT self cell).heap[self]? = some (npeCell N.toNpeT cell t) := by
      rw [← ht]
      exact heapAt_setCell_self _ (by show self < (X.heap.setIfInBounds self _).size; simpa using hlt)
    have hc2 : (npeInside (X.setVm vm1) g N.toNpeT self cell).heap[T.aS]? = some cellS := by
      show ((X.heap.setIfInBounds self _).setIfInBounds self _)[T.aS]? = _
      simp [Ne.symm hneS, hcellS]
    have hcur : (npeInside (X.setVm vm1) g N.toNpeT self cell).cur = t := ht
    have hlt2 : self < (npeInside (X.setVm vm1) g N.toNpeT self cell).heap.size := (Array.getElem?_eq_some_iff.mp hc1).1
    have r2 := (nx_rooms (e := e) (X := X.setVm vm1) (g := g) (self := self) h.top T N cell t hlim hframes hwords).2.1
    have r3 : ∀ vm, _ := fun vm => (nx_rooms (e := e) (X := X.setVm vm) (g := g) (self := self) h.top T N cell t hlim hframes hwords).2.2
    obtain ⟨vm2, hW2, st⟩ := Steps.fillColdAnyV p (V := npeInside (X.setVm vm1) g N.toNpeT self cell) (g := fillJ N.fill self 37 []) (c := N.codeFill) (self := self) hB hexec T L hW1 (Nn := fun u => u) heapOnly_id (fun _ _ => rfl) (fun _ => rfl) (fun u x y => setCell_twice _ _ _ _)
      (cell := npeCell N.toNpeT cell t) (cellS := cellS) (cN := (npeCell N.toNpeT cell t).withEntry t) (u0 := u0) (ig := .invokespecial 24) (len := 3) [] hc1 hobj hknown (Or.inr (by rw [hcur]; rfl)) hvSN hsel0 hc2 hneS hknownS hvU
      (by rw [hcur]; exact fun _ hu => hu) (fun _ hu => hu) rfl rfl (by rw [hcur]) (by simp [Cell.withEntry]) htSN (by rw [LN.fillBytes]; exact LibCode.NullPointerException.Fill.at_37)
      (fun _ vm3 hW3 hAt t' hs => L.nativeOff p htr hAt hW3 (r3 vm3) hs) r2 (by rw [hcur]; exact hskip)
    exact ⟨vm2, hW2, fun t' hs => st t' hs⟩
  obtain ⟨vm', hW', st⟩ := Steps.npeFillColdBy p (V := X) (g := g) (c := c) (self := self) h hexec T L N LN hW (Fi := fun u => u.setCell self ((((npeCell N.toNpeT cell t).withEntry t).setSlot T.fStack.slot u0.v).left)) (heapOnly_id.thenSetCell self _)
    (fun _ => rfl) (fun u x y => by rw [setCell_twice, setCell_twice, setCell_twice]) (cell := cell) (cFi := (((npeCell N.toNpeT cell t).withEntry t).setSlot T.fStack.slot u0.v).left) (kcell := kcell) (ig := ig) (len := len) []
    hcell hobj hknown hfree hkcell hv0 ht1 (by rw [ht]; exact fun u hu => heapAt_setCell_self _ (Array.getElem?_eq_some_iff.mp hu).1) (by rw [ht]; exact hFmon) hdg hinner
    (nx_rooms (e := e) (X := X) (g := g) (self := self) h.top T N cell t hlim hframes hwords).1
  refine ⟨vm', hW', fun target hrest => st target ?_⟩
  show Steps p.tables e below ((((X.setVm vm').setCell self _).setCell self _).setTop _) target
  rw [setCell_twice]
  exact hrest
/-- the cell as it then is -/
abbrev nxCell (T : ThrowableT) (N : NpeT) (cell : Cell) (self : Addr) (u0 sen : RefV) (msg : Value) : Cell := (npeBareV T N cell self u0 sen).setSlot T.fMsg.slot msg
/-- Throwable's constructor with a message, on a NullPointerException -/
theorem nx_initS (p : Program) {e : Env} {below : List Frame} {s₀ V : State} {g : JFrame} {c : Code} (h : At V g.method c below) (hexec : p.tables.exec = Jvm.exec) (htr : e.platform.stackTraces = false)
    (T : ThrowableC) (L : T.Links e.platform s₀) (Z : Init0T) (LZ : Z.LaidS T.toThrowableT) (M : MsgC) (LM : M.Links T e.platform s₀) (N : NpeC) (LN : N.Links T e.platform s₀) (hW : s₀.WarmedH V.vm) {t : ThreadId} (ht : V.cur = t)
    {u0 sen : RefV} {msg : Value} (hmsg : msg.isRef = true) {cell cellS : Cell} {kcell : Class}
    (hcell : V.heap[self]? = some cell) (hobj : ∀ k, cell.vm ≠ .statics k) (hknown : cell.vm ≠ .unknown) (hfree : cell.monitor.owner = none) (hcount : cell.monitor.count = 0)
    (hkcell : s₀.vm.classes[cell.cls]? = some kcell) (hsel0 : selectMethod e.platform s₀.vm cell.cls T.fill0 = .method T.fill0) (hselF : selectMethod e.platform s₀.vm cell.cls T.fill = .method N.fill)
    (hcellS : V.heap[T.aS]? = some cellS) (hneS : T.aS ≠ self) (hknownS : cellS.vm ≠ .unknown) (hvU : cellS.slots[T.fUnassigned.slot]? = some u0.v) (hvSen : cellS.slots[T.fSentinel.slot]? = some sen.v)
    (hv0 : cell.slots[N.fState.slot]? = some (.int 0)) (hneC : T.fCause.slot ≠ N.fState.slot) (hneSt : T.fStack.slot ≠ N.fState.slot) (hneP : T.fSupp.slot ≠ N.fState.slot)
    (htC : Takes s₀ cell T.fCause (.ref self)) (htS : Takes s₀ cell T.fStack u0.v) (htP : Takes s₀ cell T.fSupp sen.v) (htM : Takes s₀ cell T.fMsg msg) (ht1 : Takes s₀ cell N.fState (.int 1)) (hobjLocals : T.codeObj.maxLocals = 1)
    (hskip : SkipFacts T e.platform s₀ (fun u => u) u0 ((npeCell N.toNpeT (preparedCellV T.toThrowableT cell self u0 sen) t).withEntry t))
    {lim : Nat × Nat} (hlim : e.platform.stackLimits V.me = lim) (hframes : V.frames.length + 3 < lim.1) (hwords : (stackUse (.java g :: V.frames.tail)).2 + 56 ≤ lim.2)
    {ig : Instr} {len : Nat} (acts : List Action) (hdg : decode c.code g.pc = .ok (ig, len)) :
    ∃ vm', s₀.WarmedH vm' ∧ ∀ target, Steps p.tables e below (((V.setVm vm').setCell self (nxCell T.toThrowableT N.toNpeT cell self u0 sen msg)).setTop { g with pc := g.pc + len }) target →
      Steps p.tables e below (doInvoke e (V.setTop g) acts (Z.m T.toThrowableT) #[.ref self, msg]).1 target := by
  have hlt : self < V.heap.size := (Array.getElem?_eq_some_iff.mp hcell).1
  obtain ⟨g₀, hg⟩ := Option.isSome_iff_exists.mp h.top
  obtain ⟨tl, htl⟩ := State.topJava?_eq_some.mp hg
  have hlen : V.frames.length = (Frame.java g :: V.frames.tail).length := by rw [htl]; rfl
  have hfg : (V.setTop g).frames = .java g :: V.frames.tail := by rw [State.frames_setTop _ htl, htl]; rfl
  have hlimg : e.platform.stackLimits (V.setTop g).me = lim := by rw [State.stackLimits_setTop _ h.top]; exact hlim
  have hfU : ∀ vm, (initSInside (V.setVm vm) g T.toThrowableT Z self msg).frames = .java (initSJ T.toThrowableT Z self msg 0 []) :: .java g :: V.frames.tail := fun vm => frames_entered (s := V.setVm vm) h.top _
  have htopU : (initSInside V g T.toThrowableT Z self msg).topJava?.isSome := by
    have := hfU V.vm
    rw [State.setVm_self] at this
    rw [State.topJava?_of_frames this]; rfl
  have hlimU : ∀ vm, e.platform.stackLimits (initSInside (V.setVm vm) g T.toThrowableT Z self msg).me = lim := fun vm => by
    rw [State.stackLimits_pushFrame]; exact hlimg
  have hw13 : ∀ pc, (stackUse [Frame.java (initSJ T.toThrowableT Z self msg pc [])]).2 = 13 := by
    intro pc
    rw [stackUse_java, stackUse_nil]
    simp [operandWords]
  have hroom : e.platform.stackFull (((V.setTop g).threads[(V.setTop g).cur]?).getD { frames := [] }) (V.setTop g).frames 2 = false :=
    roomAbove (pushed := []) (base := .java g :: V.frames.tail) (free := 56) (lim := lim) hfg hlimg (by rw [← hlen]; simp only [List.length_nil]; omega) hwords (by simp only [stackUse_nil]; omega)
  have hroomO : e.platform.stackFull ((((initSInside V g T.toThrowableT Z self msg).setTop (initSJ T.toThrowableT Z self msg 1 [])).threads[((initSInside V g T.toThrowableT Z self msg).setTop (initSJ T.toThrowableT Z self msg 1 [])).cur]?).getD { frames := [] }) ((initSInside V g T.toThrowableT Z self msg).setTop (initSJ T.toThrowableT Z self msg 1 [])).frames T.codeObj.maxLocals = false := by
    have f0 := hfU V.vm
    have l0 := hlimU V.vm
    rw [State.setVm_self] at f0 l0
    exact roomAbove (pushed := [.java (initSJ T.toThrowableT Z self msg 1 [])]) (base := .java g :: V.frames.tail) (free := 56) (lim := lim) (State.frames_setTop _ f0) (by rw [State.stackLimits_setTop _ htopU]; exact l0)
      (by rw [← hlen]; simp only [List.length_cons, List.length_nil]; omega) hwords (by rw [hw13, hobjLocals]; omega)
  have hpS : (preparedCellV T.toThrowableT cell self u0 sen).slots[T.fStack.slot]? = some u0.v := by
    have h1 : T.fStack.slot < cell.slots.size := htS.1
    simp [preparedCellV, Cell.setSlot, Ne.symm L.stackApartSupp, h1]
  have hpX : (preparedCellV T.toThrowableT cell self u0 sen).slots[N.fState.slot]? = some (.int 0) := by
    simp [preparedCellV, Cell.setSlot, hneC, hneSt, hneP, hv0]
  have tk : ∀ {f : Field} {v : Value}, Takes s₀ cell f v → Takes s₀ (preparedCellV T.toThrowableT cell self u0 sen) f v := fun h' => ⟨by simpa [preparedCellV, Cell.setSlot] using h'.1, h'.2⟩
  have hfill : ∀ vm1, s₀.WarmedH vm1 → At ((initSInside (V.setVm vm1) g T.toThrowableT Z self msg).setCell self (preparedCellV T.toThrowableT cell self u0 sen)) (Z.m T.toThrowableT) Z.code below → ∃ vm2, s₀.WarmedH vm2 ∧ ∀ t' : State,
      Steps p.tables e below ((((initSInside (V.setVm vm2) g T.toThrowableT Z self msg).setCell self (preparedCellV T.toThrowableT cell self u0 sen)).setCell self (npeBareV T.toThrowableT N.toNpeT cell self u0 sen)).setTop (initSJ T.toThrowableT Z self msg 27 [.ref self])) t' →
      Steps p.tables e below (doInvoke e (((initSInside (V.setVm vm1) g T.toThrowableT Z self msg).setCell self (preparedCellV T.toThrowableT cell self u0 sen)).setTop (initSJ T.toThrowableT Z self msg 24 [])) [] N.fill #[.ref self]).1 t' := by
    intro vm1 hW1 hA
    have hcX : ((initSInside (V.setVm vm1) g T.toThrowableT Z self msg).setCell self (preparedCellV T.toThrowableT cell self u0 sen)).heap[self]? = some (preparedCellV T.toThrowableT cell self u0 sen) := heapAt_setCell_self (s := initSInside (V.setVm vm1) g T.toThrowableT Z self msg) _ hlt
    have hcS : ((initSInside (V.setVm vm1) g T.toThrowableT Z self msg).setCell self (preparedCellV T.toThrowableT cell self u0 sen)).heap[T.aS]? = some cellS := by
      rw [heapAt_setCell_ne _ (Ne.symm hneS)]; exact hcellS
    have hfX : ((initSInside (V.setVm vm1) g T.toThrowableT Z self msg).setCell self (preparedCellV T.toThrowableT cell self u0 sen)).frames = .java (initSJ T.toThrowableT Z self msg 0 []) :: .java g :: V.frames.tail := hfU vm1
    obtain ⟨vm2, hW2, st⟩ := nx_fill p (X := (initSInside (V.setVm vm1) g T.toThrowableT Z self msg).setCell self (preparedCellV T.toThrowableT cell self u0 sen)) (g := initSJ T.toThrowableT Z self msg 24 []) (c := Z.code) (self := self) hA hexec htr T L N LN hW1 (t := t) ht
      hcX hobj hknown hfree hkcell hsel0 hcS hneS hknownS hvU hpX hpS hneSt (tk htS) (tk ht1) hskip (lim := lim) (hlimU vm1) (by rw [hfX]; simp only [List.length_cons] at hlen ⊢; omega)
      (by
        rw [hfX, List.tail_cons, stackUse_java]
        show (stackUse (Frame.java g :: V.frames.tail)).2 + (2 + 11 + 2 * 0 + operandWords []) + 43 ≤ lim.2
        simp only [operandWords, List.foldl_nil]
        omega) (ig := .invokevirtual 27) (len := 3) (by rw [LZ.bytes]; exact LibCode.Throwable.InitS.at_24)
    rw [npeBareV_eq T.toThrowableT N.toNpeT self u0 sen t hfree hcount] at st
    exact ⟨vm2, hW2, fun t' hs => st t' hs⟩
  obtain ⟨vm', hW', st⟩ := Steps.throwableInitSColdByV p h hexec T L Z LZ M LM hW (F := fun u => u.setCell self (npeBareV T.toThrowableT N.toNpeT cell self u0 sen)) (heapOnly_id.thenSetCell self _) (fun _ _ => rfl)
    hmsg (cF := npeBareV T.toThrowableT N.toNpeT cell self u0 sen) hcell hknown (fun u hu => heapAt_setCell_self _ (Array.getElem?_eq_some_iff.mp hu).1) rfl rfl (by simp [npeBareV, preparedCellV, Cell.setSlot]) htM hdg (mSel := N.fill) (methSel := N.methFill) (kSel := N.kN) hobj hselF LN.method LN.fillAbstract LN.cls LN.notInterface hfill acts
    hcellS hneS hknownS hvU hvSen htC htS htP hroom hroomO
  refine ⟨vm', hW', fun target hrest => st target ?_⟩
  show Steps p.tables e below (((((V.setVm vm').setCell self _).setCell self _).setCell self _).setTop _) target
  rw [setCell_twice, setCell_twice]
  exact hrest
/-- the chain of constructors that pass a message on, down to Throwable's, on a NullPointerException -/
theorem nx_chain (p : Program) {e : Env} {below : List Frame} {s₀ V : State} {g : JFrame} {c : Code} (h : At V g.method c below) (hexec : p.tables.exec = Jvm.exec) (htr : e.platform.stackTraces = false)
    (T : ThrowableC) (L : T.Links e.platform s₀) (Z : Init0T) (LZ : Z.LaidS T.toThrowableT) (M : MsgC) (LM : M.Links T e.platform s₀) (N : NpeC) (LN : N.Links T e.platform s₀) (hW : s₀.WarmedH V.vm) {t : ThreadId} (ht : V.cur = t)
    {u0 sen : RefV} {msg : Value} (hmsg : msg.isRef = true) {cell cellS : Cell} {kcell : Class}
    (hcell : V.heap[self]? = some cell) (hobj : ∀ k, cell.vm ≠ .statics k) (hknown : cell.vm ≠ .unknown) (hfree : cell.monitor.owner = none) (hcount : cell.monitor.count = 0)
    (hkcell : s₀.vm.classes[cell.cls]? = some kcell) (hsel0 : selectMethod e.platform s₀.vm cell.cls T.fill0 = .method T.fill0) (hselF : selectMethod e.platform s₀.vm cell.cls T.fill = .method N.fill)
    (hcellS : V.heap[T.aS]? = some cellS) (hneS : T.aS ≠ self) (hknownS : cellS.vm ≠ .unknown) (hvU : cellS.slots[T.fUnassigned.slot]? = some u0.v) (hvSen : cellS.slots[T.fSentinel.slot]? = some sen.v)
    (hv0 : cell.slots[N.fState.slot]? = some (.int 0)) (hneC : T.fCause.slot ≠ N.fState.slot) (hneSt : T.fStack.slot ≠ N.fState.slot) (hneP : T.fSupp.slot ≠ N.fState.slot)
    (htC : Takes s₀ cell T.fCause (.ref self)) (htS : Takes s₀ cell T.fStack u0.v) (htP : Takes s₀ cell T.fSupp sen.v) (htM : Takes s₀ cell T.fMsg msg) (ht1 : Takes s₀ cell N.fState (.int 1)) (hobjLocals : T.codeObj.maxLocals = 1)
    (hskip : SkipFacts T e.platform s₀ (fun u => u) u0 ((npeCell N.toNpeT (preparedCellV T.toThrowableT cell self u0 sen) t).withEntry t))
    (Ps : List PassC) (hL : ∀ P, P ∈ Ps → P.LinksS e.platform s₀) (hlink : PassesOn (Z.m T.toThrowableT) (Ps.map (·.toPassT)))
    {lim : Nat × Nat} (hlim : e.platform.stackLimits V.me = lim) (hframes : V.frames.length + Ps.length + 3 < lim.1) (hwords : (stackUse (.java g :: V.frames.tail)).2 + 13 * Ps.length + 56 ≤ lim.2)
    {ig : Instr} {len : Nat} (acts : List Action) (hdg : decode c.code g.pc = .ok (ig, len)) :
    ∃ vm', s₀.WarmedH vm' ∧ ∀ target, Steps p.tables e below (((V.setVm vm').setCell self (nxCell T.toThrowableT N.toNpeT cell self u0 sen msg)).setTop { g with pc := g.pc + len }) target →
      Steps p.tables e below (doInvoke e (V.setTop g) acts (firstOf (Z.m T.toThrowableT) (Ps.map (·.toPassT))) #[.ref self, msg]).1 target := by
  obtain ⟨f1, -, -, f4, f5, f6⟩ := chainEnd_facts e.platform self msg (Ps.map (·.toPassT)) V g h.top
  have fc := chainEnd_cur self msg (Ps.map (·.toPassT)) V g
  rw [List.length_map] at f5 f6
  refine Steps.initChainSCold hexec (H := fun u => u.setCell self (nxCell T.toThrowableT N.toNpeT cell self u0 sen msg)) (heapOnly_id.thenSetCell self _) (Z.m T.toThrowableT) hmsg lim Ps V g c ig len acts h hW hL hlink hdg hlim (by omega) (by omega) (fun vm1 hW1 c' ig' len' hA' hdg' => ?_)
  simp only [chainEnd_setVm] at hA' hdg' ⊢
  generalize chainEnd self msg V g (Ps.map (·.toPassT)) = E at f1 f4 f5 f6 fc hA' hdg' ⊢
  obtain ⟨vm2, hW2, st⟩ := nx_initS p (V := E.1.setVm vm1) (g := E.2) (self := self) hA' hexec htr T L Z LZ M LM N LN hW1 (t := t) (fc.trans ht) hmsg
    (by show E.1.heap[self]? = _; rw [f1]; exact hcell) hobj hknown hfree hcount hkcell hsel0 hselF (by show E.1.heap[T.aS]? = _; rw [f1]; exact hcellS) hneS hknownS hvU hvSen hv0 hneC hneSt hneP htC htS htP htM ht1 hobjLocals hskip
    (lim := lim) (by show e.platform.stackLimits E.1.me = lim; rw [f4]; exact hlim) (by show E.1.frames.length + 3 < lim.1; rw [f5]; omega) (by show (stackUse (.java E.2 :: E.1.frames.tail)).2 + 56 ≤ lim.2; rw [f6]; omega) [] hdg'
  exact ⟨vm2, hW2, fun t' hs => st t' (by rw [State.setVm_twice]; exact hs)⟩
end NX
