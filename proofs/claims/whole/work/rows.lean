section
-- ===== PART A: goes FIRST, ahead of the names: the tables' words, and 'selects' of the private methods out of them =====
/-- a private method of a class that the tables say can be made, by its rows of tables_1 -/
def lw_okq (q : MethodName × Nat) : Prop := (q.1.cls ≠ "java/lang/invoke/MethodHandle" ∧ q.1.cls ≠ "java/lang/invoke/VarHandle") ∧ Cond.instantiable q.1.cls q.2 ∈ tables_1 ∧ Cond.privateMethod q.1 ∈ tables_1 ∧ Cond.instanceMethod q.1 ∈ tables_1
theorem lw_p0 : lw_okq (⟨"CanalStairs", "reset", "()V"⟩, 10) := ⟨⟨by decide +kernel, by decide +kernel⟩, List.mem_of_getElem? (i := 17) (by decide +kernel), List.mem_of_getElem? (i := 25) (by decide +kernel), List.mem_of_getElem? (i := 26) (by decide +kernel)⟩
theorem lw_p1 : lw_okq (⟨"CanalStairs", "hold", "(I)Z"⟩, 10) := ⟨⟨by decide +kernel, by decide +kernel⟩, List.mem_of_getElem? (i := 17) (by decide +kernel), List.mem_of_getElem? (i := 68) (by decide +kernel), List.mem_of_getElem? (i := 69) (by decide +kernel)⟩
theorem lw_p2 : lw_okq (⟨"CanalStairs", "isDug", "(I)Z"⟩, 10) := ⟨⟨by decide +kernel, by decide +kernel⟩, List.mem_of_getElem? (i := 17) (by decide +kernel), List.mem_of_getElem? (i := 72) (by decide +kernel), List.mem_of_getElem? (i := 73) (by decide +kernel)⟩
theorem lw_p3 : lw_okq (⟨"CanalStairs", "heightOf", "(I)I"⟩, 10) := ⟨⟨by decide +kernel, by decide +kernel⟩, List.mem_of_getElem? (i := 17) (by decide +kernel), List.mem_of_getElem? (i := 79) (by decide +kernel), List.mem_of_getElem? (i := 80) (by decide +kernel)⟩
theorem lw_p4 : lw_okq (⟨"CanalStairs", "leave", "(I)V"⟩, 10) := ⟨⟨by decide +kernel, by decide +kernel⟩, List.mem_of_getElem? (i := 17) (by decide +kernel), List.mem_of_getElem? (i := 83) (by decide +kernel), List.mem_of_getElem? (i := 84) (by decide +kernel)⟩
theorem lw_p5 : lw_okq (⟨"CanalStairs", "countDug", "()I"⟩, 10) := ⟨⟨by decide +kernel, by decide +kernel⟩, List.mem_of_getElem? (i := 17) (by decide +kernel), List.mem_of_getElem? (i := 91) (by decide +kernel), List.mem_of_getElem? (i := 92) (by decide +kernel)⟩
theorem lw_p6 : lw_okq (⟨"java/lang/NullPointerException", "getExtendedNPEMessage", "()Ljava/lang/String;"⟩, 8) := ⟨⟨by decide +kernel, by decide +kernel⟩, List.mem_of_getElem? (i := 138) (by decide +kernel), List.mem_of_getElem? (i := 136) (by decide +kernel), List.mem_of_getElem? (i := 137) (by decide +kernel)⟩
theorem lw_p7 : lw_okq (⟨"java/lang/Throwable", "fillInStackTrace", "(I)Ljava/lang/Throwable;"⟩, 6) := ⟨⟨by decide +kernel, by decide +kernel⟩, List.mem_of_getElem? (i := 148) (by decide +kernel), List.mem_of_getElem? (i := 146) (by decide +kernel), List.mem_of_getElem? (i := 147) (by decide +kernel)⟩
theorem lw_p8 : lw_okq (⟨"CanalStairs", "fillIn", "(I)I"⟩, 10) := ⟨⟨by decide +kernel, by decide +kernel⟩, List.mem_of_getElem? (i := 17) (by decide +kernel), List.mem_of_getElem? (i := 257) (by decide +kernel), List.mem_of_getElem? (i := 258) (by decide +kernel)⟩
theorem lw_p9 : lw_okq (⟨"CanalStairs", "failing", "(I)I"⟩, 10) := ⟨⟨by decide +kernel, by decide +kernel⟩, List.mem_of_getElem? (i := 17) (by decide +kernel), List.mem_of_getElem? (i := 261) (by decide +kernel), List.mem_of_getElem? (i := 262) (by decide +kernel)⟩
theorem lw_p10 : lw_okq (⟨"CanalStairs", "boatsIn", "(I)I"⟩, 10) := ⟨⟨by decide +kernel, by decide +kernel⟩, List.mem_of_getElem? (i := 17) (by decide +kernel), List.mem_of_getElem? (i := 265) (by decide +kernel), List.mem_of_getElem? (i := 266) (by decide +kernel)⟩
theorem lw_p11 : lw_okq (⟨"CanalStairs", "pourInto", "(II)I"⟩, 10) := ⟨⟨by decide +kernel, by decide +kernel⟩, List.mem_of_getElem? (i := 17) (by decide +kernel), List.mem_of_getElem? (i := 333) (by decide +kernel), List.mem_of_getElem? (i := 334) (by decide +kernel)⟩
theorem lw_p12 : lw_okq (⟨"CanalStairs", "drawDown", "(II)I"⟩, 10) := ⟨⟨by decide +kernel, by decide +kernel⟩, List.mem_of_getElem? (i := 17) (by decide +kernel), List.mem_of_getElem? (i := 348) (by decide +kernel), List.mem_of_getElem? (i := 349) (by decide +kernel)⟩
theorem lw_p13 : lw_okq (⟨"CanalStairs", "berth", "(III)I"⟩, 10) := ⟨⟨by decide +kernel, by decide +kernel⟩, List.mem_of_getElem? (i := 17) (by decide +kernel), List.mem_of_getElem? (i := 367) (by decide +kernel), List.mem_of_getElem? (i := 368) (by decide +kernel)⟩
theorem lw_p14 : lw_okq (⟨"CanalStairs", "levelGate", "(I)I"⟩, 10) := ⟨⟨by decide +kernel, by decide +kernel⟩, List.mem_of_getElem? (i := 17) (by decide +kernel), List.mem_of_getElem? (i := 391) (by decide +kernel), List.mem_of_getElem? (i := 392) (by decide +kernel)⟩
theorem lw_p15 : lw_okq (⟨"CanalStairs", "holdAll", "(II)Z"⟩, 10) := ⟨⟨by decide +kernel, by decide +kernel⟩, List.mem_of_getElem? (i := 17) (by decide +kernel), List.mem_of_getElem? (i := 395) (by decide +kernel), List.mem_of_getElem? (i := 396) (by decide +kernel)⟩
def lw_privs_1 : List (MethodName × Nat) := [(⟨"CanalStairs", "reset", "()V"⟩, 10), (⟨"CanalStairs", "hold", "(I)Z"⟩, 10), (⟨"CanalStairs", "isDug", "(I)Z"⟩, 10), (⟨"CanalStairs", "heightOf", "(I)I"⟩, 10), (⟨"CanalStairs", "leave", "(I)V"⟩, 10), (⟨"CanalStairs", "countDug", "()I"⟩, 10), (⟨"java/lang/NullPointerException", "getExtendedNPEMessage", "()Ljava/lang/String;"⟩, 8), (⟨"java/lang/Throwable", "fillInStackTrace", "(I)Ljava/lang/Throwable;"⟩, 6), (⟨"CanalStairs", "fillIn", "(I)I"⟩, 10), (⟨"CanalStairs", "failing", "(I)I"⟩, 10), (⟨"CanalStairs", "boatsIn", "(I)I"⟩, 10), (⟨"CanalStairs", "pourInto", "(II)I"⟩, 10), (⟨"CanalStairs", "drawDown", "(II)I"⟩, 10), (⟨"CanalStairs", "berth", "(III)I"⟩, 10), (⟨"CanalStairs", "levelGate", "(I)I"⟩, 10), (⟨"CanalStairs", "holdAll", "(II)Z"⟩, 10)]
theorem lw_r1 : ∀ q ∈ lw_privs_1, lw_okq q := List.forall_mem_cons.mpr ⟨lw_p0, List.forall_mem_cons.mpr ⟨lw_p1, List.forall_mem_cons.mpr ⟨lw_p2, List.forall_mem_cons.mpr ⟨lw_p3, List.forall_mem_cons.mpr ⟨lw_p4, List.forall_mem_cons.mpr ⟨lw_p5, List.forall_mem_cons.mpr ⟨lw_p6, List.forall_mem_cons.mpr ⟨lw_p7, List.forall_mem_cons.mpr ⟨lw_p8, List.forall_mem_cons.mpr ⟨lw_p9, List.forall_mem_cons.mpr ⟨lw_p10, List.forall_mem_cons.mpr ⟨lw_p11, List.forall_mem_cons.mpr ⟨lw_p12, List.forall_mem_cons.mpr ⟨lw_p13, List.forall_mem_cons.mpr ⟨lw_p14, List.forall_mem_cons.mpr ⟨lw_p15, fun _ h => absurd h List.not_mem_nil⟩⟩⟩⟩⟩⟩⟩⟩⟩⟩⟩⟩⟩⟩⟩⟩
theorem lw_p16 : lw_okq (⟨"CanalStairs", "moveUnit", "(II)V"⟩, 10) := ⟨⟨by decide +kernel, by decide +kernel⟩, List.mem_of_getElem? (i := 17) (by decide +kernel), List.mem_of_getElem? (i := 402) (by decide +kernel), List.mem_of_getElem? (i := 403) (by decide +kernel)⟩
theorem lw_p17 : lw_okq (⟨"CanalStairs", "passBoat", "(IZ)I"⟩, 10) := ⟨⟨by decide +kernel, by decide +kernel⟩, List.mem_of_getElem? (i := 17) (by decide +kernel), List.mem_of_getElem? (i := 418) (by decide +kernel), List.mem_of_getElem? (i := 419) (by decide +kernel)⟩
theorem lw_p18 : lw_okq (⟨"CanalStairs", "fly", "(II)I"⟩, 10) := ⟨⟨by decide +kernel, by decide +kernel⟩, List.mem_of_getElem? (i := 17) (by decide +kernel), List.mem_of_getElem? (i := 429) (by decide +kernel), List.mem_of_getElem? (i := 430) (by decide +kernel)⟩
theorem lw_p19 : lw_okq (⟨"CanalStairs", "canSetOut", "(IZ)Z"⟩, 10) := ⟨⟨by decide +kernel, by decide +kernel⟩, List.mem_of_getElem? (i := 17) (by decide +kernel), List.mem_of_getElem? (i := 447) (by decide +kernel), List.mem_of_getElem? (i := 448) (by decide +kernel)⟩
theorem lw_p20 : lw_okq (⟨"CanalStairs", "passInConvoy", "(IZ)I"⟩, 10) := ⟨⟨by decide +kernel, by decide +kernel⟩, List.mem_of_getElem? (i := 17) (by decide +kernel), List.mem_of_getElem? (i := 451) (by decide +kernel), List.mem_of_getElem? (i := 452) (by decide +kernel)⟩
theorem lw_p21 : lw_okq (⟨"CanalStairs", "shareOut", "(II)I"⟩, 10) := ⟨⟨by decide +kernel, by decide +kernel⟩, List.mem_of_getElem? (i := 17) (by decide +kernel), List.mem_of_getElem? (i := 463) (by decide +kernel), List.mem_of_getElem? (i := 464) (by decide +kernel)⟩
theorem lw_p22 : lw_okq (⟨"CanalStairsModel", "begin", "()V"⟩, 15) := ⟨⟨by decide +kernel, by decide +kernel⟩, List.mem_of_getElem? (i := 485) (by decide +kernel), List.mem_of_getElem? (i := 491) (by decide +kernel), List.mem_of_getElem? (i := 492) (by decide +kernel)⟩
theorem lw_p23 : lw_okq (⟨"CanalStairsModel", "hold", "(I)Z"⟩, 15) := ⟨⟨by decide +kernel, by decide +kernel⟩, List.mem_of_getElem? (i := 485) (by decide +kernel), List.mem_of_getElem? (i := 560) (by decide +kernel), List.mem_of_getElem? (i := 561) (by decide +kernel)⟩
theorem lw_p24 : lw_okq (⟨"CanalStairsModel", "fail", "(I)Z"⟩, 15) := ⟨⟨by decide +kernel, by decide +kernel⟩, List.mem_of_getElem? (i := 485) (by decide +kernel), List.mem_of_getElem? (i := 564) (by decide +kernel), List.mem_of_getElem? (i := 565) (by decide +kernel)⟩
theorem lw_p25 : lw_okq (⟨"CanalStairsModel", "told", "(IIII)I"⟩, 15) := ⟨⟨by decide +kernel, by decide +kernel⟩, List.mem_of_getElem? (i := 485) (by decide +kernel), List.mem_of_getElem? (i := 568) (by decide +kernel), List.mem_of_getElem? (i := 569) (by decide +kernel)⟩
theorem lw_p26 : lw_okq (⟨"CanalStairsModel", "leave", "(I)V"⟩, 15) := ⟨⟨by decide +kernel, by decide +kernel⟩, List.mem_of_getElem? (i := 485) (by decide +kernel), List.mem_of_getElem? (i := 572) (by decide +kernel), List.mem_of_getElem? (i := 573) (by decide +kernel)⟩
theorem lw_p27 : lw_okq (⟨"CanalStairsModel", "heightOf", "(I)I"⟩, 15) := ⟨⟨by decide +kernel, by decide +kernel⟩, List.mem_of_getElem? (i := 485) (by decide +kernel), List.mem_of_getElem? (i := 584) (by decide +kernel), List.mem_of_getElem? (i := 585) (by decide +kernel)⟩
theorem lw_p28 : lw_okq (⟨"CanalStairsModel", "lieIn", "(I)I"⟩, 15) := ⟨⟨by decide +kernel, by decide +kernel⟩, List.mem_of_getElem? (i := 485) (by decide +kernel), List.mem_of_getElem? (i := 595) (by decide +kernel), List.mem_of_getElem? (i := 596) (by decide +kernel)⟩
theorem lw_p29 : lw_okq (⟨"CanalStairsModel", "levels", "(I)Z"⟩, 15) := ⟨⟨by decide +kernel, by decide +kernel⟩, List.mem_of_getElem? (i := 485) (by decide +kernel), List.mem_of_getElem? (i := 607) (by decide +kernel), List.mem_of_getElem? (i := 608) (by decide +kernel)⟩
theorem lw_p30 : lw_okq (⟨"CanalStairsModel", "passes", "(IZ)Z"⟩, 15) := ⟨⟨by decide +kernel, by decide +kernel⟩, List.mem_of_getElem? (i := 485) (by decide +kernel), List.mem_of_getElem? (i := 615) (by decide +kernel), List.mem_of_getElem? (i := 616) (by decide +kernel)⟩
theorem lw_p31 : lw_okq (⟨"CanalStairsModel", "flies", "(II)Z"⟩, 15) := ⟨⟨by decide +kernel, by decide +kernel⟩, List.mem_of_getElem? (i := 485) (by decide +kernel), List.mem_of_getElem? (i := 623) (by decide +kernel), List.mem_of_getElem? (i := 624) (by decide +kernel)⟩
def lw_privs_2 : List (MethodName × Nat) := [(⟨"CanalStairs", "moveUnit", "(II)V"⟩, 10), (⟨"CanalStairs", "passBoat", "(IZ)I"⟩, 10), (⟨"CanalStairs", "fly", "(II)I"⟩, 10), (⟨"CanalStairs", "canSetOut", "(IZ)Z"⟩, 10), (⟨"CanalStairs", "passInConvoy", "(IZ)I"⟩, 10), (⟨"CanalStairs", "shareOut", "(II)I"⟩, 10), (⟨"CanalStairsModel", "begin", "()V"⟩, 15), (⟨"CanalStairsModel", "hold", "(I)Z"⟩, 15), (⟨"CanalStairsModel", "fail", "(I)Z"⟩, 15), (⟨"CanalStairsModel", "told", "(IIII)I"⟩, 15), (⟨"CanalStairsModel", "leave", "(I)V"⟩, 15), (⟨"CanalStairsModel", "heightOf", "(I)I"⟩, 15), (⟨"CanalStairsModel", "lieIn", "(I)I"⟩, 15), (⟨"CanalStairsModel", "levels", "(I)Z"⟩, 15), (⟨"CanalStairsModel", "passes", "(IZ)Z"⟩, 15), (⟨"CanalStairsModel", "flies", "(II)Z"⟩, 15)]
theorem lw_r2 : ∀ q ∈ lw_privs_2, lw_okq q := List.forall_mem_cons.mpr ⟨lw_p16, List.forall_mem_cons.mpr ⟨lw_p17, List.forall_mem_cons.mpr ⟨lw_p18, List.forall_mem_cons.mpr ⟨lw_p19, List.forall_mem_cons.mpr ⟨lw_p20, List.forall_mem_cons.mpr ⟨lw_p21, List.forall_mem_cons.mpr ⟨lw_p22, List.forall_mem_cons.mpr ⟨lw_p23, List.forall_mem_cons.mpr ⟨lw_p24, List.forall_mem_cons.mpr ⟨lw_p25, List.forall_mem_cons.mpr ⟨lw_p26, List.forall_mem_cons.mpr ⟨lw_p27, List.forall_mem_cons.mpr ⟨lw_p28, List.forall_mem_cons.mpr ⟨lw_p29, List.forall_mem_cons.mpr ⟨lw_p30, List.forall_mem_cons.mpr ⟨lw_p31, fun _ h => absurd h List.not_mem_nil⟩⟩⟩⟩⟩⟩⟩⟩⟩⟩⟩⟩⟩⟩⟩⟩
theorem lw_p32 : lw_okq (⟨"CanalStairsModel", "dug", "()I"⟩, 15) := ⟨⟨by decide +kernel, by decide +kernel⟩, List.mem_of_getElem? (i := 485) (by decide +kernel), List.mem_of_getElem? (i := 655) (by decide +kernel), List.mem_of_getElem? (i := 656) (by decide +kernel)⟩
def lw_privs_3 : List (MethodName × Nat) := [(⟨"CanalStairsModel", "dug", "()I"⟩, 15)]
theorem lw_r3 : ∀ q ∈ lw_privs_3, lw_okq q := List.forall_mem_cons.mpr ⟨lw_p32, fun _ h => absurd h List.not_mem_nil⟩
def lw_privs : List (MethodName × Nat) := lw_privs_1 ++ (lw_privs_2 ++ (lw_privs_3))
def lw_tbl : List Cond := k2_sels lw_privs ++ tables_1
theorem lw_privs_ok : ∀ q ∈ lw_privs, lw_okq q := by
  show ∀ q ∈ lw_privs_1 ++ (lw_privs_2 ++ (lw_privs_3)), lw_okq q
  exact List.forall_mem_append.mpr ⟨lw_r1, List.forall_mem_append.mpr ⟨lw_r2, lw_r3⟩⟩
-- ===== end of PART A; then your names; then what follows =====
end
section
/-! Catching in a frame, by a row whose class entry links, behind rows that name other classes. -/
section MXC
/-- what the search for a handler gives in s, and the tables that it leaves -/
def mx_Finds (e : Env) (s : State) (f : JFrame) (a : Addr) (h : Handler) (vm' : Vm) : Prop :=
  ∀ (Q : Handler → Pre) (E : CtlPost) (d : Bool) (acts : List Action), wp (findHandler f a) Q E e d acts s ↔ Q h d acts (s.setVm vm')
/-- a row of the table that covers pc and links to a class: whether it takes an object of the class 'cell.cls' -/
theorem mx_goLink {e : Env} {s : State} {f : JFrame} {a : Addr} {x : ExceptionTableEntry} {t : List ExceptionTableEntry} {c : ClassId} {cell : Cell} (hx : covers x f.pc = true) (h0 : x.catchType ≠ 0)
    (hl : s.vm.ClassLinks e.platform f.method.cls x.catchType c) (hcell : s.heap[a]? = some cell) (hobj : ∀ k, cell.vm ≠ .statics k)
    (hk : ∃ k, s.vm.classes[cell.cls]? = some k) (hc : ∃ k, s.vm.classes[c]? = some k) {b : Bool} (hb : s.vm.assignable cell.cls c = b) (Q : Handler → Pre) (E : CtlPost) (d : Bool) (acts : List Action) :
    wp (findHandler.go f a (x :: t)) Q E e d acts s ↔ (if b = true then Q (.found x.handlerPc) d acts (s.setVm (s.vm.noted f.method.cls x.catchType (.cls c))) else wp (findHandler.go f a t) Q E e d acts (s.setVm (s.vm.noted f.method.cls x.catchType (.cls c)))) := by
  simp only [covers] at hx
  obtain ⟨ha, ht⟩ := (resolveClass_links e.toSetting hl).op (op := VmOp.resolveClass f.method.cls x.catchType) rfl
  have hal : s.vm.Alike (s.vm.noted f.method.cls x.catchType (.cls c)) := (Vm.Alike.refl s.vm).noted _ _ _
  obtain ⟨k1, hk1⟩ := hk
  obtain ⟨k2, hk2⟩ := hc
  obtain ⟨k1', hk1', -⟩ := hal.2.2 _ _ hk1
  obtain ⟨k2', hk2', -⟩ := hal.2.2 _ _ hk2
  have hb' : (s.vm.noted f.method.cls x.catchType (.cls c)).assignable cell.cls c = b := by rw [hal.assignable]; exact hb
  cases b <;> simp [findHandler.go, hx, h0, ha, ht, hcell, hobj, hk1', hk2', hb', VmOp.dirties, VmOp.acts]
/-- a row that is passed: it doesn't cover, or names a class that the object isn't of -/
def mx_Pass (pl : Platform) (s₀ : State) (d : ClassId) (pc : Nat) (thrown : ClassId) (y : ExceptionTableEntry) : Prop :=
  covers y pc = false ∨ (y.catchType ≠ 0 ∧ ∃ c, s₀.vm.ClassLinks pl d y.catchType c ∧ s₀.vm.assignable thrown c = false)
theorem mx_go {e : Env} {s₀ : State} {f : JFrame} {a : Addr} {cell : Cell} (hobj : ∀ k, cell.vm ≠ .statics k) (hk0 : ∃ k, s₀.vm.classes[cell.cls]? = some k)
    (x : ExceptionTableEntry) (rest : List ExceptionTableEntry) (hx : covers x f.pc = true) (h0 : x.catchType ≠ 0) {c : ClassId} (hl : s₀.vm.ClassLinks e.platform f.method.cls x.catchType c) (hfit : s₀.vm.assignable cell.cls c = true) :
    ∀ (pre : List ExceptionTableEntry) (S : State), s₀.WarmedH S.vm → S.heap[a]? = some cell → (∀ y ∈ pre, mx_Pass e.platform s₀ f.method.cls f.pc cell.cls y) →
      ∃ vm', s₀.WarmedH vm' ∧ ∀ (Q : Handler → Pre) (E : CtlPost) (d : Bool) (acts : List Action), wp (findHandler.go f a (pre ++ x :: rest)) Q E e d acts S ↔ Q (.found x.handlerPc) d acts (S.setVm vm') := by
  obtain ⟨k0, hk0⟩ := hk0
  have key : ∀ (y : ExceptionTableEntry) (ys : List ExceptionTableEntry) (S : State) (c9 : ClassId) (b : Bool), covers y f.pc = true → y.catchType ≠ 0 → s₀.vm.ClassLinks e.platform f.method.cls y.catchType c9 → s₀.vm.assignable cell.cls c9 = b →
      s₀.WarmedH S.vm → S.heap[a]? = some cell → s₀.WarmedH (S.vm.noted f.method.cls y.catchType (.cls c9)) ∧ ∀ (Q : Handler → Pre) (E : CtlPost) (d : Bool) (acts : List Action),
        wp (findHandler.go f a (y :: ys)) Q E e d acts S ↔ (if b = true then Q (.found y.handlerPc) d acts (S.setVm (S.vm.noted f.method.cls y.catchType (.cls c9))) else wp (findHandler.go f a ys) Q E e d acts (S.setVm (S.vm.noted f.method.cls y.catchType (.cls c9)))) := by
    intro y ys S c9 b hy hy0 hl9 hb9 hW hcell
    obtain ⟨k0', hk0', -⟩ := hW.alike.2.2 _ _ hk0
    obtain ⟨dk, _, _, kt, hd, _, _, _, _, hkt, _, hopen⟩ := hl9.here
    obtain ⟨kt', hkt', -⟩ := hW.alike.2.2 _ _ hkt
    exact ⟨hW.noted hd hopen (State.rightAt_cls hl9), mx_goLink hy hy0 (hW.classLinks hl9) hcell hobj ⟨k0', hk0'⟩ ⟨kt', hkt'⟩ (by rw [hW.alike.assignable]; exact hb9)⟩
  intro pre
  induction pre with
  | nil =>
    intro S hW hcell _
    obtain ⟨h1, h2⟩ := key x rest S c true hx h0 hl hfit hW hcell
    exact ⟨_, h1, fun Q E d acts => by rw [List.nil_append, h2, if_pos rfl]⟩
  | cons y ys ih =>
    intro S hW hcell hpass
    have hrest : ∀ z ∈ ys, mx_Pass e.platform s₀ f.method.cls f.pc cell.cls z := fun z hz => hpass z (List.mem_cons_of_mem _ hz)
    by_cases hcov : covers y f.pc = true
    · rcases hpass y List.mem_cons_self with h | ⟨hy0, c9, hl9, hno⟩
      · rw [h] at hcov; cases hcov
      · obtain ⟨h1, h2⟩ := key y (ys ++ x :: rest) S c9 false hcov hy0 hl9 hno hW hcell
        obtain ⟨vm', hW', hq⟩ := ih (S.setVm (S.vm.noted f.method.cls y.catchType (.cls c9))) h1 hcell hrest
        exact ⟨vm', hW', fun Q E d acts => by
          rw [List.cons_append, h2, if_neg (by decide)]
          exact hq Q E d acts⟩
    · obtain ⟨vm', hW', hq⟩ := ih S hW hcell hrest
      exact ⟨vm', hW', fun Q E d acts => by
        rw [List.cons_append, Jvm.W.findHandler_go_skip (by simpa using hcov)]
        exact hq Q E d acts⟩
theorem mx_stepCatch {e : Env} {s : State} {a : Addr} {f : JFrame} {r : List Frame} {pc : Nat} {vm' : Vm} (hfind : mx_Finds e s f a (.found pc) vm') :
    (stepThrowing e s a (.java f :: r)).1 = (s.setVm vm').setFrames (.java { f with pc := pc, stack := [.ref a] } :: r) := by
  simp only [stepThrowing, searchFrame, vmDo]
  generalize hr : Sem.go _ e false [] s = res
  obtain ⟨as, rfl, -⟩ := Sem.eq_ok_of hr (a := Handler.found pc) (s' := s.setVm vm') (acts' := []) (by simp [hfind _ _ _ _])
  rfl
theorem mx_sf (u : State) (vm' : Vm) (F G : List Frame) : ((u.setFrames F).setVm vm').setFrames G = (u.setVm vm').setFrames G := by
  show ((u.setVm vm').setFrames F).setFrames G = _
  rw [State.setFrames_setFrames]
theorem mx_caught {tb : Tables} {e : Env} {s target : State} {g : JFrame} {c : Code} {below : List Frame} {a : Addr} (h : At s g.method c below) {pc : Nat} {vm' : Vm}
    (hfind : mx_Finds e ((s.setTop g).pushFrame (.throwing a)) g a (.found pc) vm') (hrest : Steps tb e below ((s.setVm vm').setTop { g with pc := pc, stack := [.ref a] }) target) :
    Steps tb e below ((s.setTop g).pushFrame (.throwing a)) target := by
  obtain ⟨hgo, hw⟩ := h.throwing a
  refine Steps.head hgo hw ?_
  rw [stepThread_throwing (frames_entered h.top _), mx_stepCatch (s := (s.setTop g).pushFrame (.throwing a)) hfind]
  obtain ⟨g₀, hg⟩ := Option.isSome_iff_exists.mp h.top
  obtain ⟨r, hr⟩ := State.topJava?_eq_some.mp hg
  have hr' : (s.setVm vm').frames = .java g₀ :: r := hr
  rw [State.setTop_of_frames _ hr'] at hrest
  rw [hr, List.tail_cons, State.pushFrame, mx_sf, State.setTop_of_frames _ hr, mx_sf]
  exact hrest
theorem mx_thenCaught {p : Program} {l : Launch} {e : Env} {R : Room} {s : State} {m₀ : MethodId} {args : Array Value} {below : List Frame} {meth : Method} {c : Code} {T : State} {locs : List Loc} {cells slots : Nat}
    (X : Stand p l e R s m₀ args below meth c T locs cells slots) (a : Addr) {g : JFrame} (hg : g.method = m₀) {cell : Cell} (hcell : T.heap[a]? = some cell) (hobj : cell.vm.isStatics = false) (hk0 : ∃ k, s.vm.classes[cell.cls]? = some k)
    (pre : List ExceptionTableEntry) (x : ExceptionTableEntry) (rest : List ExceptionTableEntry) (hsplit : c.exceptionTable.toList = pre ++ x :: rest)
    (hpass : ∀ y ∈ pre, mx_Pass e.platform s m₀.cls g.pc cell.cls y) (hx : covers x g.pc = true) (h0 : x.catchType ≠ 0) {cT : ClassId} (hl : s.vm.ClassLinks e.platform m₀.cls x.catchType cT) (hfit : s.vm.assignable cell.cls cT = true) :
    ∃ vm', Stand p l e R s m₀ args below meth c (T.setVm vm') locs cells slots ∧ Steps p.tables e below ((T.setTop g).pushFrame (.throwing a)) ((T.setVm vm').setTop { g with pc := x.handlerPc, stack := [.ref a] }) := by
  subst hg
  have hobj9 : ∀ k, cell.vm ≠ .statics k := fun k hk => by rw [hk] at hobj; cases hobj
  obtain ⟨vm', hW', hq⟩ := mx_go (e := e) (s₀ := s) (f := g) (a := a) hobj9 hk0 x rest hx h0 hl hfit pre ((T.setTop g).pushFrame (.throwing a)) X.warmed hcell hpass
  have hf : mx_Finds e ((T.setTop g).pushFrame (.throwing a)) g a (.found x.handlerPc) vm' := fun Q E d acts => by
    rw [Jvm.W.findHandler_eq (s := (T.setTop g).pushFrame (.throwing a)) (meth := meth) (code := c) X.method' X.code, hsplit]
    exact hq Q E d acts
  exact ⟨vm', X.noted hW', mx_caught X.here hf (Steps.refl _)⟩
end MXC
end
section
/-! ===== BEGIN words of one list among another's, by their places ===== -/
theorem goodIn_r {big : List Cond} (ws : List Cond) (ps : List Nat) (hp : ws = ps.filterMap (fun i => big[i]?)) (h : ws.all goodWord = true) : GoodIn big ws := by
  intro w hw
  have h1 := List.all_eq_true.mp h w hw
  rw [hp] at hw
  obtain ⟨i, -, hi⟩ := List.mem_filterMap.mp hw
  have hm : w ∈ big := by first | exact List.mem_of_getElem? hi | exact List.getElem?_mem hi
  exact ⟨hm, good_of_word h1⟩
theorem goodIn_app {big a b : List Cond} (ha : GoodIn big a) (hb : GoodIn big b) : GoodIn big (a ++ b) := fun w h => (List.mem_append.mp h).elim (ha w) (hb w)
theorem goodIn_ca {big a b : List Cond} {c : Cond} (ha : GoodIn big (c :: a)) (hb : GoodIn big b) : GoodIn big (c :: (a ++ b)) := fun w h => (List.mem_cons.mp h).elim (fun e => ha w (List.mem_cons.mpr (Or.inl e))) (fun h => (List.mem_append.mp h).elim (fun h => ha w (List.mem_cons.mpr (Or.inr h))) (hb w))
theorem goodIn_sub {big ws : List Cond} (hm : ∀ w ∈ ws, w ∈ big) (h : ws.all goodWord = true) : GoodIn big ws := fun w hw => ⟨hm w hw, good_of_word (List.all_eq_true.mp h w hw)⟩
/-! ===== END ===== -/

/-! ===== BEGIN exceptions that leave a method, and their catching by the caller (launches without stack traces) ===== -/
section VXA
/-! The laws vx_back, vx_callV, vx_callS, vx_callSW, vx_throw0, vx_throwS follow proofs of the library, with one case more: JvmDerived/Free/Laws.lean (Back.of_free), Shelf42/LK1.lean (callV, callS), Shelf/KitTraced.lean (throwNew0V, throwNewS). -/
/-- where a method has thrown q: the class by its name, the cell, what was written, the world -/
def vx_T (XC : String → State → State → Prop) (st : State) (q : Addr) (t : State) (mc ms : Nat) (free : Addr → Prop) : Prop :=
  ∃ (E : String) (ce : Cell) (L : List Loc), XC E st t ∧ t.heap[q]? = some ce ∧ ce.vm = .none ∧ st.vm.findClass E = some ce.cls ∧ st.WarmedH t.vm ∧ st.sameButNew ({ t with vm := st.vm } : State) L mc ms ∧ ∀ z ∈ L, free z.base
def vx_Q (Qc : Array Value → State → Outcome → State → Prop) (XC : String → State → State → Prop) (mc ms : Nat) (free : Addr → Prop) : Array Value → State → Outcome → State → Prop := fun a st o t =>
  (Qc a st o t ∧ ∃ L, FrameEnd st o t L mc ms ∧ ∀ q ∈ L, free q.base) ∨ ∃ q, o = .threw q ∧ vx_T XC st q t mc ms free
/-- a callee that returns or throws -/
def vx_Met (l : Launch) (y : MethodName) (ws : List Cond) (rm : Room) (Pc : Array Value → State → Prop) (Qc : Array Value → State → Outcome → State → Prop) (XC : String → State → State → Prop) (mc ms : Nat) (free : Addr → Prop) : Prop :=
  MetFree l y (headSpec ws rm) Pc (fun _ _ _ _ _ => True) (vx_Q Qc XC mc ms free)
def vx_Post (XC : String → State → State → Prop) (mc ms : Nat) (free : Addr → Prop) : Pt → Array Value → Addr → Pt → Prop := fun A a q B =>
  ∃ (g : JFrame) (mk : MethodId) (t : State) (L : List Loc) (E : String) (ce : Cell), B.U.heap = t.heap ∧ B.U.vm = t.vm ∧ XC E (A.U.calling g mk a) t ∧ t.heap[q]? = some ce ∧ ce.vm = .none ∧ A.U.vm.findClass E = some ce.cls ∧ B.locs = A.locs ++ L ∧ (∀ z ∈ L, free z.base) ∧ B.cells = A.cells + mc ∧ B.slots = A.slots + ms
def vx_Back (l : Launch) (R : Room) (p : Program) (e : Env) (below : List Frame) (s : State) (sargs : Array Value) (y : MethodName) (len W9 : Nat)
    (Pre : Pt → Array Value → Prop) (Post : Pt → Array Value → Option Value → Pt → Prop) (PostX : Pt → Array Value → Addr → Pt → Prop) : Prop :=
  ∀ (m : MethodId) (meth : Method) (c : Code) (A : Pt) (g : JFrame) (ig : Instr) (mk : MethodId) (a : Array Value),
    Stand p l e R s m sargs below meth c A.U A.locs A.cells A.slots → g.method = m → g.locals.size = c.maxLocals → decode c.code g.pc = .ok (ig, len) →
    2 * g.monitorRoom + (g.stack.map fun v => v.category).sum ≤ W9 → A.U.methodNamed? y = some mk → Pre A a →
    (∃ (v : Option Value) (B : Pt), Stand p l e R s m sargs below meth c B.U B.locs B.cells B.slots ∧ Post A a v B ∧
      Steps p.tables e below (doInvoke e (A.U.setTop g) [] mk a).1 (B.U.setTop { g with pc := g.pc + len, stack := v.toList ++ g.stack })) ∨
    (∃ (q : Addr) (B : Pt), Stand p l e R s m sargs below meth c B.U B.locs B.cells B.slots ∧ PostX A a q B ∧
      Steps p.tables e below (doInvoke e (A.U.setTop g) [] mk a).1 ((B.U.setTop g).pushFrame (.throwing q)))
section Payer
variable {l : Launch} {R : Room} {p : Program} {e : Env} {below : List Frame} {s : State} {sargs : Array Value} {y : MethodName} {len W9 : Nat}
theorem vx_back {ws : List Cond} {rm : Room} {Pc : Array Value → State → Prop} {Qc : Array Value → State → Outcome → State → Prop} {XC : String → State → State → Prop} {mc ms : Nat} {free : Addr → Prop} {bytes : ByteArray} {maxL : Nat} {ret : Option FieldType}
    (hM : vx_Met l y ws rm Pc Qc XC mc ms free) (hblind : FrameBlind Pc) (hrc : rm.cells = mc) (hrs : rm.slots = ms)
    (hframes : rm.frames + 1 ≤ R.frames) (hlocals : W9 + (maxL + 11) + rm.locals ≤ R.locals)
    (hws : ∀ w ∈ ws, ∀ a' U, s.WarmedH U.vm → w.before a' U = true) (hcode : Cond.code y bytes maxL ret ∈ ws) (hinit : ∀ a' U, s.WarmedH U.vm → (Cond.initialized y.cls).before a' U = true) :
    vx_Back l R p e below s sargs y len W9 (PreOf R mc ms Pc) (PostOf Qc mc ms free) (vx_Post XC mc ms free) := by
  intro m meth c A g ig mk a X hg hsize hdg hW hn hp
  have h1 : (headSpec ws rm).pre.before a A.U = true := atoms_intro fun w hw => hws w hw _ _ X.warmed
  have h2 : (Cond.code y bytes maxL ret).before a A.U = true := hws _ hcode _ _ X.warmed
  have h3 : (Cond.initialized y.cls).before a A.U = true := hinit _ _ X.warmed
  have h4 : A.cells + (headSpec ws rm).room.cells ≤ R.cells := by rw [show (headSpec ws rm).room.cells = mc from hrc]; exact hp.1
  have h5 : A.slots + (headSpec ws rm).room.slots ≤ R.slots := by rw [show (headSpec ws rm).room.slots = ms from hrs]; exact hp.2.1
  have hPc : Pc a (A.U.calling g mk a) := hblind _ _ _ _ hp.2.2
  obtain ⟨U, Ls, c0, s0⟩ := A
  dsimp only [Pt.U, Pt.locs, Pt.cells, Pt.slots] at h1 h2 h3 h4 h5 X hn hPc ⊢
  obtain ⟨methY, cY, hmY, hcY, -, hlY, -, -, -, -⟩ := Cond.code_spec hn h2
  obtain ⟨kY, hkY, -⟩ := className_of_methodNamed hn
  have hinitY : kY.init = .initialized := Cond.initialized_spec (findClass_of_methodNamed hn) hkY h3
  have h : At U g.method c below := by rw [hg]; exact X.here
  have hlocals9 : W9 + (maxL + 11) + (headSpec ws rm).room.locals ≤ R.locals := hlocals
  have happ : (headSpec ws rm).appliesLoose y e.platform (U.calling g mk a) = true :=
    Spec.appliesLoose_calling (g := g) h hdg hn hkY hinitY
      (X.room_calling (g := g) (R' := (headSpec ws rm).room) hsize hmY hcY hframes (by rw [hlY]; omega) h4 h5) h1
  obtain ⟨mid, hmid⟩ := h.above
  have hfr : (U.setTop g).frames = (.java g :: mid) ++ below := by rw [State.frames_setTop' g h.top, hmid]; rfl
  obtain ⟨o, s₂, hsteps, -, hend, hq⟩ := Steps.callFree hM p X.admits X.cas X.clock (acts := []) hfr happ hPc trivial
  have hq' : vx_Q Qc XC mc ms free a (U.calling g mk a) o s₂ := hq
  rw [State.frames_setTop' g h.top] at hend
  obtain ⟨g₀, hg0⟩ := Option.isSome_iff_exists.mp h.top
  obtain ⟨r, hr⟩ := State.topJava?_eq_some.mp hg0
  have hr' : (({ U with heap := s₂.heap, slotsUsed := s₂.slotsUsed } : State).setVm s₂.vm).frames = .java g₀ :: r := hr
  rcases hq' with ⟨hqc, L, hfe, hL⟩ | ⟨q, rfl, E, ce, L, hx, hce, hcv, hcl, hW₂, hsm, hL⟩
  · obtain ⟨⟨v, rfl⟩, hW₂, e2, q2, q3, q4, q5, q6⟩ := id hfe
    have e3 : s₂ = ({ (U.calling g mk a).setFrames s₂.frames with heap := s₂.heap, slotsUsed := s₂.slotsUsed } : State).setVm s₂.vm := by
      have : s₂ = ({ s₂ with vm := (U.calling g mk a).vm } : State).setVm s₂.vm := rfl
      rw [e2] at this
      exact this
    obtain ⟨c₂, i₂, len₂, hc₂, hd₂, hf₂⟩ := hend
    have hW' : U.WarmedH s₂.vm := hW₂
    have hcc : c₂ = c := by
      have h1 : s₂.code? g.method = U.code? g.method := by
        rw [State.code?_eq, State.code?_eq, hW'.alike.method?]
      exact Option.some.inj (hc₂.symm.trans (h1.trans h.code))
    subst hcc
    have hlen : len₂ = len := by rw [hdg] at hd₂; cases hd₂; rfl
    subst hlen
    have hs₂ : s₂ = (({ U with heap := s₂.heap, slotsUsed := s₂.slotsUsed } : State).setVm s₂.vm).setTop { g with pc := g.pc + len₂, stack := v.toList ++ g.stack } := by
      refine e3.trans ?_
      rw [hf₂, State.calling_eq h.top, State.setFrames_setFrames, State.setTop_of_frames _ hr', hr]
      rfl
    have hsame : U.sameButNew ({ U with heap := s₂.heap, slotsUsed := s₂.slotsUsed } : State) L mc ms := by
      refine ⟨?_, q2, q3, q4, q5, q6⟩
      obtain ⟨t, ht, -⟩ := State.frames_cons hr
      show ({ U with heap := s₂.heap, slotsUsed := s₂.slotsUsed } : State) = { U.setFrames U.frames with heap := s₂.heap, slotsUsed := s₂.slotsUsed }
      rw [State.setFrames_self ht]
    subst hg
    refine Or.inl ⟨v, ⟨(({ U with heap := s₂.heap, slotsUsed := s₂.slotsUsed } : State).setVm s₂.vm), Ls ++ L, c0 + mc, s0 + ms⟩,
      ⟨X.admits, X.cas, X.clock, X.frames, X.room, X.hears, X.method, X.code, (X.here.setHeapUsed s₂.heap s₂.slotsUsed).setVm hW'.alike, X.tail, State.WarmedH.trans X.warmed hW', X.limits, X.bytes, X.same.trans (hsame.setVm s.vm)⟩,
      ⟨g, mk, s₂, L, rfl, rfl, hqc, rfl, hL, rfl, rfl⟩, ?_⟩
    show Steps p.tables e below _ ((({ U with heap := s₂.heap, slotsUsed := s₂.slotsUsed } : State).setVm s₂.vm).setTop { g with pc := g.pc + len₂, stack := v.toList ++ g.stack })
    rw [← hs₂]
    exact hsteps
  · obtain ⟨e2, q2, q3, q4, q5, q6⟩ := id hsm
    have e3 : s₂ = ({ (U.calling g mk a).setFrames s₂.frames with heap := s₂.heap, slotsUsed := s₂.slotsUsed } : State).setVm s₂.vm := by
      have : s₂ = ({ s₂ with vm := (U.calling g mk a).vm } : State).setVm s₂.vm := rfl
      rw [e2] at this
      exact this
    have hf₂ : s₂.frames = .throwing q :: .java g :: U.frames.tail := hend
    have hW' : U.WarmedH s₂.vm := hW₂
    have hs₂ : s₂ = ((({ U with heap := s₂.heap, slotsUsed := s₂.slotsUsed } : State).setVm s₂.vm).setTop g).pushFrame (.throwing q) := by
      refine e3.trans ?_
      rw [hf₂, State.calling_eq h.top, State.setFrames_setFrames, State.pushFrame, State.frames_setTop _ hr', State.setTop_of_frames _ hr', State.setFrames_setFrames, hr]
      rfl
    have hsame : U.sameButNew ({ U with heap := s₂.heap, slotsUsed := s₂.slotsUsed } : State) L mc ms := by
      refine ⟨?_, q2, q3, q4, q5, q6⟩
      obtain ⟨t, ht, -⟩ := State.frames_cons hr
      show ({ U with heap := s₂.heap, slotsUsed := s₂.slotsUsed } : State) = { U.setFrames U.frames with heap := s₂.heap, slotsUsed := s₂.slotsUsed }
      rw [State.setFrames_self ht]
    subst hg
    refine Or.inr ⟨q, ⟨(({ U with heap := s₂.heap, slotsUsed := s₂.slotsUsed } : State).setVm s₂.vm), Ls ++ L, c0 + mc, s0 + ms⟩,
      ⟨X.admits, X.cas, X.clock, X.frames, X.room, X.hears, X.method, X.code, (X.here.setHeapUsed s₂.heap s₂.slotsUsed).setVm hW'.alike, X.tail, State.WarmedH.trans X.warmed hW', X.limits, X.bytes, X.same.trans (hsame.setVm s.vm)⟩,
      ⟨g, mk, s₂, L, E, ce, rfl, rfl, hx, hce, hcv, hcl, rfl, hL, rfl, rfl⟩, ?_⟩
    show Steps p.tables e below _ (((({ U with heap := s₂.heap, slotsUsed := s₂.slotsUsed } : State).setVm s₂.vm).setTop g).pushFrame (.throwing q))
    rw [← hs₂]
    exact hsteps
end Payer
section Calls
variable {p : Program} {l : Launch} {e : Env} {R : Room} {s : State} {m : MethodId} {args : Array Value} {below : List Frame} {meth : Method} {c : Code} {T : State} {locs : List Loc} {cells slots : Nat}
theorem vx_callV (X : Stand p l e R s m args below meth c T locs cells slots) (hexec : p.tables.exec = Jvm.exec) {own C : String} {index : Nat} {y : MethodName} {bytes : ByteArray} {maxL : Nat} {ret : Option FieldType}
    (hown : s.vm.findClass own = some m.cls) (hlink : (Cond.methodLink own index y).before args s = true) (hinst : (Cond.instanceMethod y).before args s = true) (hsel : (Cond.selects C y y).before args s = true)
    (hcode : (Cond.code y bytes maxL ret).before args s = true) (hy : y.cls ≠ "java/lang/invoke/MethodHandle" ∧ y.cls ≠ "java/lang/invoke/VarHandle")
    {W9 : Nat} {Pre : Pt → Array Value → Prop} {Post : Pt → Array Value → Option Value → Pt → Prop} {PostX : Pt → Array Value → Addr → Pt → Prop} (hK : vx_Back l R p e below s args y 3 W9 Pre Post PostX)
    {b : Addr} {cellB : Cell} (hcell : T.heap[b]? = some cellB) (hobj : cellB.vm.isStatics = false) (hcls : s.vm.findClass C = some cellB.cls)
    {g : JFrame} (hg : g.method = m) (hsize : g.locals.size = c.maxLocals) {argsL rest : List Value} (hlen : ∀ sig, parseMethodDescriptor y.desc = some sig → argsL.length = sig.parameters.length)
    (hstack : g.stack = argsL.reverse ++ .ref b :: rest) (hW : 2 * g.monitorRoom + (rest.map fun v => v.category).sum ≤ W9) (hdg : decode c.code g.pc = .ok (.invokevirtual index, 3))
    (hpre : ∀ vm₁, s.WarmedH vm₁ → Pre ⟨T.setVm vm₁, locs, cells, slots⟩ (Value.ref b :: argsL).toArray) :
    (∃ (v : Option Value) (vm₁ : Vm) (B : Pt), s.WarmedH vm₁ ∧ Stand p l e R s m args below meth c B.U B.locs B.cells B.slots ∧ Post ⟨T.setVm vm₁, locs, cells, slots⟩ (Value.ref b :: argsL).toArray v B ∧
      ∀ target, Steps p.tables e below (B.U.setTop { g with pc := g.pc + 3, stack := v.toList ++ rest }) target → Steps p.tables e below (T.setTop g) target) ∨
    (∃ (q : Addr) (vm₁ : Vm) (B : Pt), s.WarmedH vm₁ ∧ Stand p l e R s m args below meth c B.U B.locs B.cells B.slots ∧ PostX ⟨T.setVm vm₁, locs, cells, slots⟩ (Value.ref b :: argsL).toArray q B ∧
      Steps p.tables e below (T.setTop g) ((B.U.setTop { g with stack := rest }).pushFrame (.throwing q))) := by
  obtain ⟨mk, methM, hnamed, hmethM, hstM, habM⟩ := Cond.instanceMethod_spec hinst
  obtain ⟨methM', cM, hmethM', -, -, -, -, -, -, hsigM⟩ := Cond.code_spec hnamed hcode
  cases hmethM.symm.trans hmethM'
  obtain ⟨c2, r2, m2, q1, q2, q3, q4, kP, hkP, hkPi⟩ := Cond.selects_spec hsel
  cases hcls.symm.trans q1
  cases (State.methodFound?_of_named hnamed hy).symm.trans q2
  cases hnamed.symm.trans q3
  have hselP : selectMethod e.platform s.vm cellB.cls mk = .method mk := by rw [Launch.admits_selectMethod X.admits]; exact q4
  obtain ⟨vm₁, X₁, hstep₁⟩ := X.invokevirtual hexec hown hlink hnamed hmethM hstM hkP hkPi hy (a := b) (cell := cellB) hcell
    (fun z h => by rw [h] at hobj; cases hobj) hselP hmethM habM hkP hkPi (g := g) hg (argsL := argsL) (rest := rest) (hlen _ hsigM) hstack hdg
  rcases hK m meth c ⟨T.setVm vm₁, locs, cells, slots⟩ { g with stack := rest } (.invokevirtual index) mk (Value.ref b :: argsL).toArray X₁ hg hsize hdg hW (X₁.named hnamed) (hpre vm₁ X₁.warmed) with ⟨v, B, X', hpost, hsteps⟩ | ⟨q, B, X', hpost, hsteps⟩
  · exact Or.inl ⟨v, vm₁, B, X₁.warmed, X', hpost, fun target h => hstep₁ _ fun acts => by rw [doInvoke_state]; exact hsteps.trans h⟩
  · exact Or.inr ⟨q, vm₁, B, X₁.warmed, X', hpost, hstep₁ _ fun acts => by rw [doInvoke_state]; exact hsteps⟩
theorem vx_callS (X : Stand p l e R s m args below meth c T locs cells slots) (hexec : p.tables.exec = Jvm.exec) {own : String} {index : Nat} {y : MethodName} {bytes : ByteArray} {maxL : Nat} {ret : Option FieldType}
    (hown : s.vm.findClass own = some m.cls) (hlink : (Cond.methodLink own index y).before args s = true) (hstat : (Cond.static y).before args s = true) (hinit : (Cond.initialized y.cls).before args s = true)
    (hcode : (Cond.code y bytes maxL ret).before args s = true) (hy : y.cls ≠ "java/lang/invoke/MethodHandle" ∧ y.cls ≠ "java/lang/invoke/VarHandle")
    {W9 : Nat} {Pre : Pt → Array Value → Prop} {Post : Pt → Array Value → Option Value → Pt → Prop} {PostX : Pt → Array Value → Addr → Pt → Prop} (hK : vx_Back l R p e below s args y 3 W9 Pre Post PostX)
    {g : JFrame} (hg : g.method = m) (hsize : g.locals.size = c.maxLocals) {argsL rest : List Value} (hlen : ∀ sig, parseMethodDescriptor y.desc = some sig → argsL.length = sig.parameters.length)
    (hstack : g.stack = argsL.reverse ++ rest) (hW : 2 * g.monitorRoom + (rest.map fun v => v.category).sum ≤ W9) (hdg : decode c.code g.pc = .ok (.invokestatic index, 3))
    (hpre : ∀ vm₁, s.WarmedH vm₁ → Pre ⟨T.setVm vm₁, locs, cells, slots⟩ argsL.toArray) :
    (∃ (v : Option Value) (vm₁ : Vm) (B : Pt), s.WarmedH vm₁ ∧ Stand p l e R s m args below meth c B.U B.locs B.cells B.slots ∧ Post ⟨T.setVm vm₁, locs, cells, slots⟩ argsL.toArray v B ∧
      ∀ target, Steps p.tables e below (B.U.setTop { g with pc := g.pc + 3, stack := v.toList ++ rest }) target → Steps p.tables e below (T.setTop g) target) ∨
    (∃ (q : Addr) (vm₁ : Vm) (B : Pt), s.WarmedH vm₁ ∧ Stand p l e R s m args below meth c B.U B.locs B.cells B.slots ∧ PostX ⟨T.setVm vm₁, locs, cells, slots⟩ argsL.toArray q B ∧
      Steps p.tables e below (T.setTop g) ((B.U.setTop { g with stack := rest }).pushFrame (.throwing q))) := by
  obtain ⟨mk, hnamed⟩ := Cond.code_named hcode
  obtain ⟨methM, cM, hmethM, -, -, -, -, -, -, hsigM⟩ := Cond.code_spec hnamed hcode
  have hstatic : methM.isStatic = true := Cond.static_spec hnamed hmethM hstat
  obtain ⟨kP, hkP, -⟩ := className_of_methodNamed hnamed
  have hinitP : kP.init = .initialized := Cond.initialized_spec (findClass_of_methodNamed hnamed) hkP hinit
  obtain ⟨vm₁, X₁, hstep₁⟩ := X.invokestatic hexec hown hlink hnamed hmethM hstatic hkP hinitP hy (g := g) hg (argsL := argsL) (rest := rest) (hlen _ hsigM) hstack hdg
  rcases hK m meth c ⟨T.setVm vm₁, locs, cells, slots⟩ { g with stack := rest } (.invokestatic index) mk argsL.toArray X₁ hg hsize hdg hW (X₁.named hnamed) (hpre vm₁ X₁.warmed) with ⟨v, B, X', hpost, hsteps⟩ | ⟨q, B, X', hpost, hsteps⟩
  · exact Or.inl ⟨v, vm₁, B, X₁.warmed, X', hpost, fun target h => hstep₁ _ fun acts => by rw [doInvoke_state]; exact hsteps.trans h⟩
  · exact Or.inr ⟨q, vm₁, B, X₁.warmed, X', hpost, hstep₁ _ fun acts => by rw [doInvoke_state]; exact hsteps⟩
end Calls
theorem vx_cls {s : State} {T : State} {vm₁ : Vm} {E : String} {k : ClassId} (hW : s.WarmedH vm₁) (h : (T.setVm vm₁).vm.findClass E = some k) : s.vm.findClass E = some k := by
  have h1 : vm₁.findClass E = some k := h
  rw [hW.alike.findClass] at h1
  exact h1
/-- the method's frame g, with q thrown over it -/
def vx_W (p : Program) (l : Launch) (e : Env) (R : Room) (s : State) (m : MethodId) (args : Array Value) (below : List Frame) (meth : Method) (c : Code) (H : Heap) (locs : List Loc) (cells slots : Nat) (Q : State → Prop) (g : JFrame) (q : Addr) : Prop :=
  ∀ T : State, T.heap = H → Stand p l e R s m args below meth c T locs cells slots → ∃ t, Steps p.tables e below ((T.setTop g).pushFrame (.throwing q)) t ∧ Q t
def vx_Run (p : Program) (l : Launch) (e : Env) (R : Room) (s : State) (m : MethodId) (args : Array Value) (below : List Frame) (meth : Method) (c : Code) (H : Heap) (locs : List Loc) (cells slots mc ms : Nat) (g : JFrame) (rest : List Value) (Qa : State → Outcome → State → Prop) (XC : String → State → State → Prop) (free : Addr → Prop) : Prop :=
  ∀ T : State, T.heap = H → Stand p l e R s m args below meth c T locs cells slots →
    (∃ (v : Option Value) (st₀ t T' : State) (L : List Loc), st₀.heap = H ∧ Stand p l e R s m args below meth c T' (locs ++ L) (cells + mc) (slots + ms) ∧ (∀ q ∈ L, free q.base) ∧ T'.heap = t.heap ∧ T'.vm = t.vm ∧ Qa st₀ (.returned v) t ∧
      Goes p e below T g T' { g with pc := g.pc + 3, stack := v.toList ++ rest }) ∨
    (∃ (q : Addr) (st₀ t T' : State) (L : List Loc) (E : String) (ce : Cell), st₀.heap = H ∧ Stand p l e R s m args below meth c T' (locs ++ L) (cells + mc) (slots + ms) ∧ (∀ z ∈ L, free z.base) ∧ T'.heap = t.heap ∧ T'.vm = t.vm ∧ XC E st₀ t ∧ t.heap[q]? = some ce ∧ ce.vm = .none ∧ s.vm.findClass E = some ce.cls ∧
      Steps p.tables e below (T.setTop g) ((T'.setTop { g with stack := rest }).pushFrame (.throwing q)))
def vx_X {S : Type} (px : S → Prop) (B : String → S → State → Prop) (A : Nat → Prop) : String → State → State → Prop := fun E st t => ∃ u : S, px u ∧ B E u t ∧ va_F A st t
section Runs
variable {p : Program} {l : Launch} {e : Env} {R : Room} {s : State} {m : MethodId} {args : Array Value} {below : List Frame} {meth : Method} {c : Code} {H : Heap} {locs : List Loc} {cells slots : Nat}
variable {y : MethodName} {bytes cc : ByteArray} {maxL nL mc ms n index : Nat} {ret : Option FieldType} {ws : List Cond} {rm : Room} {Pc : Array Value → State → Prop} {Qc : Array Value → State → Outcome → State → Prop} {XC : String → State → State → Prop} {free : Addr → Prop} {Ts : List Cond} {own C : String} {b : Addr} {As rest : List Value} {g : JFrame}
theorem vx_callBack (cb : CallB R s args own index y bytes maxL ret ws rm mc ms n) (hM : vx_Met l y ws rm Pc Qc XC mc ms free) (hbl : FrameBlind Pc) : vx_Back l R p e below s args y 3 8 (PreOf R mc ms Pc) (PostOf Qc mc ms free) (vx_Post XC mc ms free) := by
  obtain ⟨hrc, hrs, hfr, hlo, hws, hcw, -, hini, -⟩ := cb
  exact vx_back (bytes := bytes) (maxL := maxL) (ret := ret) hM hbl hrc hrs hfr hlo hws hcw (fun a' U hW => word_at hW (Or.inl (by first | rfl | simp [Cond.onTables, Cond.keeps, Cond.steady])) hini)
theorem vx_runV (S : CallFix p m c cc nL s args Ts own) (hM : vx_Met l y ws rm Pc Qc XC mc ms free) (cw : CallW R s args own C index y bytes maxL ret ws rm mc ms n) (hp : PreV s H C b Pc As)
    (hg : g.method = m) (hn : As.length = n) (hsize : g.locals.size = nL) (hstack : g.stack = As.reverse ++ .ref b :: rest) (hW : 2 * g.monitorRoom + (rest.map fun v => v.category).sum ≤ 8) (hdg : decode cc g.pc = .ok (.invokevirtual index, 3)) (hf : cells + mc ≤ R.cells ∧ slots + ms ≤ R.slots) :
    vx_Run p l e R s m args below meth c H locs cells slots mc ms g rest (Qc (Value.ref b :: As).toArray) XC free := by
  have hK : vx_Back l R p e below s args y 3 8 (PreOf R mc ms Pc) (PostOf Qc mc ms free) (vx_Post XC mc ms free) := vx_callBack cw.1 hM hp.1
  obtain ⟨⟨-, -, -, -, -, -, hcode, -, hy, hlen, hl⟩, hin, hse⟩ := cw
  obtain ⟨hx, hb, hml, ho, -⟩ := S
  obtain ⟨-, ⟨cellB, hcB, hoB, hclB⟩, hPc⟩ := hp
  intro T hT X
  rcases vx_callV X hx (C := C) (bytes := bytes) (maxL := maxL) (ret := ret) ho hl hin hse hcode hy hK (by rw [hT]; exact hcB) hoB hclB hg (hsize.trans hml.symm) (argsL := As) (rest := rest) (fun sig h => hn.trans (hlen sig h)) hstack hW (by rw [hb]; exact hdg)
    (fun vm₁ hW₁ => ⟨hf.1, hf.2, hPc (T.setVm vm₁) hT hW₁⟩) with ⟨v, vm₁, ⟨U', l2, c2, s2⟩, hW₁, X', ⟨g', mk, t, L, e1, e2, hq, h1, hL, h2, h3⟩, st⟩ | ⟨q, vm₁, ⟨U', l2, c2, s2⟩, hW₁, X', ⟨g', mk, t, L, E, ce, e1, e2, hq, hce, hcv, hcl, h1, hL, h2, h3⟩, st⟩
  · dsimp only [Pt.U, Pt.locs, Pt.cells, Pt.slots] at X' e1 e2 h1 h2 h3 st
    subst h1; subst h2; subst h3
    exact Or.inl ⟨v, (T.setVm vm₁).calling g' mk (Value.ref b :: As).toArray, t, U', L, hT, X', hL, e1, e2, hq, st⟩
  · dsimp only [Pt.U, Pt.locs, Pt.cells, Pt.slots] at X' e1 e2 h1 h2 h3 st hcl
    subst h1; subst h2; subst h3
    exact Or.inr ⟨q, (T.setVm vm₁).calling g' mk (Value.ref b :: As).toArray, t, U', L, E, ce, hT, X', hL, e1, e2, hq, hce, hcv, vx_cls hW₁ hcl, st⟩
theorem vx_runS (S : CallFix p m c cc nL s args Ts own) (hM : vx_Met l y ws rm Pc Qc XC mc ms free) (cw : CallB R s args own index y bytes maxL ret ws rm mc ms n ∧ (Cond.static y).before args s = true) (hp : PreS s H Pc As)
    (hg : g.method = m) (hn : As.length = n) (hsize : g.locals.size = nL) (hstack : g.stack = As.reverse ++ rest) (hW : 2 * g.monitorRoom + (rest.map fun v => v.category).sum ≤ 8) (hdg : decode cc g.pc = .ok (.invokestatic index, 3)) (hf : cells + mc ≤ R.cells ∧ slots + ms ≤ R.slots) :
    vx_Run p l e R s m args below meth c H locs cells slots mc ms g rest (Qc As.toArray) XC free := by
  have hK : vx_Back l R p e below s args y 3 8 (PreOf R mc ms Pc) (PostOf Qc mc ms free) (vx_Post XC mc ms free) := vx_callBack cw.1 hM hp.1
  obtain ⟨⟨-, -, -, -, -, -, hcode, hini, hy, hlen, hl⟩, hstt⟩ := cw
  obtain ⟨hx, hb, hml, ho, -⟩ := S
  intro T hT X
  rcases vx_callS X hx (bytes := bytes) (maxL := maxL) (ret := ret) ho hl hstt hini hcode hy hK hg (hsize.trans hml.symm) (argsL := As) (rest := rest) (fun sig h => hn.trans (hlen sig h)) hstack hW (by rw [hb]; exact hdg)
    (fun vm₁ hW₁ => ⟨hf.1, hf.2, hp.2 (T.setVm vm₁) hT hW₁⟩) with ⟨v, vm₁, ⟨U', l2, c2, s2⟩, hW₁, X', ⟨g', mk, t, L, e1, e2, hq, h1, hL, h2, h3⟩, st⟩ | ⟨q, vm₁, ⟨U', l2, c2, s2⟩, hW₁, X', ⟨g', mk, t, L, E, ce, e1, e2, hq, hce, hcv, hcl, h1, hL, h2, h3⟩, st⟩
  · dsimp only [Pt.U, Pt.locs, Pt.cells, Pt.slots] at X' e1 e2 h1 h2 h3 st
    subst h1; subst h2; subst h3
    exact Or.inl ⟨v, (T.setVm vm₁).calling g' mk As.toArray, t, U', L, hT, X', hL, e1, e2, hq, st⟩
  · dsimp only [Pt.U, Pt.locs, Pt.cells, Pt.slots] at X' e1 e2 h1 h2 h3 st hcl
    subst h1; subst h2; subst h3
    exact Or.inr ⟨q, (T.setVm vm₁).calling g' mk As.toArray, t, U', L, E, ce, hT, X', hL, e1, e2, hq, hce, hcv, vx_cls hW₁ hcl, st⟩
end Runs
section Rows
variable {p : Program} {l : Launch} {e : Env} {R : Room} {s : State} {m : MethodId} {args : Array Value} {below : List Frame} {meth : Method} {c : Code} {H : Heap} {locs : List Loc} {cells slots : Nat} {Q : State → Prop}
variable {mc ms : Nat} {free : Addr → Prop} {A0 A1 : Nat → Prop} {H0 : Heap} {a : Array Value} {pc : Nat} {ls : Array Slot} {st0 rest : List Value}
theorem vx_keep {st₀ t T' : State} {L : List Loc} (h0 : st₀.heap = H) (e1 : T'.heap = t.heap) (hS : va_S A0 H0 H locs) (hA : ∀ q, q < H.size → A1 q → A0 q) (hf : ∀ q, free q → A0 q) (hL : ∀ q ∈ L, free q.base) (hF : va_F A1 st₀ t) :
    H.size ≤ T'.heap.size ∧ (∀ q : Nat, q < H.size → ¬ A1 q → T'.heap[q]? = H[q]?) ∧ va_S A0 H0 T'.heap (locs ++ L) := by
  obtain ⟨hz, hk⟩ := hF
  rw [h0] at hz hk
  exact ⟨by rw [e1]; exact hz, fun q h1 h2 => by rw [e1]; exact hk q h1 h2,
    ⟨Nat.le_trans hS.1 (by rw [e1]; exact hz), fun q h1 h2 => by rw [e1, hk q (Nat.lt_of_lt_of_le h1 hS.1) (fun z => h2 (hA q (Nat.lt_of_lt_of_le h1 hS.1) z))]; exact hS.2.1 q h1 h2, fun q hq => by
      rcases List.mem_append.mp hq with h | h
      · exact hS.2.2 q h
      · exact hf _ (hL q h)⟩⟩
theorem vx_calli {S SX : Type} {post : Int32 → S → Prop} {px : SX → Prop} {B : S → State → Prop} {BX : String → SX → State → Prop} {AX : Nat → Prop} (hr : vx_Run p l e R s m args below meth c H locs cells slots mc ms (F0 m pc ls st0) rest (va_Qi post B A1 a) (vx_X px BX AX) free) (hS : va_S A0 H0 H locs) (hA : ∀ q, q < H.size → A1 q → A0 q) (hf : ∀ q, free q → A0 q) (hAX : ∀ q, q < H.size → AX q → A0 q)
    (kx : ∀ (E : String) (ce : Cell) (q9 : Addr) (u : SX) (t : State) (H1 : Heap) (locs1 : List Loc), t.heap = H1 → s.vm.Alike t.vm → px u → BX E u t → H.size ≤ H1.size → (∀ q : Nat, q < H.size → ¬ AX q → H1[q]? = H[q]?) → va_S A0 H0 H1 locs1 → H1[q9]? = some ce → ce.vm = .none → s.vm.findClass E = some ce.cls → vx_W p l e R s m args below meth c H1 locs1 (cells + mc) (slots + ms) Q (F0 m pc ls rest) q9)
    (kk : ∀ (r : Int32) (u : S) (t : State) (H1 : Heap) (locs1 : List Loc), t.heap = H1 → s.vm.Alike t.vm → post r u → B u t → H.size ≤ H1.size → (∀ q : Nat, q < H.size → ¬ A1 q → H1[q]? = H[q]?) → va_S A0 H0 H1 locs1 → W p l e R s m args below meth c H1 locs1 (cells + mc) (slots + ms) Q (F0 m (pc + 3) ls (.int r :: rest))) : W p l e R s m args below meth c H locs cells slots Q (F0 m pc ls st0) := by
  intro T hT X
  rcases hr T hT X with ⟨v, st₀, t, T', L, h0, X', hL, e1, e2, ⟨⟨r, u, hv, hp, hb⟩, hF⟩, st⟩ | ⟨q, st₀, t, T', L, E, ce, h0, X', hL, e1, e2, ⟨u, hp, hb, hF⟩, hce, hcv, hcl, st⟩
  · cases hv
    obtain ⟨k1, k2, k3⟩ := vx_keep h0 e1 hS hA hf hL hF
    obtain ⟨t2, a1, b1⟩ := kk r u t T'.heap (locs ++ L) e1.symm (by rw [← e2]; exact X'.warmed.alike) hp hb k1 k2 k3 T' rfl X'
    exact ⟨t2, st t2 a1, b1⟩
  · obtain ⟨k1, k2, k3⟩ := vx_keep h0 e1 hS hAX hf hL hF
    obtain ⟨t2, a1, b1⟩ := kx E ce q u t T'.heap (locs ++ L) e1.symm (by rw [← e2]; exact X'.warmed.alike) hp hb k1 k2 k3 (by rw [e1]; exact hce) hcv hcl T' rfl X'
    exact ⟨t2, st.trans a1, b1⟩
theorem vx_calll {S SX : Type} {post : Int64 → S → Prop} {px : SX → Prop} {B : S → State → Prop} {BX : String → SX → State → Prop} {AX : Nat → Prop} (hr : vx_Run p l e R s m args below meth c H locs cells slots mc ms (F0 m pc ls st0) rest (va_Ql post B A1 a) (vx_X px BX AX) free) (hS : va_S A0 H0 H locs) (hA : ∀ q, q < H.size → A1 q → A0 q) (hf : ∀ q, free q → A0 q) (hAX : ∀ q, q < H.size → AX q → A0 q)
    (kx : ∀ (E : String) (ce : Cell) (q9 : Addr) (u : SX) (t : State) (H1 : Heap) (locs1 : List Loc), t.heap = H1 → s.vm.Alike t.vm → px u → BX E u t → H.size ≤ H1.size → (∀ q : Nat, q < H.size → ¬ AX q → H1[q]? = H[q]?) → va_S A0 H0 H1 locs1 → H1[q9]? = some ce → ce.vm = .none → s.vm.findClass E = some ce.cls → vx_W p l e R s m args below meth c H1 locs1 (cells + mc) (slots + ms) Q (F0 m pc ls rest) q9)
    (kk : ∀ (r : Int64) (u : S) (t : State) (H1 : Heap) (locs1 : List Loc), t.heap = H1 → s.vm.Alike t.vm → post r u → B u t → H.size ≤ H1.size → (∀ q : Nat, q < H.size → ¬ A1 q → H1[q]? = H[q]?) → va_S A0 H0 H1 locs1 → W p l e R s m args below meth c H1 locs1 (cells + mc) (slots + ms) Q (F0 m (pc + 3) ls (.long r :: rest))) : W p l e R s m args below meth c H locs cells slots Q (F0 m pc ls st0) := by
  intro T hT X
  rcases hr T hT X with ⟨v, st₀, t, T', L, h0, X', hL, e1, e2, ⟨⟨r, u, hv, hp, hb⟩, hF⟩, st⟩ | ⟨q, st₀, t, T', L, E, ce, h0, X', hL, e1, e2, ⟨u, hp, hb, hF⟩, hce, hcv, hcl, st⟩
  · cases hv
    obtain ⟨k1, k2, k3⟩ := vx_keep h0 e1 hS hA hf hL hF
    obtain ⟨t2, a1, b1⟩ := kk r u t T'.heap (locs ++ L) e1.symm (by rw [← e2]; exact X'.warmed.alike) hp hb k1 k2 k3 T' rfl X'
    exact ⟨t2, st t2 a1, b1⟩
  · obtain ⟨k1, k2, k3⟩ := vx_keep h0 e1 hS hAX hf hL hF
    obtain ⟨t2, a1, b1⟩ := kx E ce q u t T'.heap (locs ++ L) e1.symm (by rw [← e2]; exact X'.warmed.alike) hp hb k1 k2 k3 (by rw [e1]; exact hce) hcv hcl T' rfl X'
    exact ⟨t2, st.trans a1, b1⟩
theorem vx_callf {S SX : Type} {post : UInt32 → S → Prop} {px : SX → Prop} {B : S → State → Prop} {BX : String → SX → State → Prop} {AX : Nat → Prop} (hr : vx_Run p l e R s m args below meth c H locs cells slots mc ms (F0 m pc ls st0) rest (va_Qf post B A1 a) (vx_X px BX AX) free) (hS : va_S A0 H0 H locs) (hA : ∀ q, q < H.size → A1 q → A0 q) (hf : ∀ q, free q → A0 q) (hAX : ∀ q, q < H.size → AX q → A0 q)
    (kx : ∀ (E : String) (ce : Cell) (q9 : Addr) (u : SX) (t : State) (H1 : Heap) (locs1 : List Loc), t.heap = H1 → s.vm.Alike t.vm → px u → BX E u t → H.size ≤ H1.size → (∀ q : Nat, q < H.size → ¬ AX q → H1[q]? = H[q]?) → va_S A0 H0 H1 locs1 → H1[q9]? = some ce → ce.vm = .none → s.vm.findClass E = some ce.cls → vx_W p l e R s m args below meth c H1 locs1 (cells + mc) (slots + ms) Q (F0 m pc ls rest) q9)
    (kk : ∀ (r : UInt32) (u : S) (t : State) (H1 : Heap) (locs1 : List Loc), t.heap = H1 → s.vm.Alike t.vm → post r u → B u t → H.size ≤ H1.size → (∀ q : Nat, q < H.size → ¬ A1 q → H1[q]? = H[q]?) → va_S A0 H0 H1 locs1 → W p l e R s m args below meth c H1 locs1 (cells + mc) (slots + ms) Q (F0 m (pc + 3) ls (.float r :: rest))) : W p l e R s m args below meth c H locs cells slots Q (F0 m pc ls st0) := by
  intro T hT X
  rcases hr T hT X with ⟨v, st₀, t, T', L, h0, X', hL, e1, e2, ⟨⟨r, u, hv, hp, hb⟩, hF⟩, st⟩ | ⟨q, st₀, t, T', L, E, ce, h0, X', hL, e1, e2, ⟨u, hp, hb, hF⟩, hce, hcv, hcl, st⟩
  · cases hv
    obtain ⟨k1, k2, k3⟩ := vx_keep h0 e1 hS hA hf hL hF
    obtain ⟨t2, a1, b1⟩ := kk r u t T'.heap (locs ++ L) e1.symm (by rw [← e2]; exact X'.warmed.alike) hp hb k1 k2 k3 T' rfl X'
    exact ⟨t2, st t2 a1, b1⟩
  · obtain ⟨k1, k2, k3⟩ := vx_keep h0 e1 hS hAX hf hL hF
    obtain ⟨t2, a1, b1⟩ := kx E ce q u t T'.heap (locs ++ L) e1.symm (by rw [← e2]; exact X'.warmed.alike) hp hb k1 k2 k3 (by rw [e1]; exact hce) hcv hcl T' rfl X'
    exact ⟨t2, st.trans a1, b1⟩
theorem vx_calld {S SX : Type} {post : UInt64 → S → Prop} {px : SX → Prop} {B : S → State → Prop} {BX : String → SX → State → Prop} {AX : Nat → Prop} (hr : vx_Run p l e R s m args below meth c H locs cells slots mc ms (F0 m pc ls st0) rest (va_Qd post B A1 a) (vx_X px BX AX) free) (hS : va_S A0 H0 H locs) (hA : ∀ q, q < H.size → A1 q → A0 q) (hf : ∀ q, free q → A0 q) (hAX : ∀ q, q < H.size → AX q → A0 q)
    (kx : ∀ (E : String) (ce : Cell) (q9 : Addr) (u : SX) (t : State) (H1 : Heap) (locs1 : List Loc), t.heap = H1 → s.vm.Alike t.vm → px u → BX E u t → H.size ≤ H1.size → (∀ q : Nat, q < H.size → ¬ AX q → H1[q]? = H[q]?) → va_S A0 H0 H1 locs1 → H1[q9]? = some ce → ce.vm = .none → s.vm.findClass E = some ce.cls → vx_W p l e R s m args below meth c H1 locs1 (cells + mc) (slots + ms) Q (F0 m pc ls rest) q9)
    (kk : ∀ (r : UInt64) (u : S) (t : State) (H1 : Heap) (locs1 : List Loc), t.heap = H1 → s.vm.Alike t.vm → post r u → B u t → H.size ≤ H1.size → (∀ q : Nat, q < H.size → ¬ A1 q → H1[q]? = H[q]?) → va_S A0 H0 H1 locs1 → W p l e R s m args below meth c H1 locs1 (cells + mc) (slots + ms) Q (F0 m (pc + 3) ls (.double r :: rest))) : W p l e R s m args below meth c H locs cells slots Q (F0 m pc ls st0) := by
  intro T hT X
  rcases hr T hT X with ⟨v, st₀, t, T', L, h0, X', hL, e1, e2, ⟨⟨r, u, hv, hp, hb⟩, hF⟩, st⟩ | ⟨q, st₀, t, T', L, E, ce, h0, X', hL, e1, e2, ⟨u, hp, hb, hF⟩, hce, hcv, hcl, st⟩
  · cases hv
    obtain ⟨k1, k2, k3⟩ := vx_keep h0 e1 hS hA hf hL hF
    obtain ⟨t2, a1, b1⟩ := kk r u t T'.heap (locs ++ L) e1.symm (by rw [← e2]; exact X'.warmed.alike) hp hb k1 k2 k3 T' rfl X'
    exact ⟨t2, st t2 a1, b1⟩
  · obtain ⟨k1, k2, k3⟩ := vx_keep h0 e1 hS hAX hf hL hF
    obtain ⟨t2, a1, b1⟩ := kx E ce q u t T'.heap (locs ++ L) e1.symm (by rw [← e2]; exact X'.warmed.alike) hp hb k1 k2 k3 (by rw [e1]; exact hce) hcv hcl T' rfl X'
    exact ⟨t2, st.trans a1, b1⟩
theorem vx_callv {S SX : Type} {post : S → Prop} {px : SX → Prop} {B : S → State → Prop} {BX : String → SX → State → Prop} {AX : Nat → Prop} (hr : vx_Run p l e R s m args below meth c H locs cells slots mc ms (F0 m pc ls st0) rest (va_Qv post B A1 a) (vx_X px BX AX) free) (hS : va_S A0 H0 H locs) (hA : ∀ q, q < H.size → A1 q → A0 q) (hf : ∀ q, free q → A0 q) (hAX : ∀ q, q < H.size → AX q → A0 q)
    (kx : ∀ (E : String) (ce : Cell) (q9 : Addr) (u : SX) (t : State) (H1 : Heap) (locs1 : List Loc), t.heap = H1 → s.vm.Alike t.vm → px u → BX E u t → H.size ≤ H1.size → (∀ q : Nat, q < H.size → ¬ AX q → H1[q]? = H[q]?) → va_S A0 H0 H1 locs1 → H1[q9]? = some ce → ce.vm = .none → s.vm.findClass E = some ce.cls → vx_W p l e R s m args below meth c H1 locs1 (cells + mc) (slots + ms) Q (F0 m pc ls rest) q9)
    (kk : ∀ (u : S) (t : State) (H1 : Heap) (locs1 : List Loc), t.heap = H1 → s.vm.Alike t.vm → post u → B u t → H.size ≤ H1.size → (∀ q : Nat, q < H.size → ¬ A1 q → H1[q]? = H[q]?) → va_S A0 H0 H1 locs1 → W p l e R s m args below meth c H1 locs1 (cells + mc) (slots + ms) Q (F0 m (pc + 3) ls (rest))) : W p l e R s m args below meth c H locs cells slots Q (F0 m pc ls st0) := by
  intro T hT X
  rcases hr T hT X with ⟨v, st₀, t, T', L, h0, X', hL, e1, e2, ⟨⟨u, hv, hp, hb⟩, hF⟩, st⟩ | ⟨q, st₀, t, T', L, E, ce, h0, X', hL, e1, e2, ⟨u, hp, hb, hF⟩, hce, hcv, hcl, st⟩
  · cases hv
    obtain ⟨k1, k2, k3⟩ := vx_keep h0 e1 hS hA hf hL hF
    obtain ⟨t2, a1, b1⟩ := kk u t T'.heap (locs ++ L) e1.symm (by rw [← e2]; exact X'.warmed.alike) hp hb k1 k2 k3 T' rfl X'
    exact ⟨t2, st t2 a1, b1⟩
  · obtain ⟨k1, k2, k3⟩ := vx_keep h0 e1 hS hAX hf hL hF
    obtain ⟨t2, a1, b1⟩ := kx E ce q u t T'.heap (locs ++ L) e1.symm (by rw [← e2]; exact X'.warmed.alike) hp hb k1 k2 k3 (by rw [e1]; exact hce) hcv hcl T' rfl X'
    exact ⟨t2, st.trans a1, b1⟩
/-- caught by the row x of this method's table; the rows ahead don't take it -/
theorem vx_catch {own name : String} {E : String} {ce : Cell} {q : Addr} (hown : s.vm.findClass own = some m.cls) (pre : List ExceptionTableEntry) (x : ExceptionTableEntry) (suf : List ExceptionTableEntry) (hsplit : c.exceptionTable.toList = pre ++ x :: suf)
    (hpass : ∀ z ∈ pre, covers z pc = false ∨ (z.catchType ≠ 0 ∧ ∃ nm : String, (Cond.classLink own z.catchType nm).before args s = true ∧ va_Nc E nm s)) (hx : covers x pc = true) (h0 : x.catchType ≠ 0)
    (hlink : (Cond.classLink own x.catchType name).before args s = true) (hcast : (Cond.castable E name).before args s = true) (hcell : H[q]? = some ce) (hv : ce.vm = .none) (hcl : s.vm.findClass E = some ce.cls)
    (kk : W p l e R s m args below meth c H locs cells slots Q (F0 m x.handlerPc ls [.ref q])) : vx_W p l e R s m args below meth c H locs cells slots Q (F0 m pc ls rest) q := by
  intro T hT X
  have hpl : e.platform.magicAccessors = ({} : Platform).magicAccessors := by rw [X.admits.platform]
  obtain ⟨c3, c4, hc3, hc4, hasg⟩ := Cond.castable_spec hcast
  cases Option.some.inj (hc3.symm.trans hcl)
  obtain ⟨c5, hc5, hcl5⟩ := Cond.classLink_spec hown hlink e.platform hpl
  cases Option.some.inj (hc4.symm.trans hc5)
  obtain ⟨vm', X', st⟩ := mx_thenCaught X q (g := F0 m pc ls rest) rfl (by rw [hT]; exact hcell) (by rw [hv]; rfl) (by obtain ⟨k9, h9, -⟩ := Vm.findClass_spec hcl; exact ⟨k9, h9⟩) pre x suf hsplit
    (fun z hz => by
      rcases hpass z hz with h | ⟨hz0, nm, hl1, hn1⟩
      · exact Or.inl h
      · obtain ⟨c6, hc6, hcl6⟩ := Cond.classLink_spec hown hl1 e.platform hpl
        obtain ⟨a8, b8, h1, h2, h3⟩ := hn1
        cases Option.some.inj (h1.symm.trans hcl)
        cases Option.some.inj (h2.symm.trans hc6)
        exact Or.inr ⟨hz0, _, hcl6, h3⟩) hx h0 hcl5 hasg
  obtain ⟨t, a1, b1⟩ := kk (T.setVm vm') hT X'
  exact ⟨t, st.trans a1, b1⟩
end Rows
section Ends
variable {p : Program} {l : Launch} {e : Env} {R : Room} {s : State} {m : MethodId} {args : Array Value} {below : List Frame} {meth : Method} {c : Code} {H : Heap} {locs : List Loc} {cells slots : Nat} {Q : State → Prop}
variable {mc ms : Nat} {free : Addr → Prop} {A0 A1 : Nat → Prop} {H0 : Heap} {a : Array Value} {ls : Array Slot} {st0 rest : List Value}
variable {Qc : Array Value → State → Outcome → State → Prop} {XC : String → State → State → Prop}
/-- what a body that may throw owes at its end -/
def vx_MQ (below : List Frame) (Qc : Array Value → State → Outcome → State → Prop) (XC : String → State → State → Prop) (a : Array Value) (s : State) (mc ms : Nat) (free : Addr → Prop) : State → Prop := fun t =>
  ∃ o, t.status = .running ∧ Ended t below o ∧ vx_Q Qc XC mc ms free a s o t
theorem vx_ret {g : JFrame} {mc ms : Nat} (k : W p l e R s m args below meth c H locs cells slots (MQ below Qc args s mc ms free) g) : W p l e R s m args below meth c H locs cells slots (vx_MQ below Qc XC args s mc ms free) g := by
  intro T hT X
  obtain ⟨t, a1, o, b1, b2, b3, b4⟩ := k T hT X
  exact ⟨t, a1, o, b1, b2, Or.inl ⟨b3, b4⟩⟩
/-- not caught here: it goes on to the caller -/
theorem vx_widen {g : JFrame} {q : Addr} {k n : Nat} (h1 : cells ≤ k) (h2 : slots ≤ n) (kk : vx_W p l e R s m args below meth c H locs k n Q g q) : vx_W p l e R s m args below meth c H locs cells slots Q g q := fun T hT X => kk T hT (stand_widen X h1 h2)
theorem vx_out {pc : Nat} {E : String} {ce : Cell} {q : Addr} {mc ms : Nat} (hout : ∀ x ∈ c.exceptionTable.toList, covers x pc = false) (hlocks : meth.locks = false) (hcell : H[q]? = some ce) (hv : ce.vm = .none) (hcl : s.vm.findClass E = some ce.cls)
    (hx : ∀ t : State, t.heap = H → s.vm.Alike t.vm → XC E s t) (hf : ∀ z ∈ locs, free z.base) (hc : cells ≤ mc) (hs : slots ≤ ms) :
    vx_W p l e R s m args below meth c H locs cells slots (vx_MQ below Qc XC args s mc ms free) (F0 m pc ls rest) q := by
  intro T hT X
  obtain ⟨st1, hrun, hend, hW, hsm⟩ := X.leaveThrown q (g := F0 m pc ls rest) rfl rfl rfl hout hlocks
  have hcell9 : (T.setFrames (.throwing q :: below)).heap[q]? = some ce := by
    show T.heap[q]? = some ce
    rw [hT]; exact hcell
  exact ⟨_, st1, .threw q, hrun, hend, Or.inr ⟨q, rfl, E, ce, locs, hx _ hT hW.alike, hcell9, hv, hcl, hW, hsm.mono hc hs, hf⟩⟩
theorem vx_frame {U : State} {k n : Nat} (h : s.sameButNew ({ U with vm := s.vm } : State) locs k n) : s.heap.size ≤ U.heap.size ∧ ∀ q : Nat, q < s.heap.size → (∀ z ∈ locs, z.base ≠ q) → U.heap[q]? = s.heap[q]? := by
  obtain ⟨-, h2, -, -, -, h6⟩ := h
  refine ⟨h2, fun q hq hz => ?_⟩
  obtain ⟨c9, e1, e2, e3, e4⟩ := h6 q _ (Array.getElem?_eq_getElem hq)
  have hs : c9.slots = (s.heap[q]).slots := Array.ext_getElem? fun i => e4 i fun hm => hz _ hm rfl
  have h9 : c9 = s.heap[q] := by
    rw [hs] at e2
    exact e2
  have e5 : U.heap[q]? = some c9 := e1
  rw [e5, h9, Array.getElem?_eq_getElem hq]
/-- the words of a throw but the four that speak of the heap -/
def vx_no (w : Cond) : Bool := decide (w ≠ .isRef (.static Jvm.Bundle.tN "UNASSIGNED_STACK" Jvm.Bundle.steD)) && decide (w ≠ .isRef (.static Jvm.Bundle.tN "SUPPRESSED_SENTINEL" Jvm.Bundle.listD)) && decide (w ≠ .laysStatic Jvm.Bundle.tN "UNASSIGNED_STACK" Jvm.Bundle.steD) && decide (w ≠ .laysStatic Jvm.Bundle.tN "SUPPRESSED_SENTINEL" Jvm.Bundle.listD)
def vx_at0 (own : String) (ic : Nat) (X : String) (names : List String) : List Cond := (Jvm.Bundle.ownAtoms0 own ic X names).filter vx_no
def vx_atS (own : String) (ic : Nat) (X : String) (names : List String) : List Cond := (Jvm.Bundle.ownAtoms own ic X names).filter vx_no
/-- a word that the tables alone decide, or a good one -/
def vx_ot (w : Cond) : Bool := w.onTables || goodWord w
theorem vx_ot_at {args a' : Array Value} {s U : State} {w : Cond} (hW : s.WarmedH U.vm) (hvm : s.vm = U.vm) (hg : vx_ot w = true) (h : w.before args s = true) : w.before a' U = true := by
  simp only [vx_ot, Bool.or_eq_true] at hg
  rcases hg with hg | hg
  · exact va_tabs hg hvm h
  · exact word_at hW (good_of_word hg) h
/-- a list's words: the good ones out of the method's own list, the others by premises of their own -/
theorem vx_hat {args : Array Value} {s : State} {L B : List Cond} (h1 : ∀ w ∈ L.filter goodWord, w.before args s = true) (h2 : ∀ w ∈ L.filter (fun w => !goodWord w), w ∈ B) (h3 : ∀ w ∈ B, w.before args s = true) : ∀ w ∈ L, w.before args s = true := by
  intro w hw
  by_cases g : goodWord w = true
  · exact h1 w (List.mem_filter.mpr ⟨hw, g⟩)
  · refine h3 w (h2 w (List.mem_filter.mpr ⟨hw, ?_⟩))
    show (!goodWord w) = true
    cases hgw : goodWord w
    · rfl
    · exact absurd hgw g
theorem vx_c {args : Array Value} {s : State} {w : Cond} {B : List Cond} (h : w.before args s = true) (t : ∀ w ∈ B, w.before args s = true) : ∀ w' ∈ w :: B, w'.before args s = true := fun w' h' => (List.mem_cons.mp h').elim (fun e => by rw [e]; exact h) (t w')
theorem vx_n {args : Array Value} {s : State} : ∀ w ∈ ([] : List Cond), w.before args s = true := fun _ h => nomatch h
theorem vx_own {args : Array Value} {s : State} {L : List Cond} (h1 : ∀ w ∈ L.filter vx_no, w.before args s = true)
    (hU : (Cond.isRef (.static Jvm.Bundle.tN "UNASSIGNED_STACK" Jvm.Bundle.steD)).before args s = true) (hN : (Cond.isRef (.static Jvm.Bundle.tN "SUPPRESSED_SENTINEL" Jvm.Bundle.listD)).before args s = true)
    (lU : (Cond.laysStatic Jvm.Bundle.tN "UNASSIGNED_STACK" Jvm.Bundle.steD).before args s = true) (lN : (Cond.laysStatic Jvm.Bundle.tN "SUPPRESSED_SENTINEL" Jvm.Bundle.listD).before args s = true) : ∀ w ∈ L, w.before args s = true := by
  intro w hw
  by_cases e1 : w = .isRef (.static Jvm.Bundle.tN "UNASSIGNED_STACK" Jvm.Bundle.steD)
  · rw [e1]; exact hU
  · by_cases e2 : w = .isRef (.static Jvm.Bundle.tN "SUPPRESSED_SENTINEL" Jvm.Bundle.listD)
    · rw [e2]; exact hN
    · by_cases e3 : w = .laysStatic Jvm.Bundle.tN "UNASSIGNED_STACK" Jvm.Bundle.steD
      · rw [e3]; exact lU
      · by_cases e4 : w = .laysStatic Jvm.Bundle.tN "SUPPRESSED_SENTINEL" Jvm.Bundle.listD
        · rw [e4]; exact lN
        · exact h1 w (List.mem_filter.mpr ⟨hw, by unfold vx_no; rw [decide_eq_true e1, decide_eq_true e2, decide_eq_true e3, decide_eq_true e4]; rfl⟩)
/-- where a static field lies, its class's statics cell in H -/
def vx_L (C n d : String) (A : Nat → Prop) (U : State) (H : Heap) : Prop := ∃ (c : ClassId) (k : Class) (i : Nat) (f : Field) (a : Nat) (cell : Cell), U.vm.findClass C = some c ∧ U.fieldFound? C n d = some (c, k, i, f) ∧ f.isStatic = true ∧ k.statics = some a ∧ H[a]? = some cell ∧ cell.vm.isStatics = true ∧ cell.cls = c ∧ f.slot < cell.slots.size ∧ k.staticTypes[f.slot]? = some f.type ∧ ¬ A a
theorem vx_L.moved {C n d : String} {A : Nat → Prop} {u U : State} {H : Heap} (hvm : u.vm.Alike U.vm) (h : vx_L C n d A u H) : vx_L C n d A U H := by
  obtain ⟨c, k, i, f, a, cell, h1, h2, h3, h4, h5, h6, h7, h8, h9, h10⟩ := h
  obtain ⟨k', hi', he⟩ := State.fieldFound?_setVm hvm h2
  exact ⟨c, k', i, f, a, cell, by rw [hvm.findClass]; exact h1, hi', h3, by rw [he]; exact h4, h5, h6, h7, h8, by rw [he]; exact h9, h10⟩
theorem vx_L.kept {C n d : String} {A : Nat → Prop} {U : State} {H H1 : Heap} (h : vx_L C n d A U H) (hq : ∀ a : Nat, a < H.size → ¬ A a → H1[a]? = H[a]?) : vx_L C n d A U H1 := by
  obtain ⟨c, k, i, f, a, cell, h1, h2, h3, h4, h5, h6, h7, h8, h9, h10⟩ := h
  exact ⟨c, k, i, f, a, cell, h1, h2, h3, h4, by rw [hq a (Array.getElem?_eq_some_iff.mp h5).1 h10]; exact h5, h6, h7, h8, h9, h10⟩
theorem vx_L.narrow {C n d : String} {A B : Nat → Prop} {U : State} {H : Heap} (h : vx_L C n d A U H) (hAB : ∀ q, B q → A q) : vx_L C n d B U H := by
  obtain ⟨c, k, i, f, a, cell, h1, h2, h3, h4, h5, h6, h7, h8, h9, h10⟩ := h
  exact ⟨c, k, i, f, a, cell, h1, h2, h3, h4, h5, h6, h7, h8, h9, fun z => h10 (hAB _ z)⟩
theorem vx_L.word {C n d : String} {A : Nat → Prop} {s : State} {args : Array Value} (h : vx_L C n d A s s.heap) : (Cond.laysStatic C n d).before args s = true := by
  obtain ⟨c, k, i, f, a, cell, h1, h2, h3, h4, h5, h6, h7, h8, h9, -⟩ := h
  show (Cond.laysStatic C n d).holds args s none s [] = true
  exact Cond.laysStatic_of h1 h2 h3 h4 h5 h6 h7 h8 h9
/-- .. and what it holds: null or some reference -/
def vx_Zq (C n d : String) (A : Nat → Prop) (U : State) (H : Heap) : Prop := va_Zq C n d A U H ∧ vx_L C n d A U H
theorem vx_Zq.moved {C n d : String} {A : Nat → Prop} {u U : State} {H : Heap} (hvm : u.vm.Alike U.vm) (h : vx_Zq C n d A u H) : vx_Zq C n d A U H := ⟨va_Zq.moved hvm h.1, vx_L.moved hvm h.2⟩
theorem vx_Zq.kept {C n d : String} {A : Nat → Prop} {U : State} {H H1 : Heap} (h : vx_Zq C n d A U H) (hq : ∀ a : Nat, a < H.size → ¬ A a → H1[a]? = H[a]?) : vx_Zq C n d A U H1 := ⟨va_Zq.kept h.1 hq, vx_L.kept h.2 hq⟩
theorem vx_Zq.narrow {C n d : String} {A B : Nat → Prop} {U : State} {H : Heap} (h : vx_Zq C n d A U H) (hAB : ∀ q, B q → A q) : vx_Zq C n d B U H := ⟨va_Zq.narrow h.1 hAB, vx_L.narrow h.2 hAB⟩
theorem vx_Zqof {args : Array Value} {s : State} {C n d : String} {A : Nat → Prop} (hl : (Cond.laysStatic C n d).before args s = true) (hini : (Cond.initialized C).before args s = true) (h : (Cond.isRef (.static C n d)).before args s = true) (hA : ∀ a : Nat, a < s.heap.size → ¬ A a) : vx_Zq C n d A s s.heap := by
  refine ⟨va_Zqof hl hini h hA, ?_⟩
  obtain ⟨c, k, i, f, a, cell, h1, h2, h3, h4, h5, h6, h7, h8, h9⟩ := Cond.laysStatic_spec hl
  exact ⟨c, k, i, f, a, cell, h1, h2, h3, h4, h5, h6, h7, h8, h9, hA a (Array.getElem?_eq_some_iff.mp h5).1⟩
theorem vx_isRef {C n d : String} {v : Value} {A : Nat → Prop} {s : State} {args : Array Value} (h : va_Z C n d v A s s.heap) (hv : v.isRef = true) : (Cond.isRef (.static C n d)).before args s = true := by
  obtain ⟨cf, kf, fi, f, a, cell, h1, h2, h3, h4, h5, h6, h7, -⟩ := h
  have he : (Term.static C n d).eval args s none [] s = some v := by
    simp [Term.eval, State.fieldNamed?, h1, h2, h4, h5, h6, h7]
  simp only [Cond.before, Cond.holds, Cond.value, he]
  cases v <;> simp_all [Value.isRef]
theorem vx_isRefq {C n d : String} {A : Nat → Prop} {s : State} {args : Array Value} (h : va_Zq C n d A s s.heap) : (Cond.isRef (.static C n d)).before args s = true := by
  rcases h with h | ⟨t, h⟩
  · exact vx_isRef h rfl
  · exact vx_isRef h rfl
/-- the same frame, seen from here: as if the method were called anew in this heap -/
theorem vx_rebase {T : State} (X : Stand p l e R s m args below meth c T locs cells slots) {R' : Room} (hf : R'.frames ≤ R.frames) (hl : R'.locals ≤ R.locals) (hc : cells + R'.cells ≤ R.cells) (hs : slots + R'.slots ≤ R.slots) :
    Stand p l e R' ((T.setVm s.vm).setFrames (.invoking m args :: below)) m args below meth c T [] 0 0 := by
  have htop : (T.setVm s.vm).topJava?.isSome := X.here.top
  have hF : ((T.setVm s.vm).setFrames (.invoking m args :: below)).frames = .invoking m args :: below := State.frames_setFrames _ (State.cur_lt_of_top htop)
  obtain ⟨g₀, hg0⟩ := Option.isSome_iff_exists.mp htop
  obtain ⟨r, hr⟩ := State.topJava?_eq_some.mp hg0
  have hl9 : e.platform.stackLimits (T.setVm s.vm).me = e.platform.stackLimits s.me := X.limits
  have hb9 : (T.setVm s.vm).me.stackBytes = s.me.stackBytes := X.bytes
  refine ⟨X.admits, X.cas, X.clock, hF, ?_, X.hears, X.method, X.code, X.here, X.tail, X.warmed, ?_, ?_, ?_⟩
  · have h := X.room
    have hU : ((T.setVm s.vm).setFrames (.invoking m args :: below)).localsInUse = s.localsInUse := by
      rw [State.localsInUse_invoking hF (meth := meth) (c := c) X.method X.code, State.localsInUse_invoking X.frames X.method X.code]
    simp only [State.hasRoom, Bool.and_eq_true, decide_eq_true_eq] at h ⊢
    obtain ⟨⟨⟨⟨h1, h2, h3, h4, h5, h6⟩, h7⟩, h8⟩, h9⟩ := h
    rw [X.frames, List.length_cons] at h2 h3
    have q1 := X.heapSize
    have q2 := X.used
    simp only [hF, hU, List.length_cons, State.stackLimits_setFrames, State.stackBytes_setFrames, hl9, hb9]
    refine ⟨⟨⟨⟨by omega, by omega, by omega, by omega, by omega, h6⟩, ?_⟩, ?_⟩, X.book⟩
    · show T.heap.size + R'.cells ≤ e.platform.maxCells
      omega
    · show T.slotsUsed + R'.slots ≤ e.platform.maxSlots
      omega
  · rw [State.stackLimits_setFrames]; rfl
  · rw [State.stackBytes_setFrames]; rfl
  · refine ⟨?_, Nat.le_refl _, Nat.le_refl _, ?_, ?_, fun a c9 h9 => ⟨c9, h9, rfl, rfl, fun _ _ => rfl⟩⟩
    · obtain ⟨t, ht, -⟩ := State.frames_cons hr
      show T.setVm s.vm = { ((T.setVm s.vm).setFrames (.invoking m args :: below)).setFrames (T.setVm s.vm).frames with heap := T.heap, slotsUsed := T.slotsUsed }
      rw [State.setFrames_setFrames, State.setFrames_self ht]
      rfl
    · show T.slotsUsed = T.slotsUsed + ((T.heap.toList.drop T.heap.size).map (·.slots.size)).sum
      rw [List.drop_eq_nil_of_le (Nat.le_of_eq Array.length_toList)]
      rfl
    · show ((T.heap.toList.drop T.heap.size).map (·.slots.size)).sum ≤ 0
      rw [List.drop_eq_nil_of_le (Nat.le_of_eq Array.length_toList)]
      exact Nat.le_refl _
/-- 'throw new E()': new; dup; invokespecial; athrow -/
theorem vx_throw0 {cc : ByteArray} {pc : Nat} (hexec : p.tables.exec = Jvm.exec) (hb : c.code = cc) (hl : l.stackTraces = false) {own cls : String} {names : List String} {ik ic mc ms : Nat} {A : Nat → Prop}
    (hown : s.vm.findClass own = some m.cls) (hcls : Jvm.Bundle.fit cls = true) (hnames : ∀ n ∈ names, Jvm.Bundle.fit n = true)
    (hk : (Cond.classLink own ik cls).before args s = true) (hini : (Cond.initialized cls).before args s = true) (hat : ∀ w ∈ vx_at0 own ic cls names, w.before args s = true)
    (hgood : ∀ w ∈ Cond.classLink own ik cls :: Cond.initialized cls :: vx_at0 own ic cls names, vx_ot w = true)
    (hU : vx_Zq Jvm.Bundle.tN "UNASSIGNED_STACK" Jvm.Bundle.steD A s s.heap) (hN : vx_Zq Jvm.Bundle.tN "SUPPRESSED_SENTINEL" Jvm.Bundle.listD A s s.heap) (hS : va_S A s.heap H locs) (hsize : ls.size = c.maxLocals)
    (d0 : decode cc pc = .ok (.new ik, 3)) (d3 : decode cc (pc + 3) = .ok (.dup, 1)) (d4 : decode cc (pc + 4) = .ok (.invokespecial ic, 3)) (d7 : decode cc (pc + 7) = .ok (.athrow, 1))
    (hout : ∀ x ∈ c.exceptionTable.toList, covers x (pc + 7) = false)
    (hRframes : names.length + 3 < R.frames) (hRlocals : (rest.map fun v => v.category).sum + (13 * (names.length + 1) + 42) ≤ R.locals) (hRcells : cells + 1 ≤ R.cells) (hRslots : slots + 6 ≤ R.slots) (hlocks : meth.locks = false)
    (hx : ∀ t : State, s.vm.Alike t.vm → H.size ≤ t.heap.size → (∀ q : Nat, q < H.size → t.heap[q]? = H[q]?) → XC cls s t)
    (hf : ∀ z ∈ locs, free z.base) (hc : cells + 1 ≤ mc) (hs : slots + 6 ≤ ms) :
    W p l e R s m args below meth c H locs cells slots (vx_MQ below Qc XC args s mc ms free) (F0 m pc ls rest) := by
  intro T hT X
  have htr : e.platform.stackTraces = false := (show e.platform.stackTraces = l.stackTraces by rw [X.admits.platform]).trans hl
  have Y := vx_rebase X (R' := { frames := R.frames, locals := R.locals, cells := 1, slots := 6 }) (Nat.le_refl _) (Nat.le_refl _) hRcells hRslots
  obtain ⟨s', hA⟩ : ∃ z, z = (T.setVm s.vm).setFrames (.invoking m args :: below) := ⟨_, rfl⟩
  rw [← hA] at Y
  have hvm : s'.vm = s.vm := by rw [hA]; rfl
  have hhp : s'.heap = H := by rw [hA]; exact hT
  have hW0 : s.WarmedH s'.vm := by rw [hvm]; exact State.WarmedH.refl s
  have hat' : ∀ w ∈ vx_at0 own ic cls names, w.before args s' = true := fun w hw => vx_ot_at hW0 hvm.symm (hgood w (List.mem_cons_of_mem _ (List.mem_cons_of_mem _ hw))) (hat w hw)
  have hk' : (Cond.classLink own ik cls).before args s' = true := vx_ot_at hW0 hvm.symm (hgood _ List.mem_cons_self) hk
  have hini' : (Cond.initialized cls).before args s' = true := vx_ot_at hW0 hvm.symm (hgood _ (List.mem_cons_of_mem _ List.mem_cons_self)) hini
  have hU' : vx_Zq Jvm.Bundle.tN "UNASSIGNED_STACK" Jvm.Bundle.steD A s' s'.heap := by rw [hhp]; exact vx_Zq.moved hW0.alike (hU.kept hS.2.1)
  have hN' : vx_Zq Jvm.Bundle.tN "SUPPRESSED_SENTINEL" Jvm.Bundle.listD A s' s'.heap := by rw [hhp]; exact vx_Zq.moved hW0.alike (hN.kept hS.2.1)
  have h : ∀ w ∈ Jvm.Bundle.ownAtoms0 own ic cls names, w.before args s' = true := vx_own hat' (vx_isRefq hU'.1) (vx_isRefq hN'.1) hU'.2.word hN'.2.word
  have hown' : s'.vm.findClass own = some m.cls := by rw [hvm]; exact hown
  have hins : (Cond.instantiable cls 6).before args s' = true := h _ (by simp [Jvm.Bundle.ownAtoms0])
  obtain ⟨vm₁, cX, kX, hfX, hkX, -, -, X₁, st1⟩ := Y.newCold hexec (own := own) (C := cls) (index := ik) (n := 6) hown' hk' hins hini'
    (g := F0 m pc ls rest) rfl (by rw [hb]; exact d0) (Nat.le_refl _) (Nat.le_refl _)
  generalize hT1 : (T.setVm vm₁).pushCell { cls := cX, slots := kX.instanceTypes.map defaultValue, vm := .none } = T1 at X₁ st1
  have hcat : (Value.ref T.heap.size).category = 1 := rfl
  have hcellA : T1.heap[T.heap.size]? = some (freshCell cX kX) := by rw [← hT1]; exact State.heap_pushCell_size _ _
  have d3' : decode c.code (pc + 3) = .ok (.dup, 1) := by rw [hb]; exact d3
  obtain ⟨U, hsteps, hrun, hend, hW, hsame, ce, hce, hO⟩ := X₁.ctorThrow0 hexec htr (own := own) (cls := cls) (names := names) (ic := ic) hown' hcls hnames h (fun x hx => nomatch hx) hfX hkX hcellA (by rw [hhp, hT]; exact Nat.le_refl _)
    (g := { method := m, pc := pc + 4, locals := ls, stack := .ref T.heap.size :: .ref T.heap.size :: rest, locked := none }) rfl hsize rfl rfl (rest := rest) rfl
    (by rw [hb]; exact d4) (by rw [hb]; exact d7) hout hRframes (by simp only [List.map_cons, List.sum_cons, hcat]; omega) hlocks
  obtain ⟨f1, f2⟩ := vx_frame hsame
  rw [hhp] at f1 f2
  have hWs : s.WarmedH U.vm := State.WarmedH.trans hW0 hW
  have hcl : s.vm.findClass cls = some ce.cls := by
    have h9 := hO.cls
    rw [hvm] at h9
    exact h9
  have hall : s.sameButNew ({ U with vm := s.vm } : State) locs mc ms := by
    subst hA
    obtain ⟨e1, e2⟩ := hsame
    rw [State.setFrames_setFrames] at e1
    have h2 : (T.setVm s.vm).sameButNew ({ U with vm := s.vm } : State) [] (0 + 1) (0 + 6) := ⟨e1, e2⟩
    have h3 := X.same.trans h2
    rw [List.append_nil] at h3
    exact h3.mono hc hs
  refine ⟨U, ?_, .threw T.heap.size, hrun, hend, Or.inr ⟨T.heap.size, rfl, cls, ce, locs, hx U hWs.alike f1 (fun q hq => f2 q hq (fun z hz => nomatch hz)), hce, hO.vm, hcl, hWs, hall, hf⟩⟩
  refine st1 _ ?_
  show Steps p.tables e below (T1.setTop { method := m, pc := pc + 3, locals := ls, stack := .ref T.heap.size :: rest, locked := none }) _
  jvm_step X₁.here [X₁.here.top, hexec, d3', Value.category]
  exact hsteps
/-- 'throw new E("text")': new; dup; ldc; invokespecial; athrow -/
theorem vx_throwS {cc : ByteArray} {pc : Nat} (hexec : p.tables.exec = Jvm.exec) (hb : c.code = cc) (hl : l.stackTraces = false) {own cls text : String} {names : List String} {ik is ic mc ms sa : Nat} {A : Nat → Prop}
    (hown : s.vm.findClass own = some m.cls) (hcls : Jvm.Bundle.fit cls = true) (hnames : ∀ n ∈ names, Jvm.Bundle.fit n = true)
    (hk : (Cond.classLink own ik cls).before args s = true) (hini : (Cond.initialized cls).before args s = true) (hstr : vk_R own is text sa s) (hat : ∀ w ∈ vx_atS own ic cls names, w.before args s = true)
    (hgood : ∀ w ∈ Cond.classLink own ik cls :: Cond.initialized cls :: vx_atS own ic cls names, vx_ot w = true)
    (hU : vx_Zq Jvm.Bundle.tN "UNASSIGNED_STACK" Jvm.Bundle.steD A s s.heap) (hN : vx_Zq Jvm.Bundle.tN "SUPPRESSED_SENTINEL" Jvm.Bundle.listD A s s.heap) (hS : va_S A s.heap H locs) (hsize : ls.size = c.maxLocals)
    (d0 : decode cc pc = .ok (.new ik, 3)) (d3 : decode cc (pc + 3) = .ok (.dup, 1)) (d4 : decode cc (pc + 4) = .ok (.ldc is, 2)) (d6 : decode cc (pc + 6) = .ok (.invokespecial ic, 3)) (d9 : decode cc (pc + 9) = .ok (.athrow, 1))
    (hout : ∀ x ∈ c.exceptionTable.toList, covers x (pc + 9) = false)
    (hRframes : names.length + 3 < R.frames) (hRlocals : (rest.map fun v => v.category).sum + (13 * (names.length + 1) + 43) ≤ R.locals) (hRcells : cells + 1 ≤ R.cells) (hRslots : slots + 6 ≤ R.slots) (hlocks : meth.locks = false)
    (hx : ∀ t : State, s.vm.Alike t.vm → H.size ≤ t.heap.size → (∀ q : Nat, q < H.size → t.heap[q]? = H[q]?) → XC cls s t)
    (hf : ∀ z ∈ locs, free z.base) (hc : cells + 1 ≤ mc) (hs : slots + 6 ≤ ms) :
    W p l e R s m args below meth c H locs cells slots (vx_MQ below Qc XC args s mc ms free) (F0 m pc ls rest) := by
  intro T hT X
  have htr : e.platform.stackTraces = false := (show e.platform.stackTraces = l.stackTraces by rw [X.admits.platform]).trans hl
  have Y := vx_rebase X (R' := { frames := R.frames, locals := R.locals, cells := 1, slots := 6 }) (Nat.le_refl _) (Nat.le_refl _) hRcells hRslots
  obtain ⟨s', hA⟩ : ∃ z, z = (T.setVm s.vm).setFrames (.invoking m args :: below) := ⟨_, rfl⟩
  rw [← hA] at Y
  have hvm : s'.vm = s.vm := by rw [hA]; rfl
  have hhp : s'.heap = H := by rw [hA]; exact hT
  have hW0 : s.WarmedH s'.vm := by rw [hvm]; exact State.WarmedH.refl s
  have hat' : ∀ w ∈ vx_atS own ic cls names, w.before args s' = true := fun w hw => vx_ot_at hW0 hvm.symm (hgood w (List.mem_cons_of_mem _ (List.mem_cons_of_mem _ hw))) (hat w hw)
  have hk' : (Cond.classLink own ik cls).before args s' = true := vx_ot_at hW0 hvm.symm (hgood _ List.mem_cons_self) hk
  have hini' : (Cond.initialized cls).before args s' = true := vx_ot_at hW0 hvm.symm (hgood _ (List.mem_cons_of_mem _ List.mem_cons_self)) hini
  have hU' : vx_Zq Jvm.Bundle.tN "UNASSIGNED_STACK" Jvm.Bundle.steD A s' s'.heap := by rw [hhp]; exact vx_Zq.moved hW0.alike (hU.kept hS.2.1)
  have hN' : vx_Zq Jvm.Bundle.tN "SUPPRESSED_SENTINEL" Jvm.Bundle.listD A s' s'.heap := by rw [hhp]; exact vx_Zq.moved hW0.alike (hN.kept hS.2.1)
  have h : ∀ w ∈ Jvm.Bundle.ownAtoms own ic cls names, w.before args s' = true := vx_own hat' (vx_isRefq hU'.1) (vx_isRefq hN'.1) hU'.2.word hN'.2.word
  have hown' : s'.vm.findClass own = some m.cls := by rw [hvm]; exact hown
  have hins : (Cond.instantiable cls 6).before args s' = true := h _ (by simp [Jvm.Bundle.ownAtoms])
  obtain ⟨vm₁, cX, kX, hfX, hkX, -, -, X₁, st1⟩ := Y.newCold hexec (own := own) (C := cls) (index := ik) (n := 6) hown' hk' hins hini'
    (g := F0 m pc ls rest) rfl (by rw [hb]; exact d0) (Nat.le_refl _) (Nat.le_refl _)
  generalize hT1 : (T.setVm vm₁).pushCell { cls := cX, slots := kX.instanceTypes.map defaultValue, vm := .none } = T1 at X₁ st1
  have hcat : (Value.ref T.heap.size).category = 1 := rfl
  have hcellA : T1.heap[T.heap.size]? = some (freshCell cX kX) := by rw [← hT1]; exact State.heap_pushCell_size _ _
  have d3' : decode c.code (pc + 3) = .ok (.dup, 1) := by rw [hb]; exact d3
  have d4' : decode c.code (pc + 4) = .ok (.ldc is, 2) := by rw [hb]; exact d4
  have hstr' : vk_R own is text sa s' := vk_R.warm hW0 hstr
  obtain ⟨U, hsteps, hrun, hend, hW, hsame, ce, hce, hO⟩ := X₁.ctorThrowS hexec htr (own := own) (cls := cls) (names := names) (ic := ic) hown' hcls hnames h (fun x hx => nomatch hx) hfX hkX hcellA (by rw [hhp, hT]; exact Nat.le_refl _) (msg := .ref sa) rfl
    (g := { method := m, pc := pc + 6, locals := ls, stack := .ref sa :: .ref T.heap.size :: .ref T.heap.size :: rest, locked := none }) rfl hsize rfl rfl (rest := rest) rfl
    (by rw [hb]; exact d6) (by rw [hb]; exact d9) hout hRframes (by simp only [List.map_cons, List.sum_cons, hcat]; omega) hlocks
  obtain ⟨f1, f2⟩ := vx_frame hsame
  rw [hhp] at f1 f2
  have hWs : s.WarmedH U.vm := State.WarmedH.trans hW0 hW
  have hcl : s.vm.findClass cls = some ce.cls := by
    have h9 := hO.cls
    rw [hvm] at h9
    exact h9
  have hall : s.sameButNew ({ U with vm := s.vm } : State) locs mc ms := by
    subst hA
    obtain ⟨e1, e2⟩ := hsame
    rw [State.setFrames_setFrames] at e1
    have h2 : (T.setVm s.vm).sameButNew ({ U with vm := s.vm } : State) [] (0 + 1) (0 + 6) := ⟨e1, e2⟩
    have h3 := X.same.trans h2
    rw [List.append_nil] at h3
    exact h3.mono hc hs
  refine ⟨U, ?_, .threw T.heap.size, hrun, hend, Or.inr ⟨T.heap.size, rfl, cls, ce, locs, hx U hWs.alike f1 (fun q hq => f2 q hq (fun z hz => nomatch hz)), hce, hO.vm, hcl, hWs, hall, hf⟩⟩
  refine st1 _ ?_
  show Steps p.tables e below (T1.setTop { method := m, pc := pc + 3, locals := ls, stack := .ref T.heap.size :: rest, locked := none }) _
  jvm_step X₁.here [X₁.here.top, hexec, d3', Value.category]
  exact X₁.ldcString hexec (own := own) (text := text) (index := is) (a := sa) hown' hstr'.1 hstr'.2
    (g := { method := m, pc := pc + 4, locals := ls, stack := .ref T.heap.size :: .ref T.heap.size :: rest, locked := none }) rfl d4' _ hsteps
/-- 'throw new E("text")', the text by a wide index -/
theorem vx_throwSW {cc : ByteArray} {pc : Nat} (hexec : p.tables.exec = Jvm.exec) (hb : c.code = cc) (hl : l.stackTraces = false) {own cls text : String} {names : List String} {ik is ic mc ms sa : Nat} {A : Nat → Prop}
    (hown : s.vm.findClass own = some m.cls) (hcls : Jvm.Bundle.fit cls = true) (hnames : ∀ n ∈ names, Jvm.Bundle.fit n = true)
    (hk : (Cond.classLink own ik cls).before args s = true) (hini : (Cond.initialized cls).before args s = true) (hstr : vk_R own is text sa s) (hat : ∀ w ∈ vx_atS own ic cls names, w.before args s = true)
    (hgood : ∀ w ∈ Cond.classLink own ik cls :: Cond.initialized cls :: vx_atS own ic cls names, vx_ot w = true)
    (hU : vx_Zq Jvm.Bundle.tN "UNASSIGNED_STACK" Jvm.Bundle.steD A s s.heap) (hN : vx_Zq Jvm.Bundle.tN "SUPPRESSED_SENTINEL" Jvm.Bundle.listD A s s.heap) (hS : va_S A s.heap H locs) (hsize : ls.size = c.maxLocals)
    (d0 : decode cc pc = .ok (.new ik, 3)) (d3 : decode cc (pc + 3) = .ok (.dup, 1)) (d4 : decode cc (pc + 4) = .ok (.ldc_w is, 3)) (d7 : decode cc (pc + 7) = .ok (.invokespecial ic, 3)) (d10 : decode cc (pc + 10) = .ok (.athrow, 1))
    (hout : ∀ x ∈ c.exceptionTable.toList, covers x (pc + 10) = false)
    (hRframes : names.length + 3 < R.frames) (hRlocals : (rest.map fun v => v.category).sum + (13 * (names.length + 1) + 43) ≤ R.locals) (hRcells : cells + 1 ≤ R.cells) (hRslots : slots + 6 ≤ R.slots) (hlocks : meth.locks = false)
    (hx : ∀ t : State, s.vm.Alike t.vm → H.size ≤ t.heap.size → (∀ q : Nat, q < H.size → t.heap[q]? = H[q]?) → XC cls s t)
    (hf : ∀ z ∈ locs, free z.base) (hc : cells + 1 ≤ mc) (hs : slots + 6 ≤ ms) :
    W p l e R s m args below meth c H locs cells slots (vx_MQ below Qc XC args s mc ms free) (F0 m pc ls rest) := by
  intro T hT X
  have htr : e.platform.stackTraces = false := (show e.platform.stackTraces = l.stackTraces by rw [X.admits.platform]).trans hl
  have Y := vx_rebase X (R' := { frames := R.frames, locals := R.locals, cells := 1, slots := 6 }) (Nat.le_refl _) (Nat.le_refl _) hRcells hRslots
  obtain ⟨s', hA⟩ : ∃ z, z = (T.setVm s.vm).setFrames (.invoking m args :: below) := ⟨_, rfl⟩
  rw [← hA] at Y
  have hvm : s'.vm = s.vm := by rw [hA]; rfl
  have hhp : s'.heap = H := by rw [hA]; exact hT
  have hW0 : s.WarmedH s'.vm := by rw [hvm]; exact State.WarmedH.refl s
  have hat' : ∀ w ∈ vx_atS own ic cls names, w.before args s' = true := fun w hw => vx_ot_at hW0 hvm.symm (hgood w (List.mem_cons_of_mem _ (List.mem_cons_of_mem _ hw))) (hat w hw)
  have hk' : (Cond.classLink own ik cls).before args s' = true := vx_ot_at hW0 hvm.symm (hgood _ List.mem_cons_self) hk
  have hini' : (Cond.initialized cls).before args s' = true := vx_ot_at hW0 hvm.symm (hgood _ (List.mem_cons_of_mem _ List.mem_cons_self)) hini
  have hU' : vx_Zq Jvm.Bundle.tN "UNASSIGNED_STACK" Jvm.Bundle.steD A s' s'.heap := by rw [hhp]; exact vx_Zq.moved hW0.alike (hU.kept hS.2.1)
  have hN' : vx_Zq Jvm.Bundle.tN "SUPPRESSED_SENTINEL" Jvm.Bundle.listD A s' s'.heap := by rw [hhp]; exact vx_Zq.moved hW0.alike (hN.kept hS.2.1)
  have h : ∀ w ∈ Jvm.Bundle.ownAtoms own ic cls names, w.before args s' = true := vx_own hat' (vx_isRefq hU'.1) (vx_isRefq hN'.1) hU'.2.word hN'.2.word
  have hown' : s'.vm.findClass own = some m.cls := by rw [hvm]; exact hown
  have hins : (Cond.instantiable cls 6).before args s' = true := h _ (by simp [Jvm.Bundle.ownAtoms])
  obtain ⟨vm₁, cX, kX, hfX, hkX, -, -, X₁, st1⟩ := Y.newCold hexec (own := own) (C := cls) (index := ik) (n := 6) hown' hk' hins hini'
    (g := F0 m pc ls rest) rfl (by rw [hb]; exact d0) (Nat.le_refl _) (Nat.le_refl _)
  generalize hT1 : (T.setVm vm₁).pushCell { cls := cX, slots := kX.instanceTypes.map defaultValue, vm := .none } = T1 at X₁ st1
  have hcat : (Value.ref T.heap.size).category = 1 := rfl
  have hcellA : T1.heap[T.heap.size]? = some (freshCell cX kX) := by rw [← hT1]; exact State.heap_pushCell_size _ _
  have d3' : decode c.code (pc + 3) = .ok (.dup, 1) := by rw [hb]; exact d3
  have d4' : decode c.code (pc + 4) = .ok (.ldc_w is, 3) := by rw [hb]; exact d4
  have hstr' : vk_R own is text sa s' := vk_R.warm hW0 hstr
  obtain ⟨U, hsteps, hrun, hend, hW, hsame, ce, hce, hO⟩ := X₁.ctorThrowS hexec htr (own := own) (cls := cls) (names := names) (ic := ic) hown' hcls hnames h (fun x hx => nomatch hx) hfX hkX hcellA (by rw [hhp, hT]; exact Nat.le_refl _) (msg := .ref sa) rfl
    (g := { method := m, pc := pc + 7, locals := ls, stack := .ref sa :: .ref T.heap.size :: .ref T.heap.size :: rest, locked := none }) rfl hsize rfl rfl (rest := rest) rfl
    (by rw [hb]; exact d7) (by rw [hb]; exact d10) hout hRframes (by simp only [List.map_cons, List.sum_cons, hcat]; omega) hlocks
  obtain ⟨f1, f2⟩ := vx_frame hsame
  rw [hhp] at f1 f2
  have hWs : s.WarmedH U.vm := State.WarmedH.trans hW0 hW
  have hcl : s.vm.findClass cls = some ce.cls := by
    have h9 := hO.cls
    rw [hvm] at h9
    exact h9
  have hall : s.sameButNew ({ U with vm := s.vm } : State) locs mc ms := by
    subst hA
    obtain ⟨e1, e2⟩ := hsame
    rw [State.setFrames_setFrames] at e1
    have h2 : (T.setVm s.vm).sameButNew ({ U with vm := s.vm } : State) [] (0 + 1) (0 + 6) := ⟨e1, e2⟩
    have h3 := X.same.trans h2
    rw [List.append_nil] at h3
    exact h3.mono hc hs
  refine ⟨U, ?_, .threw T.heap.size, hrun, hend, Or.inr ⟨T.heap.size, rfl, cls, ce, locs, hx U hWs.alike f1 (fun q hq => f2 q hq (fun z hz => nomatch hz)), hce, hO.vm, hcl, hWs, hall, hf⟩⟩
  refine st1 _ ?_
  show Steps p.tables e below (T1.setTop { method := m, pc := pc + 3, locals := ls, stack := .ref T.heap.size :: rest, locked := none }) _
  jvm_step X₁.here [X₁.here.top, hexec, d3', Value.category]
  exact X₁.ldcStringW hexec (own := own) (text := text) (index := is) (a := sa) hown' hstr'.1 hstr'.2
    (g := { method := m, pc := pc + 4, locals := ls, stack := .ref T.heap.size :: .ref T.heap.size :: rest, locked := none }) rfl d4' _ hsteps
end Ends
section Bodies
variable {l : Launch}
theorem vx_ofW {y : MethodName} {ws ws' : List Cond} {rm : Room} {Pc : Array Value → State → Prop} {Qc : Array Value → State → Outcome → State → Prop} {XC : String → State → State → Prop} {mc ms : Nat} {free : Addr → Prop} {cc : ByteArray} {maxL : Nat} {ret : Option FieldType}
    (hy : plainName y.cls = true) (hw : ws = Cond.code y cc maxL ret :: ws')
    (body : ∀ p e s m args below meth c s₁, BodyLoose p l y (headSpec ws rm) cc maxL ret e s m args below meth c s₁ → c.maxLocals = maxL → (∀ x ∈ c.exceptionTable.toList, False) → Pc args s →
      W p l e (headSpec ws rm).room s m args below meth c s.heap [] 0 0 (vx_MQ below Qc XC args s mc ms free) (entryFrame m args maxL)) : vx_Met l y ws rm Pc Qc XC mc ms free := by
  refine MetFree.of_bodyS (code := cc) (maxLocals := maxL) (ret := ret) hy ?_ ?_
  · intro args s m h hn
    obtain ⟨meth, c, h1, h2, h3, h4, h5, h6, -, -⟩ := Cond.code_spec hn (atoms_spec (ws := ws) h _ (by rw [hw]; exact List.mem_cons_self))
    exact ⟨meth, c, h1, h2, h3, h4, h5, h6⟩
  · intro p e s m args below meth c s₁ B hml hP _
    have hh0 : s₁.heap = s.heap := by rw [B.state]; rfl
    have ht : ∀ x ∈ c.exceptionTable.toList, False := by
      obtain ⟨meth9, c9, h1, h2, -, -, -, -, h7, -⟩ := Cond.code_spec B.named (atoms_spec (ws := ws) B.pre _ (by rw [hw]; exact List.mem_cons_self))
      cases Option.some.inj (h1.symm.trans B.method)
      cases Option.some.inj (h2.symm.trans (Stand.of_body B).code)
      intro x hx
      rw [Array.isEmpty_iff.mp h7] at hx
      cases hx
    obtain ⟨t, a1, o, b1, b2, b3⟩ := body p e s m args below meth c s₁ B hml ht hP s₁ hh0 (Stand.of_body B)
    exact ⟨t, o, a1, b1, b2, b3⟩
/-- the table of a body with handlers -/
theorem vx_table {p : Program} {x y : MethodName} {S : Spec} {cc bytes : ByteArray} {maxL maxL' : Nat} {ret ret' : Option FieldType} {e : Env} {s s₁ : State} {m : MethodId} {args : Array Value} {below : List Frame} {meth : Method} {c : Code} {hh : List (Nat × Nat × Nat × Nat)}
    (B : BodyLoose p l y S cc maxL ret e s m args below meth c s₁) (h : (Cond.codeWith y bytes maxL' ret' hh).before args s = true) : c.exceptionTable.toList = tableOf hh := by
  obtain ⟨m9, meth9, c9, hn9, h1, h2, -, -, h6, -⟩ := Cond.codeWith_spec h
  cases Option.some.inj (hn9.symm.trans B.named)
  cases Option.some.inj (h1.symm.trans B.method)
  cases Option.some.inj (h2.symm.trans (Stand.of_body B).code)
  rw [← h6, table_eq]
end Bodies
end VXA
/-! ===== END ===== -/
/-! ===== BEGIN a static call of a method with an exception table ===== -/
section VXS
variable {p : Program} {l : Launch} {e : Env} {R : Room} {s : State} {m : MethodId} {args : Array Value} {below : List Frame} {meth : Method} {c : Code} {T : State} {H : Heap} {locs : List Loc} {cells slots : Nat}
abbrev vx_CSW (R : Room) (s : State) (args : Array Value) (own : String) (index : Nat) (y : MethodName) (bytes : ByteArray) (maxL : Nat) (ret : Option FieldType) (hh : List (Nat × Nat × Nat × Nat)) (ws : List Cond) (rm : Room) (mc ms n : Nat) : Prop :=
  (rm.cells = mc ∧ rm.slots = ms ∧ rm.frames + 1 ≤ R.frames ∧ 8 + (maxL + 11) + rm.locals ≤ R.locals ∧ (∀ w ∈ ws, ∀ (a' : Array Value) (U : State), s.WarmedH U.vm → w.before a' U = true) ∧ Cond.codeWith y bytes maxL ret hh ∈ ws) ∧
  (Cond.codeWith y bytes maxL ret hh).before args s = true ∧ (Cond.initialized y.cls).before args s = true ∧ (y.cls ≠ "java/lang/invoke/MethodHandle" ∧ y.cls ≠ "java/lang/invoke/VarHandle") ∧
  (∀ sig, parseMethodDescriptor y.desc = some sig → n = sig.parameters.length) ∧ (Cond.methodLink own index y).before args s = true ∧ (Cond.static y).before args s = true
theorem vx_cwSW {own : String} {index maxL mc ms : Nat} {y : MethodName} {bytes : ByteArray} {ret : Option FieldType} {hh : List (Nat × Nat × Nat × Nat)} {Ts ws ws' : List Cond} {rm : Room} (n : Nat) (ht : ∀ w ∈ Ts, w.before args s = true) (hT : GoodIn Ts (va_wsS own index y ws)) (hw : ws = Cond.codeWith y bytes maxL ret hh :: ws') (hrc : rm.cells = mc) (hrs : rm.slots = ms)
    (hd : y.cls ≠ "java/lang/invoke/MethodHandle" ∧ y.cls ≠ "java/lang/invoke/VarHandle" ∧ (parseMethodDescriptor y.desc).map (fun d => d.parameters.length) = some n) (hR : rm.frames + 1 ≤ R.frames ∧ 8 + (maxL + 11) + rm.locals ≤ R.locals) :
    vx_CSW R s args own index y bytes maxL ret hh ws rm mc ms n := by
  have ok : ∀ w ∈ va_wsS own index y ws, w.before args s = true := fun w h => ht w (hT w h).1
  have hG : GoodIn Ts ws := fun w h => hT w (by unfold va_wsS; exact List.mem_append_right _ h)
  have hc : Cond.codeWith y bytes maxL ret hh ∈ ws := by rw [hw]; exact List.mem_cons_self
  refine ⟨⟨hrc, hrs, hR.1, hR.2, pay_in ht hG, hc⟩, ht _ (hG _ hc).1, ok _ (by simp [va_wsS]), ⟨hd.1, hd.2.1⟩, fun sig h => ?_, ok _ (by simp [va_wsS]), ok _ (by simp [va_wsS])⟩
  have h2 := hd.2.2
  rw [h] at h2
  exact (Option.some.inj h2).symm
theorem vx_callSW (X : Stand p l e R s m args below meth c T locs cells slots) (hexec : p.tables.exec = Jvm.exec) {own : String} {index : Nat} {y : MethodName} {bytes : ByteArray} {maxL : Nat} {ret : Option FieldType} {hh : List (Nat × Nat × Nat × Nat)}
    (hown : s.vm.findClass own = some m.cls) (hlink : (Cond.methodLink own index y).before args s = true) (hstat : (Cond.static y).before args s = true) (hinit : (Cond.initialized y.cls).before args s = true)
    (hcode : (Cond.codeWith y bytes maxL ret hh).before args s = true) (hy : y.cls ≠ "java/lang/invoke/MethodHandle" ∧ y.cls ≠ "java/lang/invoke/VarHandle")
    {W9 : Nat} {Pre : Pt → Array Value → Prop} {Post : Pt → Array Value → Option Value → Pt → Prop} (hK : Back l R p e below s args y 3 W9 Pre Post)
    {g : JFrame} (hg : g.method = m) (hsize : g.locals.size = c.maxLocals) {argsL rest : List Value} (hlen : ∀ sig, parseMethodDescriptor y.desc = some sig → argsL.length = sig.parameters.length)
    (hstack : g.stack = argsL.reverse ++ rest) (hW : 2 * g.monitorRoom + (rest.map fun v => v.category).sum ≤ W9) (hdg : decode c.code g.pc = .ok (.invokestatic index, 3))
    (hpre : ∀ vm₁, s.WarmedH vm₁ → Pre ⟨T.setVm vm₁, locs, cells, slots⟩ argsL.toArray) :
    ∃ (v : Option Value) (vm₁ : Vm) (B : Pt), s.WarmedH vm₁ ∧ Stand p l e R s m args below meth c B.U B.locs B.cells B.slots ∧ Post ⟨T.setVm vm₁, locs, cells, slots⟩ argsL.toArray v B ∧
      ∀ target, Steps p.tables e below (B.U.setTop { g with pc := g.pc + 3, stack := v.toList ++ rest }) target → Steps p.tables e below (T.setTop g) target := by
  obtain ⟨mk, methM, cM, hnamed, hmethM, -, -, -, -, -, -, hsigM⟩ := Cond.codeWith_spec hcode
  have hstatic : methM.isStatic = true := Cond.static_spec hnamed hmethM hstat
  obtain ⟨kP, hkP, -⟩ := className_of_methodNamed hnamed
  have hinitP : kP.init = .initialized := Cond.initialized_spec (findClass_of_methodNamed hnamed) hkP hinit
  obtain ⟨vm₁, X₁, hstep₁⟩ := X.invokestatic hexec hown hlink hnamed hmethM hstatic hkP hinitP hy (g := g) hg (argsL := argsL) (rest := rest) (hlen _ hsigM) hstack hdg
  obtain ⟨v, B, X', hpost, hsteps⟩ := hK m meth c ⟨T.setVm vm₁, locs, cells, slots⟩ { g with stack := rest } (.invokestatic index) mk argsL.toArray X₁ hg hsize hdg hW (X₁.named hnamed) (hpre vm₁ X₁.warmed)
  exact ⟨v, vm₁, B, X₁.warmed, X', hpost, fun target h => hstep₁ _ fun acts => by rw [doInvoke_state]; exact hsteps.trans h⟩
theorem vx_runSW {y : MethodName} {bytes cc : ByteArray} {maxL nL mc ms n index : Nat} {ret : Option FieldType} {hh : List (Nat × Nat × Nat × Nat)} {ws : List Cond} {rm : Room} {Pc : Array Value → State → Prop} {Qc : Array Value → State → Outcome → State → Prop} {free : Addr → Prop} {Ts : List Cond} {own : String} {As rest : List Value} {g : JFrame}
    (S : CallFix p m c cc nL s args Ts own) (hM : Met l y ws rm Pc Qc mc ms free) (cw : vx_CSW R s args own index y bytes maxL ret hh ws rm mc ms n) (hp : PreS s H Pc As)
    (hg : g.method = m) (hn : As.length = n) (hsize : g.locals.size = nL) (hstack : g.stack = As.reverse ++ rest) (hW : 2 * g.monitorRoom + (rest.map fun v => v.category).sum ≤ 8) (hdg : decode cc g.pc = .ok (.invokestatic index, 3)) (hf : cells + mc ≤ R.cells ∧ slots + ms ≤ R.slots) :
    va_Run p l e R s m args below meth c H locs cells slots mc ms g rest (Qc As.toArray) (free) := by
  obtain ⟨⟨hrc, hrs, hfr, hlo, hws, hcw⟩, hcode, hini, hy, hlen, hl, hstt⟩ := cw
  have hK : Back l R p e below s args y 3 8 (PreOf R mc ms Pc) (PostOf Qc mc ms free) := va_backW (hh := hh) (bytes := bytes) (maxL := maxL) (ret := ret) hM hp.1 hrc hrs hfr hlo hws hcw (fun a' U hW => word_at hW (Or.inl (by first | rfl | simp [Cond.onTables, Cond.keeps, Cond.steady])) hini)
  obtain ⟨hx, hb, hml, ho, -⟩ := S
  intro T hT X
  obtain ⟨v, vm₁, ⟨U', l2, c2, s2⟩, hW₁, X', ⟨g', mk, t, L, e1, e2, hq, h1, hL, h2, h3⟩, st⟩ := vx_callSW X hx (hh := hh) (bytes := bytes) (maxL := maxL) (ret := ret) ho hl hstt hini hcode hy hK hg (hsize.trans hml.symm) (argsL := As) (rest := rest) (fun sig h => hn.trans (hlen sig h)) hstack hW (by rw [hb]; exact hdg)
    (fun vm₁ hW₁ => ⟨hf.1, hf.2, hp.2 (T.setVm vm₁) hT hW₁⟩)
  dsimp only [Pt.U, Pt.locs, Pt.cells, Pt.slots] at X' e1 e2 h1 h2 h3 st
  subst h1; subst h2; subst h3
  exact ⟨v, (T.setVm vm₁).calling g' mk As.toArray, t, U', L, hT, X', hL, e1, e2, hq, st⟩
/-- a thing of a world lies in the heap -/
theorem vx_lt {D : va_G} {cl : List vw_C} {ws : va_W} {H1 : Heap} (h : va_P D cl ws H1) {k : Nat} {q : Nat × va_E} (hk : ws[k]? = some q) : q.1 < H1.size := (h k q hk).lt
end VXS
/-! ===== END ===== -/
/-! ===== BEGIN methods with a table of their own: called by a name, returning or throwing ===== -/
section VXH
/-! vx_backW, vx_callVX, vx_callSX, vx_callVW, vx_runVW, vx_runVX, vx_runSX, vx_ofWH follow the same proofs as their sisters above (Free/Laws.lean, Shelf42/LK1.lean); vx_outP calls Shelf42/NT130.lean (outThrough). -/
section
variable {l : Launch} {R : Room} {p : Program} {e : Env} {below : List Frame} {s : State} {sargs : Array Value} {y : MethodName} {len W9 : Nat}
theorem vx_backW {ws : List Cond} {rm : Room} {Pc : Array Value → State → Prop} {Qc : Array Value → State → Outcome → State → Prop} {XC : String → State → State → Prop} {mc ms : Nat} {free : Addr → Prop} {bytes : ByteArray} {maxL : Nat} {ret : Option FieldType} {hh : List (Nat × Nat × Nat × Nat)}
    (hM : vx_Met l y ws rm Pc Qc XC mc ms free) (hblind : FrameBlind Pc) (hrc : rm.cells = mc) (hrs : rm.slots = ms)
    (hframes : rm.frames + 1 ≤ R.frames) (hlocals : W9 + (maxL + 11) + rm.locals ≤ R.locals)
    (hws : ∀ w ∈ ws, ∀ a' U, s.WarmedH U.vm → w.before a' U = true) (hcode : Cond.codeWith y bytes maxL ret hh ∈ ws) (hinit : ∀ a' U, s.WarmedH U.vm → (Cond.initialized y.cls).before a' U = true) :
    vx_Back l R p e below s sargs y len W9 (PreOf R mc ms Pc) (PostOf Qc mc ms free) (vx_Post XC mc ms free) := by
  intro m meth c A g ig mk a X hg hsize hdg hW hn hp
  have h1 : (headSpec ws rm).pre.before a A.U = true := atoms_intro fun w hw => hws w hw _ _ X.warmed
  have h2 : (Cond.codeWith y bytes maxL ret hh).before a A.U = true := hws _ hcode _ _ X.warmed
  have h3 : (Cond.initialized y.cls).before a A.U = true := hinit _ _ X.warmed
  have h4 : A.cells + (headSpec ws rm).room.cells ≤ R.cells := by rw [show (headSpec ws rm).room.cells = mc from hrc]; exact hp.1
  have h5 : A.slots + (headSpec ws rm).room.slots ≤ R.slots := by rw [show (headSpec ws rm).room.slots = ms from hrs]; exact hp.2.1
  have hPc : Pc a (A.U.calling g mk a) := hblind _ _ _ _ hp.2.2
  obtain ⟨U, Ls, c0, s0⟩ := A
  dsimp only [Pt.U, Pt.locs, Pt.cells, Pt.slots] at h1 h2 h3 h4 h5 X hn hPc ⊢
  obtain ⟨m9, methY, cY, hn9, hmY, hcY, -, hlY, -⟩ := Cond.codeWith_spec h2
  cases Option.some.inj (hn9.symm.trans hn)
  obtain ⟨kY, hkY, -⟩ := className_of_methodNamed hn
  have hinitY : kY.init = .initialized := Cond.initialized_spec (findClass_of_methodNamed hn) hkY h3
  have h : At U g.method c below := by rw [hg]; exact X.here
  have hlocals9 : W9 + (maxL + 11) + (headSpec ws rm).room.locals ≤ R.locals := hlocals
  have happ : (headSpec ws rm).appliesLoose y e.platform (U.calling g mk a) = true :=
    Spec.appliesLoose_calling (g := g) h hdg hn hkY hinitY
      (X.room_calling (g := g) (R' := (headSpec ws rm).room) hsize hmY hcY hframes (by rw [hlY]; omega) h4 h5) h1
  obtain ⟨mid, hmid⟩ := h.above
  have hfr : (U.setTop g).frames = (.java g :: mid) ++ below := by rw [State.frames_setTop' g h.top, hmid]; rfl
  obtain ⟨o, s₂, hsteps, -, hend, hq⟩ := Steps.callFree hM p X.admits X.cas X.clock (acts := []) hfr happ hPc trivial
  have hq' : vx_Q Qc XC mc ms free a (U.calling g mk a) o s₂ := hq
  rw [State.frames_setTop' g h.top] at hend
  obtain ⟨g₀, hg0⟩ := Option.isSome_iff_exists.mp h.top
  obtain ⟨r, hr⟩ := State.topJava?_eq_some.mp hg0
  have hr' : (({ U with heap := s₂.heap, slotsUsed := s₂.slotsUsed } : State).setVm s₂.vm).frames = .java g₀ :: r := hr
  rcases hq' with ⟨hqc, L, hfe, hL⟩ | ⟨q, rfl, E, ce, L, hx, hce, hcv, hcl, hW₂, hsm, hL⟩
  · obtain ⟨⟨v, rfl⟩, hW₂, e2, q2, q3, q4, q5, q6⟩ := id hfe
    have e3 : s₂ = ({ (U.calling g mk a).setFrames s₂.frames with heap := s₂.heap, slotsUsed := s₂.slotsUsed } : State).setVm s₂.vm := by
      have : s₂ = ({ s₂ with vm := (U.calling g mk a).vm } : State).setVm s₂.vm := rfl
      rw [e2] at this
      exact this
    obtain ⟨c₂, i₂, len₂, hc₂, hd₂, hf₂⟩ := hend
    have hW' : U.WarmedH s₂.vm := hW₂
    have hcc : c₂ = c := by
      have h1 : s₂.code? g.method = U.code? g.method := by
        rw [State.code?_eq, State.code?_eq, hW'.alike.method?]
      exact Option.some.inj (hc₂.symm.trans (h1.trans h.code))
    subst hcc
    have hlen : len₂ = len := by rw [hdg] at hd₂; cases hd₂; rfl
    subst hlen
    have hs₂ : s₂ = (({ U with heap := s₂.heap, slotsUsed := s₂.slotsUsed } : State).setVm s₂.vm).setTop { g with pc := g.pc + len₂, stack := v.toList ++ g.stack } := by
      refine e3.trans ?_
      rw [hf₂, State.calling_eq h.top, State.setFrames_setFrames, State.setTop_of_frames _ hr', hr]
      rfl
    have hsame : U.sameButNew ({ U with heap := s₂.heap, slotsUsed := s₂.slotsUsed } : State) L mc ms := by
      refine ⟨?_, q2, q3, q4, q5, q6⟩
      obtain ⟨t, ht, -⟩ := State.frames_cons hr
      show ({ U with heap := s₂.heap, slotsUsed := s₂.slotsUsed } : State) = { U.setFrames U.frames with heap := s₂.heap, slotsUsed := s₂.slotsUsed }
      rw [State.setFrames_self ht]
    subst hg
    refine Or.inl ⟨v, ⟨(({ U with heap := s₂.heap, slotsUsed := s₂.slotsUsed } : State).setVm s₂.vm), Ls ++ L, c0 + mc, s0 + ms⟩,
      ⟨X.admits, X.cas, X.clock, X.frames, X.room, X.hears, X.method, X.code, (X.here.setHeapUsed s₂.heap s₂.slotsUsed).setVm hW'.alike, X.tail, State.WarmedH.trans X.warmed hW', X.limits, X.bytes, X.same.trans (hsame.setVm s.vm)⟩,
      ⟨g, mk, s₂, L, rfl, rfl, hqc, rfl, hL, rfl, rfl⟩, ?_⟩
    show Steps p.tables e below _ ((({ U with heap := s₂.heap, slotsUsed := s₂.slotsUsed } : State).setVm s₂.vm).setTop { g with pc := g.pc + len₂, stack := v.toList ++ g.stack })
    rw [← hs₂]
    exact hsteps
  · obtain ⟨e2, q2, q3, q4, q5, q6⟩ := id hsm
    have e3 : s₂ = ({ (U.calling g mk a).setFrames s₂.frames with heap := s₂.heap, slotsUsed := s₂.slotsUsed } : State).setVm s₂.vm := by
      have : s₂ = ({ s₂ with vm := (U.calling g mk a).vm } : State).setVm s₂.vm := rfl
      rw [e2] at this
      exact this
    have hf₂ : s₂.frames = .throwing q :: .java g :: U.frames.tail := hend
    have hW' : U.WarmedH s₂.vm := hW₂
    have hs₂ : s₂ = ((({ U with heap := s₂.heap, slotsUsed := s₂.slotsUsed } : State).setVm s₂.vm).setTop g).pushFrame (.throwing q) := by
      refine e3.trans ?_
      rw [hf₂, State.calling_eq h.top, State.setFrames_setFrames, State.pushFrame, State.frames_setTop _ hr', State.setTop_of_frames _ hr', State.setFrames_setFrames, hr]
      rfl
    have hsame : U.sameButNew ({ U with heap := s₂.heap, slotsUsed := s₂.slotsUsed } : State) L mc ms := by
      refine ⟨?_, q2, q3, q4, q5, q6⟩
      obtain ⟨t, ht, -⟩ := State.frames_cons hr
      show ({ U with heap := s₂.heap, slotsUsed := s₂.slotsUsed } : State) = { U.setFrames U.frames with heap := s₂.heap, slotsUsed := s₂.slotsUsed }
      rw [State.setFrames_self ht]
    subst hg
    refine Or.inr ⟨q, ⟨(({ U with heap := s₂.heap, slotsUsed := s₂.slotsUsed } : State).setVm s₂.vm), Ls ++ L, c0 + mc, s0 + ms⟩,
      ⟨X.admits, X.cas, X.clock, X.frames, X.room, X.hears, X.method, X.code, (X.here.setHeapUsed s₂.heap s₂.slotsUsed).setVm hW'.alike, X.tail, State.WarmedH.trans X.warmed hW', X.limits, X.bytes, X.same.trans (hsame.setVm s.vm)⟩,
      ⟨g, mk, s₂, L, E, ce, rfl, rfl, hx, hce, hcv, hcl, rfl, hL, rfl, rfl⟩, ?_⟩
    show Steps p.tables e below _ (((({ U with heap := s₂.heap, slotsUsed := s₂.slotsUsed } : State).setVm s₂.vm).setTop g).pushFrame (.throwing q))
    rw [← hs₂]
    exact hsteps
end
variable {p : Program} {l : Launch} {e : Env} {R : Room} {s : State} {m : MethodId} {args : Array Value} {below : List Frame} {meth : Method} {c : Code} {T : State} {H : Heap} {locs : List Loc} {cells slots : Nat}
theorem vx_callVX (X : Stand p l e R s m args below meth c T locs cells slots) (hexec : p.tables.exec = Jvm.exec) {own C : String} {index : Nat} {y : MethodName} {bytes : ByteArray} {maxL : Nat} {ret : Option FieldType} {hh : List (Nat × Nat × Nat × Nat)}
    (hown : s.vm.findClass own = some m.cls) (hlink : (Cond.methodLink own index y).before args s = true) (hinst : (Cond.instanceMethod y).before args s = true) (hsel : (Cond.selects C y y).before args s = true)
    (hcode : (Cond.codeWith y bytes maxL ret hh).before args s = true) (hy : y.cls ≠ "java/lang/invoke/MethodHandle" ∧ y.cls ≠ "java/lang/invoke/VarHandle")
    {W9 : Nat} {Pre : Pt → Array Value → Prop} {Post : Pt → Array Value → Option Value → Pt → Prop} {PostX : Pt → Array Value → Addr → Pt → Prop} (hK : vx_Back l R p e below s args y 3 W9 Pre Post PostX)
    {b : Addr} {cellB : Cell} (hcell : T.heap[b]? = some cellB) (hobj : cellB.vm.isStatics = false) (hcls : s.vm.findClass C = some cellB.cls)
    {g : JFrame} (hg : g.method = m) (hsize : g.locals.size = c.maxLocals) {argsL rest : List Value} (hlen : ∀ sig, parseMethodDescriptor y.desc = some sig → argsL.length = sig.parameters.length)
    (hstack : g.stack = argsL.reverse ++ .ref b :: rest) (hW : 2 * g.monitorRoom + (rest.map fun v => v.category).sum ≤ W9) (hdg : decode c.code g.pc = .ok (.invokevirtual index, 3))
    (hpre : ∀ vm₁, s.WarmedH vm₁ → Pre ⟨T.setVm vm₁, locs, cells, slots⟩ (Value.ref b :: argsL).toArray) :
    (∃ (v : Option Value) (vm₁ : Vm) (B : Pt), s.WarmedH vm₁ ∧ Stand p l e R s m args below meth c B.U B.locs B.cells B.slots ∧ Post ⟨T.setVm vm₁, locs, cells, slots⟩ (Value.ref b :: argsL).toArray v B ∧
      ∀ target, Steps p.tables e below (B.U.setTop { g with pc := g.pc + 3, stack := v.toList ++ rest }) target → Steps p.tables e below (T.setTop g) target) ∨
    (∃ (q : Addr) (vm₁ : Vm) (B : Pt), s.WarmedH vm₁ ∧ Stand p l e R s m args below meth c B.U B.locs B.cells B.slots ∧ PostX ⟨T.setVm vm₁, locs, cells, slots⟩ (Value.ref b :: argsL).toArray q B ∧
      Steps p.tables e below (T.setTop g) ((B.U.setTop { g with stack := rest }).pushFrame (.throwing q))) := by
  obtain ⟨mk, methM, hnamed, hmethM, hstM, habM⟩ := Cond.instanceMethod_spec hinst
  obtain ⟨m8, methM', cM, hn8, hmethM', -, -, -, -, -, -, hsigM⟩ := Cond.codeWith_spec hcode
  cases Option.some.inj (hn8.symm.trans hnamed)
  cases hmethM.symm.trans hmethM'
  obtain ⟨c2, r2, m2, q1, q2, q3, q4, kP, hkP, hkPi⟩ := Cond.selects_spec hsel
  cases hcls.symm.trans q1
  cases (State.methodFound?_of_named hnamed hy).symm.trans q2
  cases hnamed.symm.trans q3
  have hselP : selectMethod e.platform s.vm cellB.cls mk = .method mk := by rw [Launch.admits_selectMethod X.admits]; exact q4
  obtain ⟨vm₁, X₁, hstep₁⟩ := X.invokevirtual hexec hown hlink hnamed hmethM hstM hkP hkPi hy (a := b) (cell := cellB) hcell
    (fun z h => by rw [h] at hobj; cases hobj) hselP hmethM habM hkP hkPi (g := g) hg (argsL := argsL) (rest := rest) (hlen _ hsigM) hstack hdg
  rcases hK m meth c ⟨T.setVm vm₁, locs, cells, slots⟩ { g with stack := rest } (.invokevirtual index) mk (Value.ref b :: argsL).toArray X₁ hg hsize hdg hW (X₁.named hnamed) (hpre vm₁ X₁.warmed) with ⟨v, B, X', hpost, hsteps⟩ | ⟨q, B, X', hpost, hsteps⟩
  · exact Or.inl ⟨v, vm₁, B, X₁.warmed, X', hpost, fun target h => hstep₁ _ fun acts => by rw [doInvoke_state]; exact hsteps.trans h⟩
  · exact Or.inr ⟨q, vm₁, B, X₁.warmed, X', hpost, hstep₁ _ fun acts => by rw [doInvoke_state]; exact hsteps⟩
theorem vx_callSX (X : Stand p l e R s m args below meth c T locs cells slots) (hexec : p.tables.exec = Jvm.exec) {own : String} {index : Nat} {y : MethodName} {bytes : ByteArray} {maxL : Nat} {ret : Option FieldType} {hh : List (Nat × Nat × Nat × Nat)}
    (hown : s.vm.findClass own = some m.cls) (hlink : (Cond.methodLink own index y).before args s = true) (hstat : (Cond.static y).before args s = true) (hinit : (Cond.initialized y.cls).before args s = true)
    (hcode : (Cond.codeWith y bytes maxL ret hh).before args s = true) (hy : y.cls ≠ "java/lang/invoke/MethodHandle" ∧ y.cls ≠ "java/lang/invoke/VarHandle")
    {W9 : Nat} {Pre : Pt → Array Value → Prop} {Post : Pt → Array Value → Option Value → Pt → Prop} {PostX : Pt → Array Value → Addr → Pt → Prop} (hK : vx_Back l R p e below s args y 3 W9 Pre Post PostX)
    {g : JFrame} (hg : g.method = m) (hsize : g.locals.size = c.maxLocals) {argsL rest : List Value} (hlen : ∀ sig, parseMethodDescriptor y.desc = some sig → argsL.length = sig.parameters.length)
    (hstack : g.stack = argsL.reverse ++ rest) (hW : 2 * g.monitorRoom + (rest.map fun v => v.category).sum ≤ W9) (hdg : decode c.code g.pc = .ok (.invokestatic index, 3))
    (hpre : ∀ vm₁, s.WarmedH vm₁ → Pre ⟨T.setVm vm₁, locs, cells, slots⟩ argsL.toArray) :
    (∃ (v : Option Value) (vm₁ : Vm) (B : Pt), s.WarmedH vm₁ ∧ Stand p l e R s m args below meth c B.U B.locs B.cells B.slots ∧ Post ⟨T.setVm vm₁, locs, cells, slots⟩ argsL.toArray v B ∧
      ∀ target, Steps p.tables e below (B.U.setTop { g with pc := g.pc + 3, stack := v.toList ++ rest }) target → Steps p.tables e below (T.setTop g) target) ∨
    (∃ (q : Addr) (vm₁ : Vm) (B : Pt), s.WarmedH vm₁ ∧ Stand p l e R s m args below meth c B.U B.locs B.cells B.slots ∧ PostX ⟨T.setVm vm₁, locs, cells, slots⟩ argsL.toArray q B ∧
      Steps p.tables e below (T.setTop g) ((B.U.setTop { g with stack := rest }).pushFrame (.throwing q))) := by
  obtain ⟨mk, methM, cM, hnamed, hmethM, -, -, -, -, -, -, hsigM⟩ := Cond.codeWith_spec hcode
  have hstatic : methM.isStatic = true := Cond.static_spec hnamed hmethM hstat
  obtain ⟨kP, hkP, -⟩ := className_of_methodNamed hnamed
  have hinitP : kP.init = .initialized := Cond.initialized_spec (findClass_of_methodNamed hnamed) hkP hinit
  obtain ⟨vm₁, X₁, hstep₁⟩ := X.invokestatic hexec hown hlink hnamed hmethM hstatic hkP hinitP hy (g := g) hg (argsL := argsL) (rest := rest) (hlen _ hsigM) hstack hdg
  rcases hK m meth c ⟨T.setVm vm₁, locs, cells, slots⟩ { g with stack := rest } (.invokestatic index) mk argsL.toArray X₁ hg hsize hdg hW (X₁.named hnamed) (hpre vm₁ X₁.warmed) with ⟨v, B, X', hpost, hsteps⟩ | ⟨q, B, X', hpost, hsteps⟩
  · exact Or.inl ⟨v, vm₁, B, X₁.warmed, X', hpost, fun target h => hstep₁ _ fun acts => by rw [doInvoke_state]; exact hsteps.trans h⟩
  · exact Or.inr ⟨q, vm₁, B, X₁.warmed, X', hpost, hstep₁ _ fun acts => by rw [doInvoke_state]; exact hsteps⟩
theorem vx_callVW (X : Stand p l e R s m args below meth c T locs cells slots) (hexec : p.tables.exec = Jvm.exec) {own C : String} {index : Nat} {y : MethodName} {bytes : ByteArray} {maxL : Nat} {ret : Option FieldType} {hh : List (Nat × Nat × Nat × Nat)}
    (hown : s.vm.findClass own = some m.cls) (hlink : (Cond.methodLink own index y).before args s = true) (hinst : (Cond.instanceMethod y).before args s = true) (hsel : (Cond.selects C y y).before args s = true)
    (hcode : (Cond.codeWith y bytes maxL ret hh).before args s = true) (hy : y.cls ≠ "java/lang/invoke/MethodHandle" ∧ y.cls ≠ "java/lang/invoke/VarHandle")
    {W9 : Nat} {Pre : Pt → Array Value → Prop} {Post : Pt → Array Value → Option Value → Pt → Prop} (hK : Back l R p e below s args y 3 W9 Pre Post)
    {b : Addr} {cellB : Cell} (hcell : T.heap[b]? = some cellB) (hobj : cellB.vm.isStatics = false) (hcls : s.vm.findClass C = some cellB.cls)
    {g : JFrame} (hg : g.method = m) (hsize : g.locals.size = c.maxLocals) {argsL rest : List Value} (hlen : ∀ sig, parseMethodDescriptor y.desc = some sig → argsL.length = sig.parameters.length)
    (hstack : g.stack = argsL.reverse ++ .ref b :: rest) (hW : 2 * g.monitorRoom + (rest.map fun v => v.category).sum ≤ W9) (hdg : decode c.code g.pc = .ok (.invokevirtual index, 3))
    (hpre : ∀ vm₁, s.WarmedH vm₁ → Pre ⟨T.setVm vm₁, locs, cells, slots⟩ (Value.ref b :: argsL).toArray) :
    ∃ (v : Option Value) (vm₁ : Vm) (B : Pt), s.WarmedH vm₁ ∧ Stand p l e R s m args below meth c B.U B.locs B.cells B.slots ∧ Post ⟨T.setVm vm₁, locs, cells, slots⟩ (Value.ref b :: argsL).toArray v B ∧
      ∀ target, Steps p.tables e below (B.U.setTop { g with pc := g.pc + 3, stack := v.toList ++ rest }) target → Steps p.tables e below (T.setTop g) target := by
  obtain ⟨mk, methM, hnamed, hmethM, hstM, habM⟩ := Cond.instanceMethod_spec hinst
  obtain ⟨m8, methM', cM, hn8, hmethM', -, -, -, -, -, -, hsigM⟩ := Cond.codeWith_spec hcode
  cases Option.some.inj (hn8.symm.trans hnamed)
  cases hmethM.symm.trans hmethM'
  obtain ⟨c2, r2, m2, q1, q2, q3, q4, kP, hkP, hkPi⟩ := Cond.selects_spec hsel
  cases hcls.symm.trans q1
  cases (State.methodFound?_of_named hnamed hy).symm.trans q2
  cases hnamed.symm.trans q3
  have hselP : selectMethod e.platform s.vm cellB.cls mk = .method mk := by rw [Launch.admits_selectMethod X.admits]; exact q4
  obtain ⟨vm₁, X₁, hstep₁⟩ := X.invokevirtual hexec hown hlink hnamed hmethM hstM hkP hkPi hy (a := b) (cell := cellB) hcell
    (fun z h => by rw [h] at hobj; cases hobj) hselP hmethM habM hkP hkPi (g := g) hg (argsL := argsL) (rest := rest) (hlen _ hsigM) hstack hdg
  obtain ⟨v, B, X', hpost, hsteps⟩ := hK m meth c ⟨T.setVm vm₁, locs, cells, slots⟩ { g with stack := rest } (.invokevirtual index) mk (Value.ref b :: argsL).toArray X₁ hg hsize hdg hW (X₁.named hnamed) (hpre vm₁ X₁.warmed)
  exact ⟨v, vm₁, B, X₁.warmed, X', hpost, fun target h => hstep₁ _ fun acts => by rw [doInvoke_state]; exact hsteps.trans h⟩
abbrev vx_CVW (R : Room) (s : State) (args : Array Value) (own C : String) (index : Nat) (y : MethodName) (bytes : ByteArray) (maxL : Nat) (ret : Option FieldType) (hh : List (Nat × Nat × Nat × Nat)) (ws : List Cond) (rm : Room) (mc ms n : Nat) : Prop :=
  (rm.cells = mc ∧ rm.slots = ms ∧ rm.frames + 1 ≤ R.frames ∧ 8 + (maxL + 11) + rm.locals ≤ R.locals ∧ (∀ w ∈ ws, ∀ (a' : Array Value) (U : State), s.WarmedH U.vm → w.before a' U = true) ∧ Cond.codeWith y bytes maxL ret hh ∈ ws) ∧
  (Cond.codeWith y bytes maxL ret hh).before args s = true ∧ (Cond.initialized y.cls).before args s = true ∧ (y.cls ≠ "java/lang/invoke/MethodHandle" ∧ y.cls ≠ "java/lang/invoke/VarHandle") ∧
  (∀ sig, parseMethodDescriptor y.desc = some sig → n = sig.parameters.length) ∧ (Cond.methodLink own index y).before args s = true ∧ (Cond.instanceMethod y).before args s = true ∧ (Cond.selects C y y).before args s = true
theorem vx_cwVW {own C : String} {index maxL mc ms : Nat} {y : MethodName} {bytes : ByteArray} {ret : Option FieldType} {hh : List (Nat × Nat × Nat × Nat)} {Ts ws ws' : List Cond} {rm : Room} (n : Nat) (ht : ∀ w ∈ Ts, w.before args s = true) (hT : GoodIn Ts (wsV own index C y ws)) (hw : ws = Cond.codeWith y bytes maxL ret hh :: ws') (hrc : rm.cells = mc) (hrs : rm.slots = ms)
    (hd : y.cls = C ∧ y.cls ≠ "java/lang/invoke/MethodHandle" ∧ y.cls ≠ "java/lang/invoke/VarHandle" ∧ (parseMethodDescriptor y.desc).map (fun d => d.parameters.length) = some n) (hR : rm.frames + 1 ≤ R.frames ∧ 8 + (maxL + 11) + rm.locals ≤ R.locals) :
    vx_CVW R s args own C index y bytes maxL ret hh ws rm mc ms n := by
  obtain ⟨hC, hd⟩ := hd
  subst hC
  have ok : ∀ w ∈ wsV own index y.cls y ws, w.before args s = true := fun w h => ht w (hT w h).1
  have hG : GoodIn Ts ws := fun w h => hT w (by unfold wsV; exact List.mem_append_right _ h)
  have hc : Cond.codeWith y bytes maxL ret hh ∈ ws := by rw [hw]; exact List.mem_cons_self
  refine ⟨⟨hrc, hrs, hR.1, hR.2, pay_in ht hG, hc⟩, ht _ (hG _ hc).1, ok _ (by simp [wsV]), ⟨hd.1, hd.2.1⟩, fun sig h => ?_, ok _ (by simp [wsV]), ok _ (by simp [wsV]), ok _ (by simp [wsV])⟩
  have h2 := hd.2.2
  rw [h] at h2
  exact (Option.some.inj h2).symm
theorem vx_runVW {y : MethodName} {bytes cc : ByteArray} {maxL nL mc ms n index : Nat} {ret : Option FieldType} {hh : List (Nat × Nat × Nat × Nat)} {ws : List Cond} {rm : Room} {Pc : Array Value → State → Prop} {Qc : Array Value → State → Outcome → State → Prop} {free : Addr → Prop} {Ts : List Cond} {own C : String} {b : Addr} {As rest : List Value} {g : JFrame}
    (S : CallFix p m c cc nL s args Ts own) (hM : Met l y ws rm Pc Qc mc ms free) (cw : vx_CVW R s args own C index y bytes maxL ret hh ws rm mc ms n) (hp : PreV s H C b Pc As)
    (hg : g.method = m) (hn : As.length = n) (hsize : g.locals.size = nL) (hstack : g.stack = As.reverse ++ .ref b :: rest) (hW : 2 * g.monitorRoom + (rest.map fun v => v.category).sum ≤ 8) (hdg : decode cc g.pc = .ok (.invokevirtual index, 3)) (hf : cells + mc ≤ R.cells ∧ slots + ms ≤ R.slots) :
    va_Run p l e R s m args below meth c H locs cells slots mc ms g rest (Qc (Value.ref b :: As).toArray) free := by
  obtain ⟨⟨hrc, hrs, hfr, hlo, hws, hcw⟩, hcode, hini, hy, hlen, hl, hin, hse⟩ := cw
  have hK : Back l R p e below s args y 3 8 (PreOf R mc ms Pc) (PostOf Qc mc ms free) := va_backW (hh := hh) (bytes := bytes) (maxL := maxL) (ret := ret) hM hp.1 hrc hrs hfr hlo hws hcw (fun a' U hW => word_at hW (Or.inl (by first | rfl | simp [Cond.onTables, Cond.keeps, Cond.steady])) hini)
  obtain ⟨hx, hb, hml, ho, -⟩ := S
  obtain ⟨-, ⟨cellB, hcB, hoB, hclB⟩, hPc⟩ := hp
  intro T hT X
  obtain ⟨v, vm₁, ⟨U', l2, c2, s2⟩, hW₁, X', ⟨g', mk, t, L, e1, e2, hq, h1, hL, h2, h3⟩, st⟩ := vx_callVW X hx (C := C) (hh := hh) (bytes := bytes) (maxL := maxL) (ret := ret) ho hl hin hse hcode hy hK (by rw [hT]; exact hcB) hoB hclB hg (hsize.trans hml.symm) (argsL := As) (rest := rest) (fun sig h => hn.trans (hlen sig h)) hstack hW (by rw [hb]; exact hdg)
    (fun vm₁ hW₁ => ⟨hf.1, hf.2, hPc (T.setVm vm₁) hT hW₁⟩)
  dsimp only [Pt.U, Pt.locs, Pt.cells, Pt.slots] at X' e1 e2 h1 h2 h3 st
  subst h1; subst h2; subst h3
  exact ⟨v, (T.setVm vm₁).calling g' mk (Value.ref b :: As).toArray, t, U', L, hT, X', hL, e1, e2, hq, st⟩
section
variable {y : MethodName} {bytes cc : ByteArray} {maxL nL mc ms n index : Nat} {ret : Option FieldType} {ws : List Cond} {rm : Room} {Pc : Array Value → State → Prop} {Qc : Array Value → State → Outcome → State → Prop} {XC : String → State → State → Prop} {free : Addr → Prop} {Ts : List Cond} {own C : String} {b : Addr} {As rest : List Value} {g : JFrame}
theorem vx_runVX {hh : List (Nat × Nat × Nat × Nat)} (S : CallFix p m c cc nL s args Ts own) (hM : vx_Met l y ws rm Pc Qc XC mc ms free) (cw : vx_CVW R s args own C index y bytes maxL ret hh ws rm mc ms n) (hp : PreV s H C b Pc As)
    (hg : g.method = m) (hn : As.length = n) (hsize : g.locals.size = nL) (hstack : g.stack = As.reverse ++ .ref b :: rest) (hW : 2 * g.monitorRoom + (rest.map fun v => v.category).sum ≤ 8) (hdg : decode cc g.pc = .ok (.invokevirtual index, 3)) (hf : cells + mc ≤ R.cells ∧ slots + ms ≤ R.slots) :
    vx_Run p l e R s m args below meth c H locs cells slots mc ms g rest (Qc (Value.ref b :: As).toArray) XC free := by
  obtain ⟨⟨hrc, hrs, hfr, hlo, hws, hcw⟩, hcode, hini, hy, hlen, hl, hin, hse⟩ := cw
  have hK : vx_Back l R p e below s args y 3 8 (PreOf R mc ms Pc) (PostOf Qc mc ms free) (vx_Post XC mc ms free) := vx_backW (hh := hh) (bytes := bytes) (maxL := maxL) (ret := ret) hM hp.1 hrc hrs hfr hlo hws hcw (fun a' U hW => word_at hW (Or.inl (by first | rfl | simp [Cond.onTables, Cond.keeps, Cond.steady])) hini)
  obtain ⟨hx, hb, hml, ho, -⟩ := S
  obtain ⟨-, ⟨cellB, hcB, hoB, hclB⟩, hPc⟩ := hp
  intro T hT X
  rcases vx_callVX X hx (C := C) (hh := hh) (bytes := bytes) (maxL := maxL) (ret := ret) ho hl hin hse hcode hy hK (by rw [hT]; exact hcB) hoB hclB hg (hsize.trans hml.symm) (argsL := As) (rest := rest) (fun sig h => hn.trans (hlen sig h)) hstack hW (by rw [hb]; exact hdg)
    (fun vm₁ hW₁ => ⟨hf.1, hf.2, hPc (T.setVm vm₁) hT hW₁⟩) with ⟨v, vm₁, ⟨U', l2, c2, s2⟩, hW₁, X', ⟨g', mk, t, L, e1, e2, hq, h1, hL, h2, h3⟩, st⟩ | ⟨q, vm₁, ⟨U', l2, c2, s2⟩, hW₁, X', ⟨g', mk, t, L, E, ce, e1, e2, hq, hce, hcv, hcl, h1, hL, h2, h3⟩, st⟩
  · dsimp only [Pt.U, Pt.locs, Pt.cells, Pt.slots] at X' e1 e2 h1 h2 h3 st
    subst h1; subst h2; subst h3
    exact Or.inl ⟨v, (T.setVm vm₁).calling g' mk (Value.ref b :: As).toArray, t, U', L, hT, X', hL, e1, e2, hq, st⟩
  · dsimp only [Pt.U, Pt.locs, Pt.cells, Pt.slots] at X' e1 e2 h1 h2 h3 st hcl
    subst h1; subst h2; subst h3
    exact Or.inr ⟨q, (T.setVm vm₁).calling g' mk (Value.ref b :: As).toArray, t, U', L, E, ce, hT, X', hL, e1, e2, hq, hce, hcv, vx_cls hW₁ hcl, st⟩
theorem vx_runSX {hh : List (Nat × Nat × Nat × Nat)} (S : CallFix p m c cc nL s args Ts own) (hM : vx_Met l y ws rm Pc Qc XC mc ms free) (cw : vx_CSW R s args own index y bytes maxL ret hh ws rm mc ms n) (hp : PreS s H Pc As)
    (hg : g.method = m) (hn : As.length = n) (hsize : g.locals.size = nL) (hstack : g.stack = As.reverse ++ rest) (hW : 2 * g.monitorRoom + (rest.map fun v => v.category).sum ≤ 8) (hdg : decode cc g.pc = .ok (.invokestatic index, 3)) (hf : cells + mc ≤ R.cells ∧ slots + ms ≤ R.slots) :
    vx_Run p l e R s m args below meth c H locs cells slots mc ms g rest (Qc As.toArray) XC free := by
  obtain ⟨⟨hrc, hrs, hfr, hlo, hws, hcw⟩, hcode, hini, hy, hlen, hl, hstt⟩ := cw
  have hK : vx_Back l R p e below s args y 3 8 (PreOf R mc ms Pc) (PostOf Qc mc ms free) (vx_Post XC mc ms free) := vx_backW (hh := hh) (bytes := bytes) (maxL := maxL) (ret := ret) hM hp.1 hrc hrs hfr hlo hws hcw (fun a' U hW => word_at hW (Or.inl (by first | rfl | simp [Cond.onTables, Cond.keeps, Cond.steady])) hini)
  obtain ⟨hx, hb, hml, ho, -⟩ := S
  intro T hT X
  rcases vx_callSX X hx (hh := hh) (bytes := bytes) (maxL := maxL) (ret := ret) ho hl hstt hini hcode hy hK hg (hsize.trans hml.symm) (argsL := As) (rest := rest) (fun sig h => hn.trans (hlen sig h)) hstack hW (by rw [hb]; exact hdg)
    (fun vm₁ hW₁ => ⟨hf.1, hf.2, hp.2 (T.setVm vm₁) hT hW₁⟩) with ⟨v, vm₁, ⟨U', l2, c2, s2⟩, hW₁, X', ⟨g', mk, t, L, e1, e2, hq, h1, hL, h2, h3⟩, st⟩ | ⟨q, vm₁, ⟨U', l2, c2, s2⟩, hW₁, X', ⟨g', mk, t, L, E, ce, e1, e2, hq, hce, hcv, hcl, h1, hL, h2, h3⟩, st⟩
  · dsimp only [Pt.U, Pt.locs, Pt.cells, Pt.slots] at X' e1 e2 h1 h2 h3 st
    subst h1; subst h2; subst h3
    exact Or.inl ⟨v, (T.setVm vm₁).calling g' mk As.toArray, t, U', L, hT, X', hL, e1, e2, hq, st⟩
  · dsimp only [Pt.U, Pt.locs, Pt.cells, Pt.slots] at X' e1 e2 h1 h2 h3 st hcl
    subst h1; subst h2; subst h3
    exact Or.inr ⟨q, (T.setVm vm₁).calling g' mk As.toArray, t, U', L, E, ce, hT, X', hL, e1, e2, hq, hce, hcv, vx_cls hW₁ hcl, st⟩
end
end VXH
theorem vx_ofWH {l : Launch} {y : MethodName} {ws ws' : List Cond} {rm : Room} {Pc : Array Value → State → Prop} {Qc : Array Value → State → Outcome → State → Prop} {XC : String → State → State → Prop} {mc ms : Nat} {free : Addr → Prop} {cc : ByteArray} {maxL : Nat} {ret : Option FieldType} {hh : List (Nat × Nat × Nat × Nat)}
    (hy : plainName y.cls = true) (hw : ws = Cond.codeWith y cc maxL ret hh :: ws')
    (body : ∀ p e s m args below meth c s₁, BodyLoose p l y (headSpec ws rm) cc maxL ret e s m args below meth c s₁ → c.maxLocals = maxL → Pc args s →
      W p l e (headSpec ws rm).room s m args below meth c s.heap [] 0 0 (vx_MQ below Qc XC args s mc ms free) (entryFrame m args maxL)) : vx_Met l y ws rm Pc Qc XC mc ms free := by
  refine MetFree.of_bodyS (code := cc) (maxLocals := maxL) (ret := ret) hy ?_ ?_
  · intro args s m h hn
    obtain ⟨m9, meth, c, hn9, h1, h2, h3, h4, -, h5, h6, -⟩ := Cond.codeWith_spec (atoms_spec (ws := ws) h _ (by rw [hw]; exact List.mem_cons_self))
    cases hn.symm.trans hn9
    exact ⟨meth, c, h1, h2, h3, h4, h5, h6⟩
  · intro p e s m args below meth c s₁ B hml hP _
    have hh0 : s₁.heap = s.heap := by rw [B.state]; rfl
    obtain ⟨t, a1, o, b1, b2, b3⟩ := body p e s m args below meth c s₁ B hml hP s₁ hh0 (Stand.of_body B)
    exact ⟨t, o, a1, b1, b2, b3⟩
/-! ===== END ===== -/
end
section
/-! ===== BEGIN printed: names, fields, word lists, decode rows ===== -/
def RX0 : String := "CanalStairs"
def TX0 : u_T := fun k => match k with
  | 0 => ("CanalStairs", "areas", "[I", true)
  | 1 => ("CanalStairs", "waters", "[I", true)
  | 2 => ("CanalStairs", "lefts", "[I", true)
  | 3 => ("CanalStairs", "gateUses", "[I", true)
  | 4 => ("CanalStairs", "draughts", "[I", true)
  | 5 => ("CanalStairs", "places", "[I", true)
  | 6 => ("CanalStairs", "open", "[I", true)
  | 7 => ("CanalStairs", "depth", "I", false)
  | 8 => ("CanalStairs", "deepest", "I", false)
  | _ => ("CanalStairs", "holds", "I", false)
def tyX0 : Nat → FieldType := fun k => match k with
  | 0 => .array .int
  | 1 => .array .int
  | 2 => .array .int
  | 3 => .array .int
  | 4 => .array .int
  | 5 => .array .int
  | 6 => .array .int
  | 7 => .int
  | 8 => .int
  | _ => .int
abbrev wsX00 : List Cond := u_ws RX0 TX0 10
theorem nmX0 : ∀ a, a < 10 → ∀ b, b < 10 → a ≠ b → (TX0 a).2.1 ≠ (TX0 b).2.1 := by decide +kernel
theorem tyX0_ok : ∀ k, k < 10 → parseFieldDescriptor (TX0 k).2.2.1 = some (tyX0 k) := by decide +kernel
abbrev cX0_init : ByteArray := prog_1_method_1_code
def yX0_init : MethodName := ⟨RX0, "<init>", "()V"⟩
abbrev cX0_dig : ByteArray := prog_1_method_2_code
def yX0_dig : MethodName := ⟨RX0, "dig", "(II)I"⟩
abbrev cX0_fill : ByteArray := prog_1_method_3_code
def yX0_fill : MethodName := ⟨RX0, "fill", "(I)I"⟩
abbrev cX0_pour : ByteArray := prog_1_method_4_code
def yX0_pour : MethodName := ⟨RX0, "pour", "(II)I"⟩
abbrev cX0_draw : ByteArray := prog_1_method_5_code
def yX0_draw : MethodName := ⟨RX0, "draw", "(II)I"⟩
abbrev cX0_boat : ByteArray := prog_1_method_6_code
def yX0_boat : MethodName := ⟨RX0, "boat", "(III)I"⟩
abbrev cX0_gate : ByteArray := prog_1_method_7_code
def yX0_gate : MethodName := ⟨RX0, "gate", "(II)I"⟩
abbrev cX0_level : ByteArray := prog_1_method_8_code
def yX0_level : MethodName := ⟨RX0, "level", "(I)I"⟩
abbrev cX0_pass : ByteArray := prog_1_method_9_code
def yX0_pass : MethodName := ⟨RX0, "pass", "(IZ)I"⟩
abbrev cX0_flight : ByteArray := prog_1_method_10_code
def yX0_flight : MethodName := ⟨RX0, "flight", "(II)I"⟩
abbrev cX0_trip : ByteArray := prog_1_method_11_code
def yX0_trip : MethodName := ⟨RX0, "trip", "(II)I"⟩
abbrev cX0_convoy : ByteArray := prog_1_method_12_code
def yX0_convoy : MethodName := ⟨RX0, "convoy", "(IZ)I"⟩
abbrev cX0_share : ByteArray := prog_1_method_13_code
def yX0_share : MethodName := ⟨RX0, "share", "(II)I"⟩
abbrev cX0_first : ByteArray := prog_1_method_14_code
def yX0_first : MethodName := ⟨RX0, "first", "(I)I"⟩
abbrev cX0_pool : ByteArray := prog_1_method_15_code
def yX0_pool : MethodName := ⟨RX0, "pool", "(II)I"⟩
abbrev cX0_where : ByteArray := prog_1_method_16_code
def yX0_where : MethodName := ⟨RX0, "where", "(I)I"⟩
abbrev cX0_told : ByteArray := prog_1_method_17_code
def yX0_told : MethodName := ⟨RX0, "told", "(I)I"⟩
abbrev cX0_clear : ByteArray := prog_1_method_18_code
def yX0_clear : MethodName := ⟨RX0, "clear", "()I"⟩
abbrev cX0_reset : ByteArray := prog_1_method_19_code
def yX0_reset : MethodName := ⟨RX0, "reset", "()V"⟩
abbrev cX0_checkBoat : ByteArray := prog_1_method_20_code
def yX0_checkBoat : MethodName := ⟨RX0, "checkBoat", "(I)V"⟩
abbrev cX0_checkPool : ByteArray := prog_1_method_21_code
def yX0_checkPool : MethodName := ⟨RX0, "checkPool", "(I)V"⟩
abbrev cX0_checkGate : ByteArray := prog_1_method_22_code
def yX0_checkGate : MethodName := ⟨RX0, "checkGate", "(I)V"⟩
abbrev cX0_checkRange : ByteArray := prog_1_method_23_code
def yX0_checkRange : MethodName := ⟨RX0, "checkRange", "(III)V"⟩
abbrev cX0_answered : ByteArray := prog_1_method_24_code
def yX0_answered : MethodName := ⟨RX0, "answered", "(I)I"⟩
abbrev cX0_hold : ByteArray := prog_1_method_25_code
def yX0_hold : MethodName := ⟨RX0, "hold", "(I)Z"⟩
abbrev cX0_holdAll : ByteArray := prog_1_method_26_code
def yX0_holdAll : MethodName := ⟨RX0, "holdAll", "(II)Z"⟩
abbrev cX0_leave : ByteArray := prog_1_method_27_code
def yX0_leave : MethodName := ⟨RX0, "leave", "(I)V"⟩
abbrev cX0_failing : ByteArray := prog_1_method_28_code
def yX0_failing : MethodName := ⟨RX0, "failing", "(I)I"⟩
abbrev cX0_fillIn : ByteArray := prog_1_method_29_code
def yX0_fillIn : MethodName := ⟨RX0, "fillIn", "(I)I"⟩
abbrev cX0_pourInto : ByteArray := prog_1_method_30_code
def yX0_pourInto : MethodName := ⟨RX0, "pourInto", "(II)I"⟩
abbrev cX0_drawDown : ByteArray := prog_1_method_31_code
def yX0_drawDown : MethodName := ⟨RX0, "drawDown", "(II)I"⟩
abbrev cX0_berth : ByteArray := prog_1_method_32_code
def yX0_berth : MethodName := ⟨RX0, "berth", "(III)I"⟩
abbrev cX0_levelGate : ByteArray := prog_1_method_33_code
def yX0_levelGate : MethodName := ⟨RX0, "levelGate", "(I)I"⟩
abbrev cX0_moveUnit : ByteArray := prog_1_method_34_code
def yX0_moveUnit : MethodName := ⟨RX0, "moveUnit", "(II)V"⟩
abbrev cX0_passBoat : ByteArray := prog_1_method_35_code
def yX0_passBoat : MethodName := ⟨RX0, "passBoat", "(IZ)I"⟩
abbrev cX0_passInConvoy : ByteArray := prog_1_method_36_code
def yX0_passInConvoy : MethodName := ⟨RX0, "passInConvoy", "(IZ)I"⟩
abbrev cX0_fly : ByteArray := prog_1_method_37_code
def yX0_fly : MethodName := ⟨RX0, "fly", "(II)I"⟩
abbrev cX0_shareOut : ByteArray := prog_1_method_38_code
def yX0_shareOut : MethodName := ⟨RX0, "shareOut", "(II)I"⟩
abbrev cX0_portion : ByteArray := prog_1_method_39_code
def yX0_portion : MethodName := ⟨RX0, "portion", "(III)I"⟩
abbrev cX0_sum : ByteArray := prog_1_method_40_code
def yX0_sum : MethodName := ⟨RX0, "sum", "([III)I"⟩
abbrev cX0_isDug : ByteArray := prog_1_method_41_code
def yX0_isDug : MethodName := ⟨RX0, "isDug", "(I)Z"⟩
abbrev cX0_heightOf : ByteArray := prog_1_method_42_code
def yX0_heightOf : MethodName := ⟨RX0, "heightOf", "(I)I"⟩
abbrev cX0_boatsIn : ByteArray := prog_1_method_43_code
def yX0_boatsIn : MethodName := ⟨RX0, "boatsIn", "(I)I"⟩
abbrev cX0_countDug : ByteArray := prog_1_method_44_code
def yX0_countDug : MethodName := ⟨RX0, "countDug", "()I"⟩
abbrev cX0_canSetOut : ByteArray := prog_1_method_45_code
def yX0_canSetOut : MethodName := ⟨RX0, "canSetOut", "(IZ)Z"⟩
abbrev cX0_hasGate : ByteArray := prog_1_method_46_code
def yX0_hasGate : MethodName := ⟨RX0, "hasGate", "(IZ)Z"⟩
def RX1 : String := "CanalStairsModel"
def TX1 : u_T := fun k => match k with
  | 0 => ("CanalStairsModel", "thrown", "I", false)
  | 1 => ("CanalStairsModel", "isDug", "[Z", true)
  | 2 => ("CanalStairsModel", "area", "[I", true)
  | 3 => ("CanalStairsModel", "water", "[I", true)
  | 4 => ("CanalStairsModel", "left", "[I", true)
  | 5 => ("CanalStairsModel", "where", "[I", true)
  | 6 => ("CanalStairsModel", "draught", "[I", true)
  | 7 => ("CanalStairsModel", "uses", "[I", true)
  | 8 => ("CanalStairsModel", "held", "[I", true)
  | 9 => ("CanalStairsModel", "open", "I", false)
  | 10 => ("CanalStairsModel", "holds", "I", false)
  | 11 => ("CanalStairsModel", "most", "I", false)
  | 12 => ("CanalStairsModel", "fails", "I", false)
  | 13 => ("CanalStairsModel", "went", "I", false)
  | _ => ("CanalStairsModel", "passed", "I", false)
def tyX1 : Nat → FieldType := fun k => match k with
  | 0 => .int
  | 1 => .array .boolean
  | 2 => .array .int
  | 3 => .array .int
  | 4 => .array .int
  | 5 => .array .int
  | 6 => .array .int
  | 7 => .array .int
  | 8 => .array .int
  | 9 => .int
  | 10 => .int
  | 11 => .int
  | 12 => .int
  | 13 => .int
  | _ => .int
abbrev wsX10 : List Cond := u_ws RX1 TX1 15
theorem nmX1 : ∀ a, a < 15 → ∀ b, b < 15 → a ≠ b → (TX1 a).2.1 ≠ (TX1 b).2.1 := by decide +kernel
theorem tyX1_ok : ∀ k, k < 15 → parseFieldDescriptor (TX1 k).2.2.1 = some (tyX1 k) := by decide +kernel
abbrev cX1_init : ByteArray := prog_3_method_1_code
def yX1_init : MethodName := ⟨RX1, "<init>", "()V"⟩
abbrev cX1_thrown : ByteArray := prog_3_method_2_code
def yX1_thrown : MethodName := ⟨RX1, "thrown", "()I"⟩
abbrev cX1_begin : ByteArray := prog_3_method_3_code
def yX1_begin : MethodName := ⟨RX1, "begin", "()V"⟩
abbrev cX1_in : ByteArray := prog_3_method_4_code
def yX1_in : MethodName := ⟨RX1, "in", "(III)Z"⟩
abbrev cX1_isPool : ByteArray := prog_3_method_5_code
def yX1_isPool : MethodName := ⟨RX1, "isPool", "(I)Z"⟩
abbrev cX1_isBoat : ByteArray := prog_3_method_6_code
def yX1_isBoat : MethodName := ⟨RX1, "isBoat", "(I)Z"⟩
abbrev cX1_heightOf : ByteArray := prog_3_method_7_code
def yX1_heightOf : MethodName := ⟨RX1, "heightOf", "(I)I"⟩
abbrev cX1_lieIn : ByteArray := prog_3_method_8_code
def yX1_lieIn : MethodName := ⟨RX1, "lieIn", "(I)I"⟩
abbrev cX1_fail : ByteArray := prog_3_method_9_code
def yX1_fail : MethodName := ⟨RX1, "fail", "(I)Z"⟩
abbrev cX1_hold : ByteArray := prog_3_method_10_code
def yX1_hold : MethodName := ⟨RX1, "hold", "(I)Z"⟩
abbrev cX1_leave : ByteArray := prog_3_method_11_code
def yX1_leave : MethodName := ⟨RX1, "leave", "(I)V"⟩
abbrev cX1_told : ByteArray := prog_3_method_12_code
def yX1_told : MethodName := ⟨RX1, "told", "(IIII)I"⟩
abbrev cX1_dig : ByteArray := prog_3_method_13_code
def yX1_dig : MethodName := ⟨RX1, "dig", "(II)I"⟩
abbrev cX1_fill : ByteArray := prog_3_method_14_code
def yX1_fill : MethodName := ⟨RX1, "fill", "(I)I"⟩
abbrev cX1_pour : ByteArray := prog_3_method_15_code
def yX1_pour : MethodName := ⟨RX1, "pour", "(II)I"⟩
abbrev cX1_draw : ByteArray := prog_3_method_16_code
def yX1_draw : MethodName := ⟨RX1, "draw", "(II)I"⟩
abbrev cX1_boat : ByteArray := prog_3_method_17_code
def yX1_boat : MethodName := ⟨RX1, "boat", "(III)I"⟩
abbrev cX1_gate : ByteArray := prog_3_method_18_code
def yX1_gate : MethodName := ⟨RX1, "gate", "(II)I"⟩
abbrev cX1_levels : ByteArray := prog_3_method_19_code
def yX1_levels : MethodName := ⟨RX1, "levels", "(I)Z"⟩
abbrev cX1_passes : ByteArray := prog_3_method_20_code
def yX1_passes : MethodName := ⟨RX1, "passes", "(IZ)Z"⟩
abbrev cX1_level : ByteArray := prog_3_method_21_code
def yX1_level : MethodName := ⟨RX1, "level", "(I)I"⟩
abbrev cX1_pass : ByteArray := prog_3_method_22_code
def yX1_pass : MethodName := ⟨RX1, "pass", "(IZ)I"⟩
abbrev cX1_flies : ByteArray := prog_3_method_23_code
def yX1_flies : MethodName := ⟨RX1, "flies", "(II)Z"⟩
abbrev cX1_flight : ByteArray := prog_3_method_24_code
def yX1_flight : MethodName := ⟨RX1, "flight", "(II)I"⟩
abbrev cX1_trip : ByteArray := prog_3_method_25_code
def yX1_trip : MethodName := ⟨RX1, "trip", "(II)I"⟩
abbrev cX1_convoy : ByteArray := prog_3_method_26_code
def yX1_convoy : MethodName := ⟨RX1, "convoy", "(IZ)I"⟩
abbrev cX1_share : ByteArray := prog_3_method_27_code
def yX1_share : MethodName := ⟨RX1, "share", "(II)I"⟩
abbrev cX1_first : ByteArray := prog_3_method_28_code
def yX1_first : MethodName := ⟨RX1, "first", "(I)I"⟩
abbrev cX1_pool : ByteArray := prog_3_method_29_code
def yX1_pool : MethodName := ⟨RX1, "pool", "(II)I"⟩
abbrev cX1_where : ByteArray := prog_3_method_30_code
def yX1_where : MethodName := ⟨RX1, "where", "(I)I"⟩
abbrev cX1_dug : ByteArray := prog_3_method_31_code
def yX1_dug : MethodName := ⟨RX1, "dug", "()I"⟩
abbrev cX1_told_ : ByteArray := prog_3_method_32_code
def yX1_told_ : MethodName := ⟨RX1, "told", "(I)I"⟩
abbrev cX1_clear : ByteArray := prog_3_method_33_code
def yX1_clear : MethodName := ⟨RX1, "clear", "()I"⟩
def RJx00060 : String := "java/lang/ArrayIndexOutOfBoundsException"
def TJx00060 : u_T := fun k => match k with
  | 0 => ("java/lang/Throwable", "backtrace", "Ljava/lang/Object;", false)
  | 1 => ("java/lang/Throwable", "detailMessage", "Ljava/lang/String;", false)
  | 2 => ("java/lang/Throwable", "cause", "Ljava/lang/Throwable;", false)
  | 3 => ("java/lang/Throwable", "stackTrace", "[Ljava/lang/StackTraceElement;", false)
  | 4 => ("java/lang/Throwable", "depth", "I", false)
  | _ => ("java/lang/Throwable", "suppressedExceptions", "Ljava/util/List;", false)
def tyJx00060 : Nat → FieldType := fun k => match k with
  | 0 => .object "java/lang/Object"
  | 1 => .object "java/lang/String"
  | 2 => .object "java/lang/Throwable"
  | 3 => .array (.object "java/lang/StackTraceElement")
  | 4 => .int
  | _ => .object "java/util/List"
abbrev wsJx000600 : List Cond := u_ws RJx00060 TJx00060 6
theorem nmJx00060 : ∀ a, a < 6 → ∀ b, b < 6 → a ≠ b → (TJx00060 a).2.1 ≠ (TJx00060 b).2.1 := by decide +kernel
theorem tyJx00060_ok : ∀ k, k < 6 → parseFieldDescriptor (TJx00060 k).2.2.1 = some (tyJx00060 k) := by decide +kernel
abbrev cJx00060_init_a7421 : ByteArray := prog_5_method_2_code
def yJx00060_init_a7421 : MethodName := ⟨RJx00060, "<init>", "(Ljava/lang/String;)V"⟩
def RJ9 : String := "java/lang/Math"
def TJ9 : u_T := fun k => match k with
  | _ => ("", "", "", false)
def tyJ9 : Nat → FieldType := fun k => match k with
  | _ => .int
abbrev wsJ90 : List Cond := u_ws RJ9 TJ9 0
theorem nmJ9 : ∀ a, a < 0 → ∀ b, b < 0 → a ≠ b → (TJ9 a).2.1 ≠ (TJ9 b).2.1 := by decide +kernel
theorem tyJ9_ok : ∀ k, k < 0 → parseFieldDescriptor (TJ9 k).2.2.1 = some (tyJ9 k) := by decide +kernel
abbrev cJ9_abs_0f7a4 : ByteArray := prog_10_method_59_code
def yJ9_abs_0f7a4 : MethodName := ⟨RJ9, "abs", "(I)I"⟩
abbrev cJ9_max_7cf53 : ByteArray := prog_10_method_65_code
def yJ9_max_7cf53 : MethodName := ⟨RJ9, "max", "(II)I"⟩
abbrev cJ9_min_7cf53 : ByteArray := prog_10_method_69_code
def yJ9_min_7cf53 : MethodName := ⟨RJ9, "min", "(II)I"⟩
abbrev cJ9_min_f86c9 : ByteArray := prog_10_method_70_code
def yJ9_min_f86c9 : MethodName := ⟨RJ9, "min", "(JJ)J"⟩
def RJx5d777 : String := "java/lang/NullPointerException"
def TJx5d777 : u_T := fun k => match k with
  | 0 => ("java/lang/Throwable", "backtrace", "Ljava/lang/Object;", false)
  | 1 => ("java/lang/Throwable", "detailMessage", "Ljava/lang/String;", false)
  | 2 => ("java/lang/Throwable", "cause", "Ljava/lang/Throwable;", false)
  | 3 => ("java/lang/Throwable", "stackTrace", "[Ljava/lang/StackTraceElement;", false)
  | 4 => ("java/lang/Throwable", "depth", "I", false)
  | 5 => ("java/lang/Throwable", "suppressedExceptions", "Ljava/util/List;", false)
  | 6 => ("java/lang/NullPointerException", "extendedMessageState", "I", false)
  | _ => ("java/lang/NullPointerException", "extendedMessage", "Ljava/lang/String;", false)
def tyJx5d777 : Nat → FieldType := fun k => match k with
  | 0 => .object "java/lang/Object"
  | 1 => .object "java/lang/String"
  | 2 => .object "java/lang/Throwable"
  | 3 => .array (.object "java/lang/StackTraceElement")
  | 4 => .int
  | 5 => .object "java/util/List"
  | 6 => .int
  | _ => .object "java/lang/String"
abbrev wsJx5d7770 : List Cond := u_ws RJx5d777 TJx5d777 8
theorem nmJx5d777 : ∀ a, a < 8 → ∀ b, b < 8 → a ≠ b → (TJx5d777 a).2.1 ≠ (TJx5d777 b).2.1 := by decide +kernel
theorem tyJx5d777_ok : ∀ k, k < 8 → parseFieldDescriptor (TJx5d777 k).2.2.1 = some (tyJx5d777 k) := by decide +kernel
abbrev cJx5d777_init_da8c8 : ByteArray := prog_11_method_1_code
def yJx5d777_init_da8c8 : MethodName := ⟨RJx5d777, "<init>", "()V"⟩
abbrev cJx5d777_init_a7421 : ByteArray := prog_11_method_2_code
def yJx5d777_init_a7421 : MethodName := ⟨RJx5d777, "<init>", "(Ljava/lang/String;)V"⟩
abbrev cJx5d777_fillInStackTrace_cddbd : ByteArray := prog_11_method_3_code
def yJx5d777_fillInStackTrace_cddbd : MethodName := ⟨RJx5d777, "fillInStackTrace", "()Ljava/lang/Throwable;"⟩
def RJ0 : String := "java/lang/String"
def TJ0 : u_T := fun k => match k with
  | 0 => ("java/lang/String", "value", "[B", true)
  | _ => ("java/lang/String", "coder", "B", true)
def tyJ0 : Nat → FieldType := fun k => match k with
  | 0 => .array .byte
  | _ => .byte
abbrev wsJ00 : List Cond := u_ws RJ0 TJ0 2
theorem nmJ0 : ∀ a, a < 2 → ∀ b, b < 2 → a ≠ b → (TJ0 a).2.1 ≠ (TJ0 b).2.1 := by decide +kernel
theorem tyJ0_ok : ∀ k, k < 2 → parseFieldDescriptor (TJ0 k).2.2.1 = some (tyJ0 k) := by decide +kernel
def RJ7 : String := "java/util/Arrays"
def TJ7 : u_T := fun k => match k with
  | _ => ("", "", "", false)
def tyJ7 : Nat → FieldType := fun k => match k with
  | _ => .int
abbrev wsJ70 : List Cond := u_ws RJ7 TJ7 0
theorem nmJ7 : ∀ a, a < 0 → ∀ b, b < 0 → a ≠ b → (TJ7 a).2.1 ≠ (TJ7 b).2.1 := by decide +kernel
theorem tyJ7_ok : ∀ k, k < 0 → parseFieldDescriptor (TJ7 k).2.2.1 = some (tyJ7 k) := by decide +kernel
abbrev cJ7_fill_53178 : ByteArray := prog_16_method_103_code
def yJ7_fill_53178 : MethodName := ⟨RJ7, "fill", "([II)V"⟩
def RL : String := "CanalStairsLaw"
abbrev cL_dig : ByteArray := method_3_code
def yL_dig : MethodName := ⟨RL, "dig", "(LCanalStairs;II[J)I"⟩
abbrev cL_fill : ByteArray := method_4_code
def yL_fill : MethodName := ⟨RL, "fill", "(LCanalStairs;I[J)I"⟩
abbrev cL_pour : ByteArray := method_5_code
def yL_pour : MethodName := ⟨RL, "pour", "(LCanalStairs;II[J)I"⟩
abbrev cL_draw : ByteArray := method_6_code
def yL_draw : MethodName := ⟨RL, "draw", "(LCanalStairs;II[J)I"⟩
abbrev cL_boat : ByteArray := method_7_code
def yL_boat : MethodName := ⟨RL, "boat", "(LCanalStairs;III[J)I"⟩
abbrev cL_gate : ByteArray := method_8_code
def yL_gate : MethodName := ⟨RL, "gate", "(LCanalStairs;II[J)I"⟩
abbrev cL_level : ByteArray := method_9_code
def yL_level : MethodName := ⟨RL, "level", "(LCanalStairs;I[J)I"⟩
abbrev cL_pass : ByteArray := method_10_code
def yL_pass : MethodName := ⟨RL, "pass", "(LCanalStairs;IZ[J)I"⟩
abbrev cL_flight : ByteArray := method_11_code
def yL_flight : MethodName := ⟨RL, "flight", "(LCanalStairs;II[J)I"⟩
abbrev cL_trip : ByteArray := method_12_code
def yL_trip : MethodName := ⟨RL, "trip", "(LCanalStairs;II[J)I"⟩
abbrev cL_convoy : ByteArray := method_13_code
def yL_convoy : MethodName := ⟨RL, "convoy", "(LCanalStairs;IZ[J)I"⟩
abbrev cL_share : ByteArray := method_14_code
def yL_share : MethodName := ⟨RL, "share", "(LCanalStairs;II[J)I"⟩
abbrev cL_pool : ByteArray := method_15_code
def yL_pool : MethodName := ⟨RL, "pool", "(LCanalStairs;II[J)I"⟩
abbrev cL_where : ByteArray := method_16_code
def yL_where : MethodName := ⟨RL, "where", "(LCanalStairs;I[J)I"⟩
abbrev cL_law : ByteArray := code
def yL_law : MethodName := ⟨RL, "law", "([I)Z"⟩
end
section
/-! THE SMALL MACHINE: a state is a pc, locals and stack of values whose references are PLACES in a list of cells, and that list. mF: from there the method's run ends with a known outcome and a known list. -/
/-- a method: name, bytes, locals, result, exception table, frames and words for its callees, instructions -/
abbrev mM : Type := MethodName × ByteArray × Nat × Option FieldType × List (Nat × Nat × Nat × Nat) × Nat × Nat × List (Nat × Instr × Nat)
def mAt (M : mM) (pc : Nat) : Option (Instr × Nat) := M.2.2.2.2.2.2.2.lookup pc
def mOk (M : mM) : Prop := ∀ q ∈ M.2.2.2.2.2.2.2, decode M.2.1 q.1 = .ok q.2
theorem m_lookup {β : Type} (l : List (Nat × β)) (a : Nat) (b : β) (h : l.lookup a = some b) : (a, b) ∈ l := by
  induction l with
  | nil => cases h
  | cons q t ih =>
    obtain ⟨x, y⟩ := q
    by_cases hx : a = x
    · subst hx
      simp only [List.lookup, BEq.rfl] at h
      cases h
      exact List.mem_cons_self
    · have hx' : (a == x) = false := by simpa using hx
      simp only [List.lookup, hx'] at h
      exact List.mem_cons_of_mem _ (ih h)
theorem mAt_dec {M : mM} (h : mOk M) {pc : Nat} {x : Instr × Nat} (hx : mAt M pc = some x) : decode M.2.1 pc = .ok x := h (pc, x) (m_lookup _ _ _ hx)
/-- the words that every frame has -/
def mTW : List Cond := lw_tbl.filter goodWord
/-- a small value as a real one: a place becomes its address -/
def mv (ad : Nat → Nat) : Value → Value
  | .ref k => .ref (ad k)
  | v => v
theorem mv_cat (ad : Nat → Nat) (v : Value) : (mv ad v).category = v.category := by cases v <;> rfl
abbrev mE : Type := (Nat × vp_A) ⊕ (Nat × List Value)
abbrev mH : Type := List mE
def mvE (ad : Nat → Nat) (cy : Nat → ClassId) : mE → va_E
  | .inl q => .inl (cy q.1, q.2)
  | .inr q => .inr (q.1, q.2.map (mv ad))
def mw (ad : Nat → Nat) (cy : Nat → ClassId) (h : mH) : va_W := h.mapIdx (fun k e => (ad k, mvE ad cy e))
theorem mw_at {ad : Nat → Nat} {cy : Nat → ClassId} {h : mH} {k : Nat} {e : mE} (hk : h[k]? = some e) : (mw ad cy h)[k]? = some (ad k, mvE ad cy e) := by
  unfold mw
  rw [List.getElem?_mapIdx, hk]
  rfl
theorem mw_len {ad : Nat → Nat} {cy : Nat → ClassId} {h : mH} : (mw ad cy h).length = h.length := by simp [mw]
theorem mw_set {ad : Nat → Nat} {cy : Nat → ClassId} {h : mH} {k : Nat} {e : mE} : (mw ad cy h).set k (ad k, mvE ad cy e) = mw ad cy (h.set k e) := by
  apply List.ext_getElem?
  intro i
  unfold mw
  rw [List.getElem?_mapIdx, List.getElem?_set, List.getElem?_set, List.getElem?_mapIdx, List.length_mapIdx]
  by_cases hi : k = i
  · subst hi
    rw [if_pos rfl, if_pos rfl]
    by_cases hl : k < h.length
    · rw [if_pos hl, if_pos hl]; rfl
    · rw [if_neg hl, if_neg hl]; rfl
  · rw [if_neg hi, if_neg hi]
/-- the locals -/
def mL (ad : Nat → Nat) (ls : Array Slot) (nL : Nat) (L : List (Option Value)) : Prop := ls.size = nL ∧ lv_wf ls ∧ ∀ (i : Nat) (v : Value), L[i]? = some (some v) → ls[i]? = some (.val (mv ad v))
def mLs (ad : Nat → Nat) (L : List (Option Value)) : List (Nat × Value) := (List.range L.length).filterMap (fun i => (L[i]?.join).map (fun v => (i, mv ad v)))
theorem mLs_mem {ad : Nat → Nat} {L : List (Option Value)} {q : Nat × Value} : q ∈ mLs ad L ↔ ∃ v, L[q.1]? = some (some v) ∧ q.2 = mv ad v := by
  unfold mLs
  rw [List.mem_filterMap]
  constructor
  · rintro ⟨i, hi, h⟩
    cases hL : L[i]? with
    | none => simp [hL] at h
    | some o =>
      cases o with
      | none => simp [hL] at h
      | some v =>
        simp [hL] at h
        subst h
        exact ⟨v, hL, rfl⟩
  · rintro ⟨v, h1, h2⟩
    refine ⟨q.1, ?_, ?_⟩
    · rw [List.mem_range]
      exact (List.getElem?_eq_some_iff.mp h1).1
    · obtain ⟨i, w⟩ := q
      simp [h1] at h2 ⊢
      exact h2.symm
theorem mL.has {ad : Nat → Nat} {ls : Array Slot} {nL : Nat} {L : List (Option Value)} (h : mL ad ls nL L) : lv_has ls nL (mLs ad L) := by
  refine ⟨h.1, h.2.1, fun q hq => ?_⟩
  obtain ⟨v, h1, h2⟩ := mLs_mem.mp hq
  rw [h2]
  exact h.2.2 _ _ h1
/-- no long ends at the place before -/
def mOk1 (L : List (Option Value)) : Nat → Bool
  | 0 => true
  | j + 1 => match L[j]? with
    | some (some v) => v.category == 1
    | _ => true
theorem mL.set1 {ad : Nat → Nat} {ls' : Array Slot} {nL i : Nat} {L : List (Option Value)} {v w : Value} (hw : mv ad v = w) (hc : mOk1 L i = true)
    (h : lv_has ls' nL ((i, w) :: (mLs ad L).filter (fun q => !(q.1 == i) && !(q.1 + 1 == i && q.2.category == 2)))) : mL ad ls' nL (L.set i (some v)) := by
  refine ⟨h.1, h.2.1, fun j x hx => ?_⟩
  by_cases hj : i = j
  · subst hj
    rw [List.getElem?_set] at hx
    simp only [if_true] at hx
    split at hx
    · cases hx
      rw [hw]
      exact h.2.2 (i, w) List.mem_cons_self
    · cases hx
  · rw [List.getElem?_set, if_neg hj] at hx
    refine h.2.2 (j, mv ad x) (List.mem_cons_of_mem _ (List.mem_filter.mpr ⟨mLs_mem.mpr ⟨x, hx, rfl⟩, ?_⟩))
    have h1 : (j == i) = false := by simpa using fun q => hj q.symm
    simp only [h1, Bool.not_false, Bool.true_and, Bool.not_eq_true', Bool.and_eq_false_iff]
    by_cases h2 : j + 1 = i
    · right
      subst h2
      simp only [mOk1, hx] at hc
      rw [mv_cat]
      have h3 : x.category = 1 := by simpa using hc
      rw [h3]; rfl
    · left
      simpa using h2
/-- any value stored: nothing is known of the place -/
theorem mL.set0 {ad : Nat → Nat} {ls' : Array Slot} {nL i : Nat} {L : List (Option Value)} {w : Value} (hc : mOk1 L i = true)
    (h : lv_has ls' nL ((i, w) :: (mLs ad L).filter (fun q => !(q.1 == i) && !(q.1 + 1 == i && q.2.category == 2)))) : mL ad ls' nL (L.set i none) := by
  refine ⟨h.1, h.2.1, fun j x hx => ?_⟩
  by_cases hj : i = j
  · subst hj
    rw [List.getElem?_set] at hx
    simp only [if_true] at hx
    split at hx
    · cases hx
    · cases hx
  · rw [List.getElem?_set, if_neg hj] at hx
    refine h.2.2 (j, mv ad x) (List.mem_cons_of_mem _ (List.mem_filter.mpr ⟨mLs_mem.mpr ⟨x, hx, rfl⟩, ?_⟩))
    have h1 : (j == i) = false := by simpa using fun q => hj q.symm
    simp only [h1, Bool.not_false, Bool.true_and, Bool.not_eq_true', Bool.and_eq_false_iff]
    by_cases h2 : j + 1 = i
    · right
      subst h2
      simp only [mOk1, hx] at hc
      rw [mv_cat]
      have h3 : x.category = 1 := by simpa using hc
      rw [h3]; rfl
    · left
      simpa using h2
theorem mL.set2 {ad : Nat → Nat} {ls' : Array Slot} {nL i : Nat} {L : List (Option Value)} {v w : Value} (hw : mv ad v = w) (hc : mOk1 L i = true)
    (h : lv_has ls' nL ((i, w) :: (mLs ad L).filter (fun q => !(q.1 == i) && (!(q.1 == i + 1) && !(q.1 + 1 == i && q.2.category == 2))))) : mL ad ls' nL ((L.set i (some v)).set (i + 1) none) := by
  refine ⟨h.1, h.2.1, fun j x hx => ?_⟩
  by_cases hk : i + 1 = j
  · subst hk
    rw [List.getElem?_set] at hx
    simp only [if_true] at hx
    split at hx
    · cases hx
    · cases hx
  rw [List.getElem?_set, if_neg hk] at hx
  by_cases hj : i = j
  · subst hj
    rw [List.getElem?_set] at hx
    simp only [if_true] at hx
    split at hx
    · cases hx
      rw [hw]
      exact h.2.2 (i, w) List.mem_cons_self
    · cases hx
  · rw [List.getElem?_set, if_neg hj] at hx
    refine h.2.2 (j, mv ad x) (List.mem_cons_of_mem _ (List.mem_filter.mpr ⟨mLs_mem.mpr ⟨x, hx, rfl⟩, ?_⟩))
    have h1 : (j == i) = false := by simpa using fun q => hj q.symm
    have h1' : (j == i + 1) = false := by simpa using fun q => hk q.symm
    simp only [h1, h1', Bool.not_false, Bool.true_and, Bool.not_eq_true', Bool.and_eq_false_iff]
    by_cases h2 : j + 1 = i
    · right
      subst h2
      simp only [mOk1, hx] at hc
      rw [mv_cat]
      have h3 : x.category = 1 := by simpa using hc
      rw [h3]; rfl
    · left
      simpa using h2
/-- a call's arguments as locals -/
def mA0 : List Value → List (Option Value)
  | [] => []
  | v :: vs => if v.category = 2 then some v :: none :: mA0 vs else some v :: mA0 vs
def mEnt (As : List Value) (n : Nat) : List (Option Value) := mA0 As ++ List.replicate (n - (mA0 As).length) none
theorem mA0_mem (ad : Nat → Nat) : ∀ (As : List Value) (o i : Nat) (v : Value), (mA0 As)[i]? = some (some v) → (o + i, mv ad v) ∈ lv_args o (As.map (mv ad)) := by
  intro As
  induction As with
  | nil => intro o i v h; simp [mA0] at h
  | cons a t ih =>
    intro o i v h
    unfold mA0 at h
    simp only [List.map_cons, lv_args]
    by_cases hc : a.category = 2
    · rw [if_pos hc] at h
      rw [if_pos (by rw [mv_cat]; exact hc)]
      match i, h with
      | 0, h => simp at h; subst h; exact List.mem_cons_self
      | 1, h => simp at h
      | i + 2, h =>
        have h9 : (mA0 t)[i]? = some (some v) := by simpa using h
        have := ih (o + 2) i v h9
        rw [show o + (i + 2) = o + 2 + i by omega]
        exact List.mem_cons_of_mem _ this
    · rw [if_neg hc] at h
      rw [if_neg (by rw [mv_cat]; exact hc)]
      match i, h with
      | 0, h => simp at h; subst h; exact List.mem_cons_self
      | i + 1, h =>
        have h9 : (mA0 t)[i]? = some (some v) := by simpa using h
        have := ih (o + 1) i v h9
        rw [show o + (i + 1) = o + 1 + i by omega]
        exact List.mem_cons_of_mem _ this
theorem mA0_len (ad : Nat → Nat) : ∀ As : List Value, (lg_sl (As.map (mv ad))).length = (mA0 As).length := by
  intro As
  induction As with
  | nil => rfl
  | cons a t ih =>
    have e : lg_sl ((a :: t).map (mv ad)) = (if (mv ad a).category = 2 then [.val (mv ad a), .second] else [.val (mv ad a)]) ++ lg_sl (t.map (mv ad)) := by simp [lg_sl]
    have e2 : mA0 (a :: t) = if a.category = 2 then some a :: none :: mA0 t else some a :: mA0 t := rfl
    rw [e, List.length_append, ih, e2, mv_cat]
    by_cases hc : a.category = 2
    · rw [if_pos hc, if_pos hc]; simp only [List.length_cons, List.length_nil]; omega
    · rw [if_neg hc, if_neg hc]; simp only [List.length_cons, List.length_nil]; omega
theorem mL_entry (ad : Nat → Nat) (As : List Value) {n : Nat} (h : (mA0 As).length ≤ n) : mL ad ((lg_sl (As.map (mv ad)) ++ List.replicate (n - (lg_sl (As.map (mv ad))).length) Slot.unset).toArray) n (mEnt As n) := by
  have h1 := lv_entry (As.map (mv ad)) (n := n) (by rw [mA0_len]; exact h)
  refine ⟨h1.1, h1.2.1, fun i v hv => ?_⟩
  unfold mEnt at hv
  rw [List.getElem?_append] at hv
  split at hv
  · have := h1.2.2 _ (mA0_mem ad As 0 i v hv)
    rw [Nat.zero_add] at this
    exact this
  · rw [List.getElem?_replicate] at hv
    split at hv
    · cases hv
    · cases hv
end
section
/-! A FRAME OF THE SMALL MACHINE -/
def mCl : List vw_C := [(RX0, TX0, 10), (RX1, TX1, 15)]
def mTys (cy : Nat → ClassId) : List (ClassId × FieldType) := [(cy 0, .int), (cy 1, .boolean), (cy 2, .long)]
def mA (N0 : Nat) : Nat → Prop := fun q => N0 ≤ q
def xA : String := "java/lang/ArrayIndexOutOfBoundsException"
def xI : String := "java/lang/IllegalArgumentException"
def xN : String := "java/lang/NullPointerException"
def xS : String := "java/lang/IllegalStateException"
def xU : String := "java/lang/UnsupportedOperationException"
def xD : String := "java/lang/ArithmeticException"
def mCast : List String := [xA, xI, xN, xS, xU, xD]
def mDecl : List MethodName := [Jvm.Bundle.initS "java/lang/IndexOutOfBoundsException", Jvm.Bundle.initS "java/lang/RuntimeException", Jvm.Bundle.initS "java/lang/Exception", Jvm.Bundle.initS "java/lang/Throwable"]
/-- (thrown, named by an earlier row) -/
def mNcs : List (String × String) := [(xI, xA), (xN, xA), (xN, xI), (xS, xA), (xS, xN), (xU, xA), (xU, xI), (xU, xN), (xU, xS), (xD, xA), (xD, xN), (xD, xS), (xD, xU)]
def mStrs : List (Nat × String) := [(153, "no such pool"), (157, "a number is out of its range"), (159, "a pool is not dug"), (161, "a gate is worn, or the boat lies in no pool"), (165, "the boat is stuck"), (170, "levelling is slow"), (151, "no such boat"), (155, "no such gate"), (78, "the boat lies in no pool"), (89, "no gate that way"), (107, "the first pool is above the last"), (124, "the pool is not dug")]
/-- what holds of the tables and of the heap below N0, in every frame -/
def mG (N0 b : Nat) (S : Nat × (Nat → Int32)) (sa : Nat → Nat) (D : va_G) (cy : Nat → ClassId) (U : State) (H : Heap) : Prop :=
  va_K D mCl (mTys cy) U ∧ ((∀ q ∈ mCast, va_Nw (.castable q q) U) ∧ ∀ q ∈ mDecl, va_Nw (.declares q) U) ∧ ((∀ q ∈ mNcs, va_Nc q.1 q.2 U) ∧ va_Nw (.castable "java/lang/RuntimeException" "java/lang/Throwable") U) ∧ (∀ q ∈ mStrs, vk_R RX0 q.1 q.2 (sa q.1) U) ∧
  vx_Zq Jvm.Bundle.tN "UNASSIGNED_STACK" Jvm.Bundle.steD (mA N0) U H ∧ vx_Zq Jvm.Bundle.tN "SUPPRESSED_SENTINEL" Jvm.Bundle.listD (mA N0) U H ∧ va_X b S.1 S.2 U H ∧ b < N0 ∧ N0 ≤ H.size
theorem mG.warm {N0 b : Nat} {S : Nat × (Nat → Int32)} {sa : Nat → Nat} {D : va_G} {cy : Nat → ClassId} {s U : State} {H : Heap} {locs : List Loc} (hW : s.WarmedH U.vm) (hS : va_S (mA N0) s.heap H locs) (h : mG N0 b S sa D cy s s.heap) : mG N0 b S sa D cy U H := by
  obtain ⟨h1, h2, h3, h4, h5, h6, ⟨scr, x1, x2, x3, x4, x5⟩, h8, h9⟩ := h
  refine ⟨va_K.moved hW.alike h1, ⟨fun q hq => va_Nw.warmC hW (h2.1 q hq), fun q hq => va_Nw.warmD hW (h2.2 q hq)⟩, ⟨fun q hq => va_Nc.moved hW.alike (h3.1 q hq), va_Nw.warmC hW h3.2⟩, fun q hq => vk_R.warm hW (h4 q hq), vx_Zq.moved hW.alike (h5.kept hS.2.1), vx_Zq.moved hW.alike (h6.kept hS.2.1), ⟨scr, ?_, State.isArrayOf_alike hW.alike x2, x3, x4, x5⟩, h8, Nat.le_trans h9 hS.1⟩
  rw [hS.2.1 b (by omega) (by unfold mA; omega)]
  exact x1
theorem mG.calling {N0 b : Nat} {S : Nat × (Nat → Int32)} {sa : Nat → Nat} {D : va_G} {cy : Nat → ClassId} {U : State} {H : Heap} {g : JFrame} {mk : MethodId} {a : Array Value} (h : mG N0 b S sa D cy U H) : mG N0 b S sa D cy (U.calling g mk a) H := by
  obtain ⟨h1, h2, h3, h4, h5, h6, ⟨scr, x1, x2, x3, x4, x5⟩, h8, h9⟩ := h
  have al : U.vm.Alike (U.calling g mk a).vm := Vm.Alike.refl U.vm
  exact ⟨va_K.moved al h1, ⟨fun q hq => va_Nw.same rfl rfl (h2.1 q hq), fun q hq => va_Nw.same rfl rfl (h2.2 q hq)⟩, ⟨fun q hq => va_Nc.moved al (h3.1 q hq), va_Nw.same rfl rfl h3.2⟩, fun q hq => vk_R.same rfl (h4 q hq), vx_Zq.moved al h5, vx_Zq.moved al h6, ⟨scr, x1, State.isArrayOf_alike al x2, x3, x4, x5⟩, h8, h9⟩
/-- a frame's own: the code, the words, the world's start, room -/
def mC (S : Nat × (Nat → Int32)) (M : mM) (N0 b : Nat) (sa : Nat → Nat) (D : va_G) (cy : Nat → ClassId) (a0 : Nat → Nat) (p : Program) (l : Launch) (R : Room) (s : State) (m : MethodId) (args : Array Value) (meth : Method) (c : Code) : Prop :=
  p.tables.exec = Jvm.exec ∧ c.code = M.2.1 ∧ mOk M ∧ meth.sig.returnType = M.2.2.2.1 ∧ meth.locks = false ∧ c.maxLocals = M.2.2.1 ∧ s.vm.findClass M.1.cls = some m.cls ∧ meth.name = M.1.name ∧ (∀ w ∈ mTW, w.before args s = true) ∧
  c.exceptionTable.toList = tableOf M.2.2.2.2.1 ∧ l.stackTraces = false ∧ mG N0 b S sa D cy s s.heap ∧ a0 1000 = b ∧ M.2.2.2.2.2.1 ≤ R.frames ∧ M.2.2.2.2.2.2.1 ≤ R.locals
/-- the world at a point of it -/
def mS (M : mM) (N0 : Nat) (D : va_G) (cy : Nat → ClassId) (a0 : Nat → Nat) (z0 : Nat) (s : State) (ad : Nat → Nat) (L : List (Option Value)) (h : mH) (H : Heap) (locs : List Loc) (ls : Array Slot) : Prop :=
  va_P D mCl (mw ad cy h) H ∧ va_D (mA N0) (mw ad cy h) ∧ va_S (mA N0) s.heap H locs ∧ mL ad ls M.2.2.1 L ∧ (∀ k, (k < z0 ∨ h.length ≤ k) → ad k = a0 k) ∧ z0 ≤ h.length ∧ h.length ≤ 1000
/-- an outcome: returned or threw; the world then; cells and slots at most -/
abbrev mR : Type := (Option Value ⊕ String) × mH × Nat × Nat
def mPost (N0 : Nat) (D : va_G) (cy : Nat → ClassId) (a0 : Nat → Nat) (z0 : Nat) (h : mH) (ad : Nat → Nat) (st t : State) : Prop :=
  (∀ k, (k < z0 ∨ h.length ≤ k) → ad k = a0 k) ∧ z0 ≤ h.length ∧ h.length ≤ 1000 ∧ va_P D mCl (mw ad cy h) t.heap ∧ va_D (mA N0) (mw ad cy h) ∧ va_F (mA N0) st t
def mQc (N0 : Nat) (D : va_G) (cy : Nat → ClassId) (a0 : Nat → Nat) (z0 : Nat) (r : mR) : Array Value → State → Outcome → State → Prop := fun _ st o t =>
  ∃ (v : Option Value) (ad : Nat → Nat), r.1 = .inl v ∧ o = .returned (v.map (mv ad)) ∧ mPost N0 D cy a0 z0 r.2.1 ad st t
def mXC (N0 : Nat) (D : va_G) (cy : Nat → ClassId) (a0 : Nat → Nat) (z0 : Nat) (r : mR) : String → State → State → Prop := fun E st t =>
  r.1 = .inr E ∧ ∃ ad : Nat → Nat, mPost N0 D cy a0 z0 r.2.1 ad st t
/-- FROM THIS POINT THE METHOD M ENDS WITH r -/
def mF (S : Nat × (Nat → Int32)) (M : mM) (pc : Nat) (L : List (Option Value)) (st : List Value) (h : mH) (k n : Nat) (r : mR) : Prop :=
  ∀ (N0 b : Nat) (sa : Nat → Nat) (D : va_G) (cy : Nat → ClassId) (a0 : Nat → Nat) (z0 : Nat) (p : Program) (l : Launch) (e : Env) (R : Room) (s : State) (m : MethodId) (args : Array Value) (below : List Frame) (meth : Method) (c : Code),
    mC S M N0 b sa D cy a0 p l R s m args meth c → r.2.2.1 ≤ R.cells → r.2.2.2 ≤ R.slots → ∀ (ad : Nat → Nat) (H : Heap) (locs : List Loc) (ls : Array Slot), mS M N0 D cy a0 z0 s ad L h H locs ls →
      W p l e R s m args below meth c H locs k n (vx_MQ below (mQc N0 D cy a0 z0 r) (mXC N0 D cy a0 z0 r) args s r.2.2.1 r.2.2.2 (mA N0)) (F0 m pc ls (st.map (mv ad)))
section MR
variable {S : Nat × (Nat → Int32)} {M : mM} {pc k n : Nat} {L : List (Option Value)} {st : List Value} {h : mH} {r : mR}
/-- an instruction that moves stack and pc alone -/
theorem mr_go {pc' : Nat} {st st' : List Value} {x : Instr × Nat} (hf : mAt M pc = some x) (k9 : mF S M pc' L st' h k n r)
    (step : ∀ (p : Program) (l : Launch) (e : Env) (R : Room) (s : State) (m : MethodId) (args : Array Value) (below : List Frame) (meth : Method) (c : Code) (H : Heap) (locs : List Loc) (Q : State → Prop) (ls : Array Slot) (ad : Nat → Nat), p.tables.exec = Jvm.exec → c.code = M.2.1 → decode M.2.1 pc = .ok x →
      W p l e R s m args below meth c H locs k n Q (F0 m pc' ls (st'.map (mv ad))) → W p l e R s m args below meth c H locs k n Q (F0 m pc ls (st.map (mv ad)))) : mF S M pc L st h k n r :=
  fun N0 b sa D cy a0 z0 p l e R s m args below meth c C hk hn ad H locs ls X => step p l e R s m args below meth c H locs _ ls ad C.1 C.2.1 (mAt_dec C.2.2.1 hf) (k9 N0 b sa D cy a0 z0 p l e R s m args below meth c C hk hn ad H locs ls X)
theorem mr_if {P : Prop} {pt pf : Nat} {st st' : List Value} {x : Instr × Nat} (hf : mAt M pc = some x) (kt : P → mF S M pt L st' h k n r) (kf : ¬ P → mF S M pf L st' h k n r)
    (step : ∀ (p : Program) (l : Launch) (e : Env) (R : Room) (s : State) (m : MethodId) (args : Array Value) (below : List Frame) (meth : Method) (c : Code) (H : Heap) (locs : List Loc) (Q : State → Prop) (ls : Array Slot) (ad : Nat → Nat), p.tables.exec = Jvm.exec → c.code = M.2.1 → decode M.2.1 pc = .ok x →
      (P → W p l e R s m args below meth c H locs k n Q (F0 m pt ls (st'.map (mv ad)))) → (¬ P → W p l e R s m args below meth c H locs k n Q (F0 m pf ls (st'.map (mv ad)))) → W p l e R s m args below meth c H locs k n Q (F0 m pc ls (st.map (mv ad)))) : mF S M pc L st h k n r :=
  fun N0 b sa D cy a0 z0 p l e R s m args below meth c C hk hn ad H locs ls X => step p l e R s m args below meth c H locs _ ls ad C.1 C.2.1 (mAt_dec C.2.2.1 hf) (fun q => kt q N0 b sa D cy a0 z0 p l e R s m args below meth c C hk hn ad H locs ls X) (fun q => kf q N0 b sa D cy a0 z0 p l e R s m args below meth c C hk hn ad H locs ls X)
/-- an instruction that reads a local -/
theorem mr_ld {pc' i : Nat} {v : Value} {x : Instr × Nat} (hf : mAt M pc = some x) (hv : L[i]? = some (some v)) (k9 : mF S M pc' L (v :: st) h k n r)
    (step : ∀ (p : Program) (l : Launch) (e : Env) (R : Room) (s : State) (m : MethodId) (args : Array Value) (below : List Frame) (meth : Method) (c : Code) (H : Heap) (locs : List Loc) (Q : State → Prop) (ls : Array Slot) (ad : Nat → Nat), p.tables.exec = Jvm.exec → c.code = M.2.1 → decode M.2.1 pc = .ok x → ls[i]? = some (.val (mv ad v)) →
      W p l e R s m args below meth c H locs k n Q (F0 m pc' ls (mv ad v :: st.map (mv ad))) → W p l e R s m args below meth c H locs k n Q (F0 m pc ls (st.map (mv ad)))) : mF S M pc L st h k n r :=
  fun N0 b sa D cy a0 z0 p l e R s m args below meth c C hk hn ad H locs ls X => step p l e R s m args below meth c H locs _ ls ad C.1 C.2.1 (mAt_dec C.2.2.1 hf) (X.2.2.2.1.2.2 i v hv) (k9 N0 b sa D cy a0 z0 p l e R s m args below meth c C hk hn ad H locs ls X)
/-- an instruction that writes a local (one place) -/
theorem mr_st {pc' i : Nat} {v : Value} {st' : List Value} {x : Instr × Nat} (hf : mAt M pc = some x) (hi : i < M.2.2.1) (hc : mOk1 L i = true) (k9 : mF S M pc' (L.set i (some v)) st' h k n r)
    (step : ∀ (p : Program) (l : Launch) (e : Env) (R : Room) (s : State) (m : MethodId) (args : Array Value) (below : List Frame) (meth : Method) (c : Code) (H : Heap) (locs : List Loc) (Q : State → Prop) (ls : Array Slot) (ad : Nat → Nat), p.tables.exec = Jvm.exec → c.code = M.2.1 → decode M.2.1 pc = .ok x → mL ad ls M.2.2.1 L →
      (∀ ls' : Array Slot, lv_has ls' M.2.2.1 ((i, mv ad v) :: (mLs ad L).filter (fun q => !(q.1 == i) && !(q.1 + 1 == i && q.2.category == 2))) → W p l e R s m args below meth c H locs k n Q (F0 m pc' ls' (st'.map (mv ad)))) → W p l e R s m args below meth c H locs k n Q (F0 m pc ls (st.map (mv ad)))) : mF S M pc L st h k n r :=
  fun N0 b sa D cy a0 z0 p l e R s m args below meth c C hk hn ad H locs ls X => step p l e R s m args below meth c H locs _ ls ad C.1 C.2.1 (mAt_dec C.2.2.1 hf) X.2.2.2.1
    (fun ls' h' => k9 N0 b sa D cy a0 z0 p l e R s m args below meth c C hk hn ad H locs ls' ⟨X.1, X.2.1, X.2.2.1, mL.set1 rfl hc h', X.2.2.2.2⟩)
end MR
end
section
/-! ROWS OF THE SMALL MACHINE -/
section MR
variable {S : Nat × (Nat → Int32)} {M : mM} {pc k n : Nat} {L : List (Option Value)} {st : List Value} {h : mH} {r : mR}
theorem mr_iconst {i : Int} {v : Int32} (hf : mAt M pc = some (.iconst i, 1)) (hv : Int32.ofInt i = v) (k9 : mF S M (pc + 1) L (.int v :: st) h k n r) : mF S M pc L (st) h k n r := mr_go hf k9 (fun p l e R s m args below meth c H locs Q ls ad hx hb hd kk => lv_iconst hx hb hd hv kk)
theorem mr_bipush {i : Int} {v : Int32} (hf : mAt M pc = some (.bipush i, 2)) (hv : (Int8.ofInt i).toInt32 = v) (k9 : mF S M (pc + 2) L (.int v :: st) h k n r) : mF S M pc L (st) h k n r := mr_go hf k9 (fun p l e R s m args below meth c H locs Q ls ad hx hb hd kk => lv_bipush hx hb hd hv kk)
theorem mr_sipush {i : Int} {v : Int32} (hf : mAt M pc = some (.sipush i, 3)) (hv : (Int16.ofInt i).toInt32 = v) (k9 : mF S M (pc + 3) L (.int v :: st) h k n r) : mF S M pc L (st) h k n r := mr_go hf k9 (fun p l e R s m args below meth c H locs Q ls ad hx hb hd kk => lv_sipush hx hb hd hv kk)
theorem mr_lconst {i : Fin 2} {v : Int64} (hf : mAt M pc = some (.lconst i, 1)) (hv : Int64.ofNat (i : Nat) = v) (k9 : mF S M (pc + 1) L (.long v :: st) h k n r) : mF S M pc L (st) h k n r := mr_go hf k9 (fun p l e R s m args below meth c H locs Q ls ad hx hb hd kk => lv_lconst hx hb hd hv kk)
theorem mr_iadd {x y : Int32} (hf : mAt M pc = some (.iadd, 1))  (k9 : mF S M (pc + 1) L (.int (x + y) :: st) h k n r) : mF S M pc L (.int y :: .int x :: st) h k n r := mr_go hf k9 (fun p l e R s m args below meth c H locs Q ls ad hx hb hd kk => lv_iadd hx hb hd  kk)
theorem mr_isub {x y : Int32} (hf : mAt M pc = some (.isub, 1))  (k9 : mF S M (pc + 1) L (.int (x - y) :: st) h k n r) : mF S M pc L (.int y :: .int x :: st) h k n r := mr_go hf k9 (fun p l e R s m args below meth c H locs Q ls ad hx hb hd kk => lv_isub hx hb hd  kk)
theorem mr_imul {x y : Int32} (hf : mAt M pc = some (.imul, 1))  (k9 : mF S M (pc + 1) L (.int (x * y) :: st) h k n r) : mF S M pc L (.int y :: .int x :: st) h k n r := mr_go hf k9 (fun p l e R s m args below meth c H locs Q ls ad hx hb hd kk => lv_imul hx hb hd  kk)
theorem mr_iand {x y : Int32} (hf : mAt M pc = some (.iand, 1))  (k9 : mF S M (pc + 1) L (.int (x &&& y) :: st) h k n r) : mF S M pc L (.int y :: .int x :: st) h k n r := mr_go hf k9 (fun p l e R s m args below meth c H locs Q ls ad hx hb hd kk => lv_iand hx hb hd  kk)
theorem mr_ishr {x y : Int32} (hf : mAt M pc = some (.ishr, 1))  (k9 : mF S M (pc + 1) L (.int (x >>> (y &&& 31)) :: st) h k n r) : mF S M pc L (.int y :: .int x :: st) h k n r := mr_go hf k9 (fun p l e R s m args below meth c H locs Q ls ad hx hb hd kk => lv_ishr hx hb hd  kk)
theorem mr_ineg {x : Int32} (hf : mAt M pc = some (.ineg, 1))  (k9 : mF S M (pc + 1) L (.int (-x) :: st) h k n r) : mF S M pc L (.int x :: st) h k n r := mr_go hf k9 (fun p l e R s m args below meth c H locs Q ls ad hx hb hd kk => lv_ineg hx hb hd  kk)
theorem mr_idiv {x y : Int32} (hf : mAt M pc = some (.idiv, 1)) (hne : ¬ y = 0) (k9 : mF S M (pc + 1) L (.int (x / y) :: st) h k n r) : mF S M pc L (.int y :: .int x :: st) h k n r := mr_go hf k9 (fun p l e R s m args below meth c H locs Q ls ad hx hb hd kk => lv_idiv hx hb hd hne kk)
theorem mr_ladd {x y : Int64} (hf : mAt M pc = some (.ladd, 1))  (k9 : mF S M (pc + 1) L (.long (x + y) :: st) h k n r) : mF S M pc L (.long y :: .long x :: st) h k n r := mr_go hf k9 (fun p l e R s m args below meth c H locs Q ls ad hx hb hd kk => lv_ladd hx hb hd  kk)
theorem mr_lsub {x y : Int64} (hf : mAt M pc = some (.lsub, 1))  (k9 : mF S M (pc + 1) L (.long (x - y) :: st) h k n r) : mF S M pc L (.long y :: .long x :: st) h k n r := mr_go hf k9 (fun p l e R s m args below meth c H locs Q ls ad hx hb hd kk => lv_lsub hx hb hd  kk)
theorem mr_lmul {x y : Int64} (hf : mAt M pc = some (.lmul, 1))  (k9 : mF S M (pc + 1) L (.long (x * y) :: st) h k n r) : mF S M pc L (.long y :: .long x :: st) h k n r := mr_go hf k9 (fun p l e R s m args below meth c H locs Q ls ad hx hb hd kk => lv_lmul hx hb hd  kk)
theorem mr_ldiv {x y : Int64} (hf : mAt M pc = some (.ldiv, 1)) (hne : ¬ y = 0) (k9 : mF S M (pc + 1) L (.long (x / y) :: st) h k n r) : mF S M pc L (.long y :: .long x :: st) h k n r := mr_go hf k9 (fun p l e R s m args below meth c H locs Q ls ad hx hb hd kk => lv_ldiv hx hb hd hne kk)
theorem mr_lcmp {x y : Int64} (hf : mAt M pc = some (.lcmp, 1))  (k9 : mF S M (pc + 1) L (.int (lg_cmp x y) :: st) h k n r) : mF S M pc L (.long y :: .long x :: st) h k n r := mr_go hf k9 (fun p l e R s m args below meth c H locs Q ls ad hx hb hd kk => W.lcmp hx hb hd  kk)
theorem mr_i2l {x : Int32} (hf : mAt M pc = some (.i2l, 1))  (k9 : mF S M (pc + 1) L (.long x.toInt64 :: st) h k n r) : mF S M pc L (.int x :: st) h k n r := mr_go hf k9 (fun p l e R s m args below meth c H locs Q ls ad hx hb hd kk => lv_i2l hx hb hd rfl kk)
theorem mr_l2i {x : Int64} (hf : mAt M pc = some (.l2i, 1))  (k9 : mF S M (pc + 1) L (.int x.toInt32 :: st) h k n r) : mF S M pc L (.long x :: st) h k n r := mr_go hf k9 (fun p l e R s m args below meth c H locs Q ls ad hx hb hd kk => lv_l2i hx hb hd rfl kk)
theorem mr_dup {v : Value} (hf : mAt M pc = some (.dup, 1)) (hc : v.category = 1) (k9 : mF S M (pc + 1) L (v :: v :: st) h k n r) : mF S M pc L (v :: st) h k n r := mr_go hf k9 (fun p l e R s m args below meth c H locs Q ls ad hx hb hd kk => lv_dup hx hb hd ((mv_cat ad v).trans hc) kk)
theorem mr_pop {v : Value} (hf : mAt M pc = some (.pop, 1)) (hc : v.category = 1) (k9 : mF S M (pc + 1) L (st) h k n r) : mF S M pc L (v :: st) h k n r := mr_go hf k9 (fun p l e R s m args below meth c H locs Q ls ad hx hb hd kk => lv_pop hx hb hd ((mv_cat ad v).trans hc) kk)
theorem mr_dup2 {v u : Value} (hf : mAt M pc = some (.dup2, 1)) (hc : v.category = 1) (hc' : u.category = 1) (k9 : mF S M (pc + 1) L (v :: u :: v :: u :: st) h k n r) : mF S M pc L (v :: u :: st) h k n r := mr_go hf k9 (fun p l e R s m args below meth c H locs Q ls ad hx hb hd kk => lv_dup2_11 hx hb hd ((mv_cat ad v).trans hc) ((mv_cat ad u).trans hc') kk)
theorem mr_goto {off : Int} (tgt : Nat) (hf : mAt M pc = some (.goto off, 3)) (ht : (pc : Int) + off = (tgt : Int)) (k9 : mF S M tgt L st h k n r) : mF S M pc L st h k n r := mr_go hf k9 (fun p l e R s m args below meth c H locs Q ls ad hx hb hd kk => lv_goto hx hb hd ht kk)
theorem mr_if_eq {x : Int32} {off : Int} (tgt : Nat) (hf : mAt M pc = some (.ifCond .eq off, 3)) (ht : (pc : Int) + off = (tgt : Int)) (kt : (x = 0) → mF S M tgt L st h k n r) (kf : ¬ (x = 0) → mF S M (pc + 3) L st h k n r) : mF S M pc L (.int x :: st) h k n r := mr_if hf kt kf (fun p l e R s m args below meth c H locs Q ls ad hx hb hd k1 k2 => lv_if_eq hx hb hd ht k1 k2)
theorem mr_icmp_eq {x y : Int32} {off : Int} (tgt : Nat) (hf : mAt M pc = some (.if_icmp .eq off, 3)) (ht : (pc : Int) + off = (tgt : Int)) (kt : (x = y) → mF S M tgt L st h k n r) (kf : ¬ (x = y) → mF S M (pc + 3) L st h k n r) : mF S M pc L (.int y :: .int x :: st) h k n r := mr_if hf kt kf (fun p l e R s m args below meth c H locs Q ls ad hx hb hd k1 k2 => lv_icmp_eq hx hb hd ht k1 k2)
theorem mr_if_ne {x : Int32} {off : Int} (tgt : Nat) (hf : mAt M pc = some (.ifCond .ne off, 3)) (ht : (pc : Int) + off = (tgt : Int)) (kt : (¬ x = 0) → mF S M tgt L st h k n r) (kf : (x = 0) → mF S M (pc + 3) L st h k n r) : mF S M pc L (.int x :: st) h k n r := mr_if hf kf kt (fun p l e R s m args below meth c H locs Q ls ad hx hb hd k1 k2 => lv_if_ne hx hb hd ht k2 k1)
theorem mr_icmp_ne {x y : Int32} {off : Int} (tgt : Nat) (hf : mAt M pc = some (.if_icmp .ne off, 3)) (ht : (pc : Int) + off = (tgt : Int)) (kt : (¬ x = y) → mF S M tgt L st h k n r) (kf : (x = y) → mF S M (pc + 3) L st h k n r) : mF S M pc L (.int y :: .int x :: st) h k n r := mr_if hf kf kt (fun p l e R s m args below meth c H locs Q ls ad hx hb hd k1 k2 => lv_icmp_ne hx hb hd ht k2 k1)
theorem mr_if_lt {x : Int32} {off : Int} (tgt : Nat) (hf : mAt M pc = some (.ifCond .lt off, 3)) (ht : (pc : Int) + off = (tgt : Int)) (kt : (x < 0) → mF S M tgt L st h k n r) (kf : ¬ (x < 0) → mF S M (pc + 3) L st h k n r) : mF S M pc L (.int x :: st) h k n r := mr_if hf kt kf (fun p l e R s m args below meth c H locs Q ls ad hx hb hd k1 k2 => lv_if_lt hx hb hd ht k1 k2)
theorem mr_icmp_lt {x y : Int32} {off : Int} (tgt : Nat) (hf : mAt M pc = some (.if_icmp .lt off, 3)) (ht : (pc : Int) + off = (tgt : Int)) (kt : (x < y) → mF S M tgt L st h k n r) (kf : ¬ (x < y) → mF S M (pc + 3) L st h k n r) : mF S M pc L (.int y :: .int x :: st) h k n r := mr_if hf kt kf (fun p l e R s m args below meth c H locs Q ls ad hx hb hd k1 k2 => lv_icmp_lt hx hb hd ht k1 k2)
theorem mr_if_ge {x : Int32} {off : Int} (tgt : Nat) (hf : mAt M pc = some (.ifCond .ge off, 3)) (ht : (pc : Int) + off = (tgt : Int)) (kt : (0 ≤ x) → mF S M tgt L st h k n r) (kf : ¬ (0 ≤ x) → mF S M (pc + 3) L st h k n r) : mF S M pc L (.int x :: st) h k n r := mr_if hf kt kf (fun p l e R s m args below meth c H locs Q ls ad hx hb hd k1 k2 => lv_if_ge hx hb hd ht k1 k2)
theorem mr_icmp_ge {x y : Int32} {off : Int} (tgt : Nat) (hf : mAt M pc = some (.if_icmp .ge off, 3)) (ht : (pc : Int) + off = (tgt : Int)) (kt : (y ≤ x) → mF S M tgt L st h k n r) (kf : ¬ (y ≤ x) → mF S M (pc + 3) L st h k n r) : mF S M pc L (.int y :: .int x :: st) h k n r := mr_if hf kt kf (fun p l e R s m args below meth c H locs Q ls ad hx hb hd k1 k2 => lv_icmp_ge hx hb hd ht k1 k2)
theorem mr_if_gt {x : Int32} {off : Int} (tgt : Nat) (hf : mAt M pc = some (.ifCond .gt off, 3)) (ht : (pc : Int) + off = (tgt : Int)) (kt : (0 < x) → mF S M tgt L st h k n r) (kf : ¬ (0 < x) → mF S M (pc + 3) L st h k n r) : mF S M pc L (.int x :: st) h k n r := mr_if hf kt kf (fun p l e R s m args below meth c H locs Q ls ad hx hb hd k1 k2 => lv_if_gt hx hb hd ht k1 k2)
theorem mr_icmp_gt {x y : Int32} {off : Int} (tgt : Nat) (hf : mAt M pc = some (.if_icmp .gt off, 3)) (ht : (pc : Int) + off = (tgt : Int)) (kt : (y < x) → mF S M tgt L st h k n r) (kf : ¬ (y < x) → mF S M (pc + 3) L st h k n r) : mF S M pc L (.int y :: .int x :: st) h k n r := mr_if hf kt kf (fun p l e R s m args below meth c H locs Q ls ad hx hb hd k1 k2 => lv_icmp_gt hx hb hd ht k1 k2)
theorem mr_if_le {x : Int32} {off : Int} (tgt : Nat) (hf : mAt M pc = some (.ifCond .le off, 3)) (ht : (pc : Int) + off = (tgt : Int)) (kt : (x ≤ 0) → mF S M tgt L st h k n r) (kf : ¬ (x ≤ 0) → mF S M (pc + 3) L st h k n r) : mF S M pc L (.int x :: st) h k n r := mr_if hf kt kf (fun p l e R s m args below meth c H locs Q ls ad hx hb hd k1 k2 => lv_if_le hx hb hd ht k1 k2)
theorem mr_icmp_le {x y : Int32} {off : Int} (tgt : Nat) (hf : mAt M pc = some (.if_icmp .le off, 3)) (ht : (pc : Int) + off = (tgt : Int)) (kt : (x ≤ y) → mF S M tgt L st h k n r) (kf : ¬ (x ≤ y) → mF S M (pc + 3) L st h k n r) : mF S M pc L (.int y :: .int x :: st) h k n r := mr_if hf kt kf (fun p l e R s m args below meth c H locs Q ls ad hx hb hd k1 k2 => lv_icmp_le hx hb hd ht k1 k2)
theorem mr_tabOut {x : Int32} {dflt lo hi : Int} {offs : Array Int} {len : Nat} (tgt : Nat) (hf : mAt M pc = some (.tableswitch dflt lo hi offs, len)) (h1 : x.toInt < lo ∨ hi < x.toInt) (ht : (pc : Int) + dflt = (tgt : Int)) (k9 : mF S M tgt L st h k n r) : mF S M pc L (.int x :: st) h k n r := mr_go hf k9 (fun p l e R s m args below meth c H locs Q ls ad hx hb hd kk => lv_tableOut hx hb hd h1 ht kk)
theorem mr_tabIn {x : Int32} {dflt lo hi off : Int} {offs : Array Int} {len : Nat} (tgt : Nat) (hf : mAt M pc = some (.tableswitch dflt lo hi offs, len)) (h1 : ¬ x.toInt < lo) (h2 : ¬ hi < x.toInt) (ho : offs[(x.toInt - lo).toNat]? = some off) (ht : (pc : Int) + off = (tgt : Int)) (k9 : mF S M tgt L st h k n r) : mF S M pc L (.int x :: st) h k n r := mr_go hf k9 (fun p l e R s m args below meth c H locs Q ls ad hx hb hd kk => lv_tableIn hx hb hd h1 h2 ho ht kk)
theorem mr_iload_n {j : Fin 4} {x : Int32} (hf : mAt M pc = some (.iload_n j, 1)) (hv : L[(j : Nat)]? = some (some (.int x))) (k9 : mF S M (pc + 1) L (.int x :: st) h k n r) : mF S M pc L st h k n r := mr_ld hf hv k9 (fun p l e R s m args below meth c H locs Q ls ad hx hb hd hl kk => lv_iload_n hx hb hd rfl hl kk)
theorem mr_iload {i : Nat} {x : Int32} (hf : mAt M pc = some (.iload i, 2)) (hv : L[i]? = some (some (.int x))) (k9 : mF S M (pc + 2) L (.int x :: st) h k n r) : mF S M pc L st h k n r := mr_ld hf hv k9 (fun p l e R s m args below meth c H locs Q ls ad hx hb hd hl kk => lv_iload hx hb hd hl kk)
theorem mr_lload_n {j : Fin 4} {x : Int64} (hf : mAt M pc = some (.lload_n j, 1)) (hv : L[(j : Nat)]? = some (some (.long x))) (k9 : mF S M (pc + 1) L (.long x :: st) h k n r) : mF S M pc L st h k n r := mr_ld hf hv k9 (fun p l e R s m args below meth c H locs Q ls ad hx hb hd hl kk => lv_lload_n hx hb hd rfl hl kk)
theorem mr_lload {i : Nat} {x : Int64} (hf : mAt M pc = some (.lload i, 2)) (hv : L[i]? = some (some (.long x))) (k9 : mF S M (pc + 2) L (.long x :: st) h k n r) : mF S M pc L st h k n r := mr_ld hf hv k9 (fun p l e R s m args below meth c H locs Q ls ad hx hb hd hl kk => lv_lload hx hb hd hl kk)
theorem mr_aload_n {j : Fin 4} {x : Nat} (hf : mAt M pc = some (.aload_n j, 1)) (hv : L[(j : Nat)]? = some (some (.ref x))) (k9 : mF S M (pc + 1) L (.ref x :: st) h k n r) : mF S M pc L st h k n r := mr_ld hf hv k9 (fun p l e R s m args below meth c H locs Q ls ad hx hb hd hl kk => lv_aload_n hx hb hd rfl hl kk)
theorem mr_aload {i : Nat} {x : Nat} (hf : mAt M pc = some (.aload i, 2)) (hv : L[i]? = some (some (.ref x))) (k9 : mF S M (pc + 2) L (.ref x :: st) h k n r) : mF S M pc L st h k n r := mr_ld hf hv k9 (fun p l e R s m args below meth c H locs Q ls ad hx hb hd hl kk => lv_aload hx hb hd hl kk)
theorem mr_istore_n {j : Fin 4} {x : Int32} (hf : mAt M pc = some (.istore_n j, 1)) (hi : (j : Nat) < M.2.2.1) (hc : mOk1 L (j : Nat) = true) (k9 : mF S M (pc + 1) (L.set (j : Nat) (some (.int x))) st h k n r) : mF S M pc L (.int x :: st) h k n r := mr_st hf hi hc k9 (fun p l e R s m args below meth c H locs Q ls ad hx hb hd hl kk => lv_istore_n hx hb hd rfl hl.has hi rfl kk)
theorem mr_istore {i : Nat} {x : Int32} (hf : mAt M pc = some (.istore i, 2)) (hi : i < M.2.2.1) (hc : mOk1 L i = true) (k9 : mF S M (pc + 2) (L.set i (some (.int x))) st h k n r) : mF S M pc L (.int x :: st) h k n r := mr_st hf hi hc k9 (fun p l e R s m args below meth c H locs Q ls ad hx hb hd hl kk => lv_istore hx hb hd hl.has hi rfl kk)
theorem mr_astore_n {j : Fin 4} {x : Nat} (hf : mAt M pc = some (.astore_n j, 1)) (hi : (j : Nat) < M.2.2.1) (hc : mOk1 L (j : Nat) = true) (k9 : mF S M (pc + 1) (L.set (j : Nat) (some (.ref x))) st h k n r) : mF S M pc L (.ref x :: st) h k n r := mr_st hf hi hc k9 (fun p l e R s m args below meth c H locs Q ls ad hx hb hd hl kk => lv_astore_n hx hb hd rfl hl.has hi rfl kk)
theorem mr_astore {i : Nat} {x : Nat} (hf : mAt M pc = some (.astore i, 2)) (hi : i < M.2.2.1) (hc : mOk1 L i = true) (k9 : mF S M (pc + 2) (L.set i (some (.ref x))) st h k n r) : mF S M pc L (.ref x :: st) h k n r := mr_st hf hi hc k9 (fun p l e R s m args below meth c H locs Q ls ad hx hb hd hl kk => lv_astore hx hb hd hl.has hi rfl kk)
theorem mr_lstore_n {j : Fin 4} {x : Int64} (hf : mAt M pc = some (.lstore_n j, 1)) (hi : (j : Nat) + 1 < M.2.2.1) (hc : mOk1 L (j : Nat) = true) (k9 : mF S M (pc + 1) ((L.set (j : Nat) (some (.long x))).set ((j : Nat) + 1) none) st h k n r) : mF S M pc L (.long x :: st) h k n r :=
  fun N0 b sa D cy a0 z0 p l e R s m args below meth c C hk hn ad H locs ls X => lv_lstore_n C.1 C.2.1 (mAt_dec C.2.2.1 hf) rfl X.2.2.2.1.has hi rfl (fun ls' h' => k9 N0 b sa D cy a0 z0 p l e R s m args below meth c C hk hn ad H locs ls' ⟨X.1, X.2.1, X.2.2.1, mL.set2 rfl hc h', X.2.2.2.2⟩)
theorem mr_iinc {i : Nat} {d : Int} {x v : Int32} (hf : mAt M pc = some (.iinc i d, 3)) (hx0 : L[i]? = some (some (.int x))) (hv : x + Int32.ofInt d = v) (hi : i < M.2.2.1) (hc : mOk1 L i = true) (k9 : mF S M (pc + 3) (L.set i (some (.int v))) st h k n r) : mF S M pc L st h k n r := by
  refine mr_st hf hi hc k9 (fun p l e R s m args below meth c H locs Q ls ad hx hb hd hl kk => ?_)
  obtain ⟨j, hj⟩ := List.getElem?_of_mem (mLs_mem (ad := ad) (L := L) (q := (i, .int x)) |>.mpr ⟨_, hx0, rfl⟩)
  exact lv_iinc hx hb hd hl.has hj hv hi rfl kk
end MR
end
section
/-! ROWS OF THE SMALL MACHINE: the heap, the ends -/
section MRH
variable {S : Nat × (Nat → Int32)} {M : mM} {pc k n kf nf : Nat} {L : List (Option Value)} {st : List Value} {h : mH} {r : mR}
theorem mC.ts {S : Nat × (Nat → Int32)} {M : mM} {N0 b : Nat} {sa : Nat → Nat} {D : va_G} {cy : Nat → ClassId} {a0 : Nat → Nat} {p : Program} {l : Launch} {R : Room} {s : State} {m : MethodId} {args : Array Value} {meth : Method} {c : Code} (C : mC S M N0 b sa D cy a0 p l R s m args meth c) : ∀ w ∈ mTW, w.before args s = true := C.2.2.2.2.2.2.2.2.1
theorem mC.own {S : Nat × (Nat → Int32)} {M : mM} {N0 b : Nat} {sa : Nat → Nat} {D : va_G} {cy : Nat → ClassId} {a0 : Nat → Nat} {p : Program} {l : Launch} {R : Room} {s : State} {m : MethodId} {args : Array Value} {meth : Method} {c : Code} (C : mC S M N0 b sa D cy a0 p l R s m args meth c) : s.vm.findClass M.1.cls = some m.cls := C.2.2.2.2.2.2.1
theorem mC.G {S : Nat × (Nat → Int32)} {M : mM} {N0 b : Nat} {sa : Nat → Nat} {D : va_G} {cy : Nat → ClassId} {a0 : Nat → Nat} {p : Program} {l : Launch} {R : Room} {s : State} {m : MethodId} {args : Array Value} {meth : Method} {c : Code} (C : mC S M N0 b sa D cy a0 p l R s m args meth c) : mG N0 b S sa D cy s s.heap := C.2.2.2.2.2.2.2.2.2.2.2.1
theorem mC.K {S : Nat × (Nat → Int32)} {M : mM} {N0 b : Nat} {sa : Nat → Nat} {D : va_G} {cy : Nat → ClassId} {a0 : Nat → Nat} {p : Program} {l : Launch} {R : Room} {s : State} {m : MethodId} {args : Array Value} {meth : Method} {c : Code} (C : mC S M N0 b sa D cy a0 p l R s m args meth c) : va_K D mCl (mTys cy) s := C.G.1
theorem mC.locks {S : Nat × (Nat → Int32)} {M : mM} {N0 b : Nat} {sa : Nat → Nat} {D : va_G} {cy : Nat → ClassId} {a0 : Nat → Nat} {p : Program} {l : Launch} {R : Room} {s : State} {m : MethodId} {args : Array Value} {meth : Method} {c : Code} (C : mC S M N0 b sa D cy a0 p l R s m args meth c) : meth.locks = false := C.2.2.2.2.1
theorem mC.ret {S : Nat × (Nat → Int32)} {M : mM} {N0 b : Nat} {sa : Nat → Nat} {D : va_G} {cy : Nat → ClassId} {a0 : Nat → Nat} {p : Program} {l : Launch} {R : Room} {s : State} {m : MethodId} {args : Array Value} {meth : Method} {c : Code} (C : mC S M N0 b sa D cy a0 p l R s m args meth c) : meth.sig.returnType = M.2.2.2.1 := C.2.2.2.1
theorem mC.sz {S : Nat × (Nat → Int32)} {M : mM} {N0 b : Nat} {sa : Nat → Nat} {D : va_G} {cy : Nat → ClassId} {a0 : Nat → Nat} {p : Program} {l : Launch} {R : Room} {s : State} {m : MethodId} {args : Array Value} {meth : Method} {c : Code} (C : mC S M N0 b sa D cy a0 p l R s m args meth c) : N0 ≤ s.heap.size := C.G.2.2.2.2.2.2.2.2
/-- the ends -/
theorem mr_ireturn {x : Int32} (hf : mAt M pc = some (.ireturn, 1)) (hr : M.2.2.2.1 = some .int) (hk' : k ≤ kf) (hn' : n ≤ nf) : mF S M pc L [.int x] h k n (.inl (some (.int x)), h, kf, nf) := by
  intro N0 b sa D cy a0 z0 p l e R s m args below meth c C hk hn ad H locs ls X
  refine W.widen hk' hn' (vx_ret ?_)
  exact W.iret (v := x) C.1 C.2.1 (C.ret.trans hr) (fun t ht hW => ⟨some (.int x), ad, rfl, rfl, X.2.2.2.2.1, X.2.2.2.2.2.1, X.2.2.2.2.2.2, by rw [ht]; exact X.1, X.2.1, X.2.2.1.F ht⟩) X.2.2.1.2.2 (mAt_dec C.2.2.1 hf) C.locks
theorem mr_zreturn {x : Int32} (hf : mAt M pc = some (.ireturn, 1)) (hr : M.2.2.2.1 = some .boolean) (hx : x = 0 ∨ x = 1) (hk' : k ≤ kf) (hn' : n ≤ nf) : mF S M pc L [.int x] h k n (.inl (some (.int x)), h, kf, nf) := by
  intro N0 b sa D cy a0 z0 p l e R s m args below meth c C hk hn ad H locs ls X
  refine W.widen hk' hn' (vx_ret ?_)
  exact W.zret (v := x) (ty := .boolean) C.1 C.2.1 (C.ret.trans hr) (by rcases hx with rfl | rfl <;> rfl) (fun t ht hW => ⟨some (.int x), ad, rfl, rfl, X.2.2.2.2.1, X.2.2.2.2.2.1, X.2.2.2.2.2.2, by rw [ht]; exact X.1, X.2.1, X.2.2.1.F ht⟩) X.2.2.1.2.2 (mAt_dec C.2.2.1 hf) C.locks
theorem mr_lreturn {x : Int64} (hf : mAt M pc = some (.lreturn, 1)) (hr : M.2.2.2.1 = some .long) (hk' : k ≤ kf) (hn' : n ≤ nf) : mF S M pc L [.long x] h k n (.inl (some (.long x)), h, kf, nf) := by
  intro N0 b sa D cy a0 z0 p l e R s m args below meth c C hk hn ad H locs ls X
  refine W.widen hk' hn' (vx_ret ?_)
  exact W.lret (v := x) C.1 C.2.1 (C.ret.trans hr) (fun t ht hW => ⟨some (.long x), ad, rfl, rfl, X.2.2.2.2.1, X.2.2.2.2.2.1, X.2.2.2.2.2.2, by rw [ht]; exact X.1, X.2.1, X.2.2.1.F ht⟩) X.2.2.1.2.2 (mAt_dec C.2.2.1 hf) C.locks
theorem mr_return (hf : mAt M pc = some (.return_, 1)) (hr : M.2.2.2.1 = none) (hk' : k ≤ kf) (hn' : n ≤ nf) : mF S M pc L [] h k n (.inl none, h, kf, nf) := by
  intro N0 b sa D cy a0 z0 p l e R s m args below meth c C hk hn ad H locs ls X
  refine W.widen hk' hn' (vx_ret ?_)
  exact W.vret C.1 C.2.1 (C.ret.trans hr) (fun t ht hW => ⟨none, ad, rfl, rfl, X.2.2.2.2.1, X.2.2.2.2.2.1, X.2.2.2.2.2.2, by rw [ht]; exact X.1, X.2.1, X.2.2.1.F ht⟩) X.2.2.1.2.2 (mAt_dec C.2.2.1 hf) C.locks
/-- an int constant of the pool -/
theorem mr_ldc {i : Nat} {v : Int32} (hf : mAt M pc = some (.ldc i, 2)) (hw : Cond.constant M.1.cls i v ∈ mTW) (k9 : mF S M (pc + 2) L (.int v :: st) h k n r) : mF S M pc L st h k n r :=
  fun N0 b sa D cy a0 z0 p l e R s m args below meth c C hk hn ad H locs ls X => lv_ldc C.1 C.2.1 C.own (C.ts _ hw) (mAt_dec C.2.2.1 hf) (k9 N0 b sa D cy a0 z0 p l e R s m args below meth c C hk hn ad H locs ls X)
/-- a field by its entry: the class, the slot -/
def mLkF (own : String) (idx ci kf : Nat) : Prop := ∃ (C : String) (T : u_T) (N : Nat) (ty : Nat → FieldType), mCl[ci]? = some (C, T, N) ∧ kf < N ∧ Cond.fieldLink own idx (T kf).1 (T kf).2.1 (T kf).2.2.1 ∈ mTW ∧ (∀ w ∈ u_ws C T N, w ∈ mTW) ∧
  (∀ k, k < N → parseFieldDescriptor (T k).2.2.1 = some (ty k)) ∧ (∀ a, a < N → ∀ b, b < N → a ≠ b → (T a).2.1 ≠ (T b).2.1) ∧ (T kf).1 = own
theorem mr_getfield {idx ci j q : Nat} {fs : List Value} {v : Value} (hf : mAt M pc = some (.getfield idx, 3)) (lk : mLkF M.1.cls idx ci j) (hq : h[q]? = some (.inr (ci, fs))) (hv : fs[j]? = some v) (k9 : mF S M (pc + 3) L (v :: st) h k n r) : mF S M pc L (.ref q :: st) h k n r := by
  intro N0 b sa D cy a0 z0 p l e R s m args below meth c C hk hn ad H locs ls X
  obtain ⟨Cn, T, N, ty, hc, hj, hl, hin, -, -, -⟩ := lk
  refine va_get (D := D) (cl := mCl) (ci := ci) (C := Cn) (T := T) (N := N) C.1 C.2.1 C.ts hin C.own C.K X.1 q (fs := fs.map (mv ad)) (mw_at hq) hc j hj (C.ts _ hl) (fun _ h9 => h9) (v := mv ad v) (by rw [List.getElem?_map, hv]; rfl) (mAt_dec C.2.2.1 hf) ?_
  exact k9 N0 b sa D cy a0 z0 p l e R s m args below meth c C hk hn ad H locs ls X
theorem mS.upd {M : mM} {N0 : Nat} {D : va_G} {cy : Nat → ClassId} {a0 : Nat → Nat} {z0 : Nat} {s : State} {ad : Nat → Nat} {L : List (Option Value)} {h : mH} {H H1 : Heap} {locs locs1 : List Loc} {ls : Array Slot} {q : Nat} {e : mE} (X : mS M N0 D cy a0 z0 s ad L h H locs ls)
    (hP : va_P D mCl ((mw ad cy h).set q (ad q, mvE ad cy e)) H1) (hD : va_D (mA N0) ((mw ad cy h).set q (ad q, mvE ad cy e))) (hS : va_S (mA N0) s.heap H1 locs1) : mS M N0 D cy a0 z0 s ad L (h.set q e) H1 locs1 ls := by
  rw [mw_set] at hP hD
  exact ⟨hP, hD, hS, X.2.2.2.1, fun j hj => X.2.2.2.2.1 j (by rw [List.length_set] at hj; exact hj), by rw [List.length_set]; exact X.2.2.2.2.2.1, by rw [List.length_set]; exact X.2.2.2.2.2.2⟩
theorem mr_putfield {idx ci j q : Nat} {fs : List Value} {x : Int32} (hf : mAt M pc = some (.putfield idx, 3)) (lk : mLkF M.1.cls idx ci j) (hq : h[q]? = some (.inr (ci, fs))) (hl : j < fs.length) (hfin : ∀ q : vw_C, mCl[ci]? = some q → (q.2.1 j).2.2 = ("I", false))
    (k9 : mF S M (pc + 3) L st (h.set q (.inr (ci, fs.set j (.int x)))) k n r) : mF S M pc L (.int x :: .ref q :: st) h k n r := by
  intro N0 b sa D cy a0 z0 p l e R s m args below meth c C hk hn ad H locs ls X
  obtain ⟨Cn, T, N, ty, hc, hj, hlk, hin, hty, hnm, -⟩ := lk
  have hT : (T j).2.2 = ("I", false) := hfin _ hc
  refine va_put (D := D) (cl := mCl) (ci := ci) (C := Cn) (T := T) (N := N) (v := .int x) (ty := .int) C.1 C.2.1 C.ts hin ty hty hnm C.own C.K X.1 X.2.1 X.2.2.1 q (fs := fs.map (mv ad)) (mw_at hq) hc j hj (C.ts _ hlk) (fun _ h9 => h9) (by rw [hT]) (by rw [hT]; rfl) rfl rfl (by rw [List.length_map]; exact hl) (mAt_dec C.2.2.1 hf) (fun H1 locs1 hP hD hS => ?_)
  have e9 : (Sum.inr (ci, (fs.map (mv ad)).set j (.int x)) : va_E) = mvE ad cy (.inr (ci, fs.set j (.int x))) := by
    show Sum.inr (ci, (fs.map (mv ad)).set j (mv ad (.int x))) = Sum.inr (ci, (fs.set j (.int x)).map (mv ad))
    rw [List.map_set]
  rw [e9] at hP hD
  exact k9 N0 b sa D cy a0 z0 p l e R s m args below meth c C hk hn ad H1 locs1 ls (X.upd hP hD hS)
/-- a final field in the constructor: a reference to an array -/
theorem mr_putfinal {idx ci j q q' : Nat} {fs : List Value} (hf : mAt M pc = some (.putfield idx, 3)) (lk : mLkF M.1.cls idx ci j) (hq : h[q]? = some (.inr (ci, fs))) (hl : j < fs.length) (hfin : ∀ q : vw_C, mCl[ci]? = some q → (q.2.1 j).2.2 = ("[I", true) ∨ (q.2.1 j).2.2 = ("[Z", true)) (hin : M.1.name = "<init>")
    (k9 : mF S M (pc + 3) L st (h.set q (.inr (ci, fs.set j (.ref q')))) k n r) : mF S M pc L (.ref q' :: .ref q :: st) h k n r := by
  intro N0 b sa D cy a0 z0 p l e R s m args below meth c C hk hn ad H locs ls X
  obtain ⟨Cn, T, N, ty, hc, hj, hlk, hin9, hty, hnm, hdecl⟩ := lk
  have hinit : meth.name = "<init>" := C.2.2.2.2.2.2.2.1.trans hin
  have go : ∀ ty9 : FieldType, parseFieldDescriptor (T j).2.2.1 = some ty9 → (T j).2.2.2 = true → narrow ty9 (.ref (ad q')) = .ref (ad q') → fits ty9 (.ref (ad q')) = true → W p l e R s m args below meth c H locs k n (vx_MQ below (mQc N0 D cy a0 z0 r) (mXC N0 D cy a0 z0 r) args s r.2.2.1 r.2.2.2 (mA N0)) (F0 m pc ls (.ref (ad q') :: .ref (ad q) :: st.map (mv ad))) := by
    intro ty9 e1 e2 e3 e4
    refine va_putF (D := D) (cl := mCl) (ci := ci) (C := Cn) (T := T) (N := N) (v := .ref (ad q')) (ty := ty9) C.1 C.2.1 C.ts hin9 ty hty hnm C.own C.K X.1 X.2.1 X.2.2.1 q (fs := fs.map (mv ad)) (mw_at hq) hc j hj (C.ts _ hlk) (fun _ h9 => h9) e2 hinit hdecl e1 e3 e4 (by rw [List.length_map]; exact hl) (mAt_dec C.2.2.1 hf) (fun H1 locs1 hP hD hS => ?_)
    have e : (Sum.inr (ci, (fs.map (mv ad)).set j (.ref (ad q'))) : va_E) = mvE ad cy (.inr (ci, fs.set j (.ref q'))) := by
      show Sum.inr (ci, (fs.map (mv ad)).set j (mv ad (.ref q'))) = Sum.inr (ci, (fs.set j (.ref q')).map (mv ad))
      rw [List.map_set]
    rw [e] at hP hD
    exact k9 N0 b sa D cy a0 z0 p l _ R s m args below meth c C hk hn ad H1 locs1 ls (X.upd hP hD hS)
  rcases hfin _ hc with hT | hT
  · have hT : (T j).2.2 = ("[I", true) := hT
    exact go (.array .int) (by rw [hT]; decide +kernel) (by rw [hT]) rfl rfl
  · have hT : (T j).2.2 = ("[Z", true) := hT
    exact go (.array .boolean) (by rw [hT]; decide +kernel) (by rw [hT]) rfl rfl
/-- arrays -/
theorem mr_iaload {q N : Nat} {f : Nat → Int32} {i : Int32} (hf : mAt M pc = some (.iaload, 1)) (hq : h[q]? = some (.inl (0, N, .inl f))) (hin : vp_in i N) (k9 : mF S M (pc + 1) L (.int (f i.toNatClampNeg) :: st) h k n r) : mF S M pc L (.int i :: .ref q :: st) h k n r :=
  fun N0 b sa D cy a0 z0 p l e R s m args below meth c C hk hn ad H locs ls X => va_iald (tys := mTys cy) C.1 C.2.1 C.K X.1 q 0 (mw_at hq) rfl hin (mAt_dec C.2.2.1 hf) (k9 N0 b sa D cy a0 z0 p l e R s m args below meth c C hk hn ad H locs ls X)
theorem mr_baload {q N : Nat} {f : Nat → Int32} {i : Int32} (hf : mAt M pc = some (.baload, 1)) (hq : h[q]? = some (.inl (1, N, .inl f))) (hin : vp_in i N) (k9 : mF S M (pc + 1) L (.int (f i.toNatClampNeg) :: st) h k n r) : mF S M pc L (.int i :: .ref q :: st) h k n r :=
  fun N0 b sa D cy a0 z0 p l e R s m args below meth c C hk hn ad H locs ls X => va_zald (tys := mTys cy) C.1 C.2.1 C.K X.1 q 1 (mw_at hq) rfl hin (mAt_dec C.2.2.1 hf) (k9 N0 b sa D cy a0 z0 p l e R s m args below meth c C hk hn ad H locs ls X)
theorem mr_laload {q N : Nat} {f : Nat → Int64} {i : Int32} (hf : mAt M pc = some (.laload, 1)) (hq : h[q]? = some (.inl (2, N, .inr (.inl f)))) (hin : vp_in i N) (k9 : mF S M (pc + 1) L (.long (f i.toNatClampNeg) :: st) h k n r) : mF S M pc L (.int i :: .ref q :: st) h k n r :=
  fun N0 b sa D cy a0 z0 p l e R s m args below meth c C hk hn ad H locs ls X => va_lald (tys := mTys cy) C.1 C.2.1 C.K X.1 q 2 (mw_at hq) rfl hin (mAt_dec C.2.2.1 hf) (k9 N0 b sa D cy a0 z0 p l e R s m args below meth c C hk hn ad H locs ls X)
theorem mr_iastore {q N : Nat} {f : Nat → Int32} {i x : Int32} (hf : mAt M pc = some (.iastore, 1)) (hq : h[q]? = some (.inl (0, N, .inl f))) (hin : vp_in i N) (k9 : mF S M (pc + 1) L st (h.set q (.inl (0, N, .inl (upd f i.toNatClampNeg x)))) k n r) : mF S M pc L (.int x :: .int i :: .ref q :: st) h k n r :=
  fun N0 b sa D cy a0 z0 p l e R s m args below meth c C hk hn ad H locs ls X => va_iast (tys := mTys cy) C.1 C.2.1 C.K X.1 X.2.1 X.2.2.1 q 0 (mw_at hq) rfl hin (mAt_dec C.2.2.1 hf) (fun H1 locs1 hP hD hS => k9 N0 b sa D cy a0 z0 p l e R s m args below meth c C hk hn ad H1 locs1 ls (X.upd hP hD hS))
theorem mr_bastore {q N : Nat} {f : Nat → Int32} {i x : Int32} (hf : mAt M pc = some (.bastore, 1)) (hq : h[q]? = some (.inl (1, N, .inl f))) (hin : vp_in i N) (k9 : mF S M (pc + 1) L st (h.set q (.inl (1, N, .inl (upd f i.toNatClampNeg (vp_nar .boolean x))))) k n r) : mF S M pc L (.int x :: .int i :: .ref q :: st) h k n r :=
  fun N0 b sa D cy a0 z0 p l e R s m args below meth c C hk hn ad H locs ls X => va_zast (tys := mTys cy) C.1 C.2.1 C.K X.1 X.2.1 X.2.2.1 q 1 (mw_at hq) rfl hin (mAt_dec C.2.2.1 hf) (fun H1 locs1 hP hD hS => k9 N0 b sa D cy a0 z0 p l e R s m args below meth c C hk hn ad H1 locs1 ls (X.upd hP hD hS))
theorem mr_lastore {q N : Nat} {f : Nat → Int64} {i : Int32} {x : Int64} (hf : mAt M pc = some (.lastore, 1)) (hq : h[q]? = some (.inl (2, N, .inr (.inl f)))) (hin : vp_in i N) (k9 : mF S M (pc + 1) L st (h.set q (.inl (2, N, .inr (.inl (vp_updL f i.toNatClampNeg x))))) k n r) : mF S M pc L (.long x :: .int i :: .ref q :: st) h k n r :=
  fun N0 b sa D cy a0 z0 p l e R s m args below meth c C hk hn ad H locs ls X => va_last (tys := mTys cy) C.1 C.2.1 C.K X.1 X.2.1 X.2.2.1 q 2 (mw_at hq) rfl hin (mAt_dec C.2.2.1 hf) (fun H1 locs1 hP hD hS => k9 N0 b sa D cy a0 z0 p l e R s m args below meth c C hk hn ad H1 locs1 ls (X.upd hP hD hS))
theorem mr_alen {q : Nat} {x : vp_A} {v : Int32} (hf : mAt M pc = some (.arraylength, 1)) (hq : h[q]? = some (.inl (0, x))) (hv : Int32.ofNat x.1 = v) (k9 : mF S M (pc + 1) L (.int v :: st) h k n r) : mF S M pc L (.ref q :: st) h k n r :=
  fun N0 b sa D cy a0 z0 p l e R s m args below meth c C hk hn ad H locs ls X => va_alen (tys := mTys cy) C.1 C.2.1 C.K X.1 q 0 (mw_at hq) rfl hv (mAt_dec C.2.2.1 hf) (k9 N0 b sa D cy a0 z0 p l e R s m args below meth c C hk hn ad H locs ls X)
theorem mS.scr {S : Nat × (Nat → Int32)} {M : mM} {N0 b : Nat} {sa : Nat → Nat} {D : va_G} {cy : Nat → ClassId} {a0 : Nat → Nat} {p : Program} {l : Launch} {R : Room} {s : State} {m : MethodId} {args : Array Value} {meth : Method} {c : Code} {z0 : Nat} {ad : Nat → Nat} {L : List (Option Value)} {h : mH} {H : Heap} {locs : List Loc} {ls : Array Slot}
    (C : mC S M N0 b sa D cy a0 p l R s m args meth c) (X : mS M N0 D cy a0 z0 s ad L h H locs ls) : ad 1000 = b ∧ va_X b S.1 S.2 s s.heap ∧ b < s.heap.size ∧ ¬ mA N0 b := by
  have h1 := C.G.2.2.2.2.2.2
  refine ⟨(X.2.2.2.2.1 1000 (Or.inr X.2.2.2.2.2.2)).trans C.2.2.2.2.2.2.2.2.2.2.2.2.1, h1.1, Nat.lt_of_lt_of_le h1.2.1 h1.2.2, Nat.not_le.mpr h1.2.1⟩
theorem mr_sload {i : Int32} (hf : mAt M pc = some (.iaload, 1)) (hin : vp_in i S.1) (k9 : mF S M (pc + 1) L (.int (S.2 i.toNatClampNeg) :: st) h k n r) : mF S M pc L (.int i :: .ref 1000 :: st) h k n r := by
  intro N0 b sa D cy a0 z0 p l e R s m args below meth c C hk hn ad H locs ls X
  obtain ⟨e1, hX, hb, hA⟩ := mS.scr C X
  show W p l e R s m args below meth c H locs k n _ (F0 m pc ls (.int i :: .ref (ad 1000) :: st.map (mv ad)))
  rw [e1]
  exact va_sld C.1 C.2.1 hX hb hA X.2.2.1 hin (mAt_dec C.2.2.1 hf) (k9 N0 b sa D cy a0 z0 p l e R s m args below meth c C hk hn ad H locs ls X)
theorem mr_slen (hf : mAt M pc = some (.arraylength, 1)) (k9 : mF S M (pc + 1) L (.int (Int32.ofNat S.1) :: st) h k n r) : mF S M pc L (.ref 1000 :: st) h k n r := by
  intro N0 b sa D cy a0 z0 p l e R s m args below meth c C hk hn ad H locs ls X
  obtain ⟨e1, hX, hb, hA⟩ := mS.scr C X
  show W p l e R s m args below meth c H locs k n _ (F0 m pc ls (.ref (ad 1000) :: st.map (mv ad)))
  rw [e1]
  exact va_slen C.1 C.2.1 hX hb hA X.2.2.1 (mAt_dec C.2.2.1 hf) (k9 N0 b sa D cy a0 z0 p l e R s m args below meth c C hk hn ad H locs ls X)
/-- Object's constructor -/
theorem mr_objInit {idx q : Nat} (hf : mAt M pc = some (.invokespecial idx, 3)) (h1 : Cond.methodLink M.1.cls idx objectInit ∈ mTW) (h2 : Cond.instanceMethod objectInit ∈ mTW) (h3 : Cond.code objectInit ⟨#[0xb1]⟩ 1 none ∈ mTW) (hfr : 1 ≤ M.2.2.2.2.2.1) (hlo : (st.map fun v => v.category).sum + 12 ≤ M.2.2.2.2.2.2.1)
    (k9 : mF S M (pc + 3) L st h k n r) : mF S M pc L (.ref q :: st) h k n r := by
  intro N0 b sa D cy a0 z0 p l e R s m args below meth c C hk hn ad H locs ls X
  have e9 : (((st.map (mv ad)).map fun v => v.category).sum) = (st.map fun v => v.category).sum := by rw [List.map_map]; congr 1; exact List.map_congr_left (fun v _ => mv_cat ad v)
  refine W.objInit (g := F0 m pc ls (.ref (ad q) :: st.map (mv ad))) (rest := st.map (mv ad)) C.1 C.2.1 C.own (C.ts _ h1) (C.ts _ h2) (C.ts _ h3) rfl (X.2.2.2.1.1.trans C.2.2.2.2.2.1.symm) rfl (mAt_dec C.2.2.1 hf) (Nat.le_trans hfr C.2.2.2.2.2.2.2.2.2.2.2.2.2.1) ?_ (k9 N0 b sa D cy a0 z0 p l e R s m args below meth c C hk hn ad H locs ls X)
  rw [e9]
  refine Nat.le_trans ?_ C.2.2.2.2.2.2.2.2.2.2.2.2.2.2
  show 2 * (F0 m pc ls (.ref (ad q) :: st.map (mv ad))).monitorRoom + _ + 12 ≤ _
  have : (F0 m pc ls (.ref (ad q) :: st.map (mv ad))).monitorRoom = 0 := rfl
  omega
end MRH
end
section
/-! ROWS OF THE SMALL MACHINE: calls -/
section MRC
variable {S : Nat × (Nat → Int32)} {M M' : mM} {pc k n kf nf : Nat} {L : List (Option Value)} {st : List Value} {h : mH} {r r' : mR} {As : List Value}
/-- a callee by its words -/
def mLkM (M' : mM) (np : Nat) : Prop := (if M'.2.2.2.2.1 = [] then Cond.code M'.1 M'.2.1 M'.2.2.1 M'.2.2.2.1 ∈ mTW else Cond.codeWith M'.1 M'.2.1 M'.2.2.1 M'.2.2.2.1 M'.2.2.2.2.1 ∈ mTW) ∧ Cond.initialized M'.1.cls ∈ mTW ∧ plainName M'.1.cls = true ∧
  (M'.1.cls ≠ "java/lang/invoke/MethodHandle" ∧ M'.1.cls ≠ "java/lang/invoke/VarHandle") ∧ (parseMethodDescriptor M'.1.desc).map (fun d => d.parameters.length) = some np ∧ mOk M'
def mRoom (M M' : mM) : Bool := decide (M'.2.2.2.2.2.1 + 1 ≤ M.2.2.2.2.2.1) && decide (8 + (M'.2.2.1 + 11) + M'.2.2.2.2.2.2.1 ≤ M.2.2.2.2.2.2.1)
/-- a call's start -/
def mPc (S : Nat × (Nat → Int32)) (N0 b : Nat) (sa : Nat → Nat) (D : va_G) (cy : Nat → ClassId) (a0 : Nat → Nat) (As : List Value) (h : mH) (l : Launch) : Array Value → State → Prop := fun v U =>
  v = (As.map (mv a0)).toArray ∧ va_P D mCl (mw a0 cy h) U.heap ∧ va_D (mA N0) (mw a0 cy h) ∧ mG N0 b S sa D cy U U.heap ∧ a0 1000 = b ∧ h.length ≤ 1000 ∧ l.stackTraces = false
theorem mPc.blind {N0 b : Nat} {sa : Nat → Nat} {D : va_G} {cy : Nat → ClassId} {a0 : Nat → Nat} {l : Launch} : FrameBlind (mPc S N0 b sa D cy a0 As h l) := fun _ _ _ _ q => ⟨q.1, q.2.1, q.2.2.1, q.2.2.2.1.calling, q.2.2.2.2⟩
abbrev mWs (M' : mM) : List Cond := (if M'.2.2.2.2.1 = [] then Cond.code M'.1 M'.2.1 M'.2.2.1 M'.2.2.2.1 else Cond.codeWith M'.1 M'.2.1 M'.2.2.1 M'.2.2.2.1 M'.2.2.2.2.1) :: mTW
abbrev mRm (M' : mM) (r : mR) : Room := { frames := M'.2.2.2.2.2.1, cells := r.2.2.1, slots := r.2.2.2, locals := M'.2.2.2.2.2.2.1 }
/-- the contract of a method, out of its run -/
theorem mc_met (hc : mF S M' 0 (mEnt As M'.2.2.1) [] h 0 0 r') (hn : (mA0 As).length ≤ M'.2.2.1) {np : Nat} (lk : mLkM M' np) (N0 b : Nat) (sa : Nat → Nat) (D : va_G) (cy : Nat → ClassId) (a0 : Nat → Nat) (l : Launch) :
    vx_Met l M'.1 (mWs M') (mRm M' r') (mPc S N0 b sa D cy a0 As h l) (mQc N0 D cy a0 h.length r') (mXC N0 D cy a0 h.length r') r'.2.2.1 r'.2.2.2 (mA N0) := by
  obtain ⟨-, -, hpl, -, -, hok⟩ := lk
  have body : ∀ (p : Program) (e : Env) (s : State) (m : MethodId) (args : Array Value) (below : List Frame) (meth : Method) (c : Code) (s₁ : State), BodyLoose p l M'.1 (headSpec (mWs M') (mRm M' r')) M'.2.1 M'.2.2.1 M'.2.2.2.1 e s m args below meth c s₁ → c.maxLocals = M'.2.2.1 → c.exceptionTable.toList = tableOf M'.2.2.2.2.1 → mPc S N0 b sa D cy a0 As h l args s →
      W p l e (headSpec (mWs M') (mRm M' r')).room s m args below meth c s.heap [] 0 0 (vx_MQ below (mQc N0 D cy a0 h.length r') (mXC N0 D cy a0 h.length r') args s r'.2.2.1 r'.2.2.2 (mA N0)) (entryFrame m args M'.2.2.1) := by
    intro p e s m args below meth c s₁ B hml htab ⟨hv, hP, hD, hG, h1, h2, h3⟩
    subst hv
    have hts := atoms_spec (ws := mWs M') B.pre
    rw [lg_entry_eq]
    exact hc N0 b sa D cy a0 h.length p l e (headSpec (mWs M') (mRm M' r')).room s m _ below meth c
      ⟨B.exec, B.bytes, hok, B.returns, B.notSynchronized, hml, findClass_of_methodNamed B.named, (name_of_methodNamed B.named B.method).1, fun w hw => hts w (List.mem_cons_of_mem _ hw), htab, h3, hG, h1, Nat.le_refl _, Nat.le_refl _⟩
      (Nat.le_refl _) (Nat.le_refl _) a0 s.heap [] _ ⟨hP, hD, va_S.rf, mL_entry a0 As hn, fun _ _ => rfl, Nat.le_refl _, h2⟩
  by_cases hh : M'.2.2.2.2.1 = []
  · refine vx_ofW (cc := M'.2.1) (maxL := M'.2.2.1) (ret := M'.2.2.2.1) (ws' := mTW) hpl (by unfold mWs; rw [if_pos hh]) ?_
    intro p e s m args below meth c s₁ B hml ht hv
    refine body p e s m args below meth c s₁ B hml ?_ hv
    rw [hh]
    cases hx : c.exceptionTable.toList with
    | nil => rfl
    | cons y ys => exact absurd (ht y (by rw [hx]; exact List.mem_cons_self)) (fun q => q)
  · refine vx_ofWH (cc := M'.2.1) (maxL := M'.2.2.1) (ret := M'.2.2.2.1) (hh := M'.2.2.2.2.1) (ws' := mTW) hpl (by unfold mWs; rw [if_neg hh]) ?_
    intro p e s m args below meth c s₁ B hml hv
    refine body p e s m args below meth c s₁ B hml ?_ hv
    have hw : Cond.codeWith M'.1 M'.2.1 M'.2.2.1 M'.2.2.2.1 M'.2.2.2.2.1 ∈ mWs M' := by unfold mWs; rw [if_neg hh]; exact List.mem_cons_self
    exact vx_table (x := M'.1) B (atoms_spec (ws := mWs M') B.pre _ hw)
theorem m_good {w : Cond} (h : w ∈ mTW) : w ∈ lw_tbl ∧ goodWord w = true := List.mem_filter.mp h
theorem m_pay {s : State} {args : Array Value} (hts : ∀ w ∈ mTW, w.before args s = true) {np : Nat} (lk : mLkM M' np) : ∀ w ∈ mWs M', ∀ (a' : Array Value) (U : State), s.WarmedH U.vm → w.before a' U = true := by
  intro w hw a' U hW
  have : w ∈ mTW := by
    rcases List.mem_cons.mp hw with rfl | h
    · have h1 := lk.1
      split at h1
      · rename_i hh; rw [if_pos hh]; exact h1
      · rename_i hh; rw [if_neg hh]; exact h1
    · exact h
  exact word_at hW (good_of_word (m_good this).2) (hts w this)
theorem m_sum (ad : Nat → Nat) (st : List Value) : (((st.map (mv ad)).map fun v => v.category).sum) = (st.map fun v => v.category).sum := by rw [List.map_map]; congr 1; exact List.map_congr_left (fun v _ => mv_cat ad v)
/-- what a call's run says of the caller -/
def mRun (S : Nat × (Nat → Int32)) (M : mM) (pc : Nat) (L : List (Option Value)) (st rest : List Value) (h : mH) (k n : Nat) (r' : mR) : Prop :=
  ∀ (N0 b : Nat) (sa : Nat → Nat) (D : va_G) (cy : Nat → ClassId) (a0 : Nat → Nat) (z0 : Nat) (p : Program) (l : Launch) (e : Env) (R : Room) (s : State) (m : MethodId) (args : Array Value) (below : List Frame) (meth : Method) (c : Code),
    mC S M N0 b sa D cy a0 p l R s m args meth c → k + r'.2.2.1 ≤ R.cells → n + r'.2.2.2 ≤ R.slots → ∀ (ad : Nat → Nat) (H : Heap) (locs : List Loc) (ls : Array Slot), mS M N0 D cy a0 z0 s ad L h H locs ls →
      ∃ a : Array Value, vx_Run p l e R s m args below meth c H locs k n r'.2.2.1 r'.2.2.2 (F0 m pc ls (st.map (mv ad))) (rest.map (mv ad)) (mQc N0 D cy ad h.length r' a) (mXC N0 D cy ad h.length r') (mA N0)
theorem m_pre {N0 b : Nat} {sa : Nat → Nat} {D : va_G} {cy : Nat → ClassId} {a0 : Nat → Nat} {p : Program} {l : Launch} {R : Room} {s : State} {m : MethodId} {args : Array Value} {meth : Method} {c : Code} {z0 : Nat} {ad : Nat → Nat} {H : Heap} {locs : List Loc} {ls : Array Slot}
    (C : mC S M N0 b sa D cy a0 p l R s m args meth c) (X : mS M N0 D cy a0 z0 s ad L h H locs ls) (As : List Value) (U : State) (hU : U.heap = H) (hW : s.WarmedH U.vm) : mPc S N0 b sa D cy ad As h l (As.map (mv ad)).toArray U := by
  refine ⟨rfl, by rw [hU]; exact X.1, X.2.1, ?_, (mS.scr C X).1, X.2.2.2.2.2.2, C.2.2.2.2.2.2.2.2.2.2.1⟩
  rw [hU]
  exact mG.warm hW X.2.2.1 C.G
theorem m_room (hr : mRoom M M' = true) {R : Room} (h1 : M.2.2.2.2.2.1 ≤ R.frames) (h2 : M.2.2.2.2.2.2.1 ≤ R.locals) : M'.2.2.2.2.2.1 + 1 ≤ R.frames ∧ 8 + (M'.2.2.1 + 11) + M'.2.2.2.2.2.2.1 ≤ R.locals := by
  simp only [mRoom, Bool.and_eq_true, decide_eq_true_eq] at hr
  omega
def mLkS (own : String) (idx : Nat) (M' : mM) (np : Nat) : Prop := Cond.methodLink own idx M'.1 ∈ mTW ∧ Cond.static M'.1 ∈ mTW ∧ mLkM M' np
def mLkV (own : String) (idx : Nat) (M' : mM) (np : Nat) : Prop := Cond.methodLink own idx M'.1 ∈ mTW ∧ Cond.instanceMethod M'.1 ∈ mTW ∧ Cond.selects M'.1.cls M'.1 M'.1 ∈ mTW ∧ M'.2.2.2.2.1 = [] ∧ mLkM M' np
def mLkI (own : String) (idx : Nat) (M' : mM) (np : Nat) : Prop := Cond.methodLink own idx M'.1 ∈ mTW ∧ Cond.instanceMethod M'.1 ∈ mTW ∧ M'.1.name = "<init>" ∧ M'.2.2.2.1 = none ∧ M'.2.2.2.2.1 = [] ∧ mLkM M' np
theorem m_len {y : MethodName} {np : Nat} (h : (parseMethodDescriptor y.desc).map (fun d => d.parameters.length) = some np) : ∀ sig, parseMethodDescriptor y.desc = some sig → np = sig.parameters.length := by
  intro sig h9
  rw [h9] at h
  exact (Option.some.inj h).symm
theorem mRunS {idx : Nat} {rest : List Value} (hf : mAt M pc = some (.invokestatic idx, 3)) (lk : mLkS M.1.cls idx M' As.length) (hr : mRoom M M' = true) (hn : (mA0 As).length ≤ M'.2.2.1) (hsum : (rest.map fun v => v.category).sum ≤ 8)
    (hc : mF S M' 0 (mEnt As M'.2.2.1) [] h 0 0 r') : mRun S M pc L (As.reverse ++ rest) rest h k n r' := by
  intro N0 b sa D cy a0 z0 p l e R s m args below meth c C hk hn9 ad H locs ls X
  obtain ⟨l1, l2, l3⟩ := lk
  have hM := mc_met hc hn l3 N0 b sa D cy ad l
  have hR := m_room hr C.2.2.2.2.2.2.2.2.2.2.2.2.2.1 C.2.2.2.2.2.2.2.2.2.2.2.2.2.2
  have hp : PreS s H (mPc S N0 b sa D cy ad As h l) (As.map (mv ad)) := ⟨mPc.blind, fun U hU hW => m_pre C X As U hU hW⟩
  have hst : (F0 m pc ls ((As.reverse ++ rest).map (mv ad))).stack = (As.map (mv ad)).reverse ++ rest.map (mv ad) := by
    show (As.reverse ++ rest).map (mv ad) = _
    rw [List.map_append, List.map_reverse]
  have hsm : 2 * (F0 m pc ls ((As.reverse ++ rest).map (mv ad))).monitorRoom + ((rest.map (mv ad)).map fun v => v.category).sum ≤ 8 := by
    rw [m_sum]
    have : (F0 m pc ls ((As.reverse ++ rest).map (mv ad))).monitorRoom = 0 := rfl
    omega
  refine ⟨(As.map (mv ad)).toArray, ?_⟩
  obtain ⟨q1, q2, q3, q4, q5, q6⟩ := id l3
  by_cases hh : M'.2.2.2.2.1 = []
  · rw [if_pos hh] at q1
    exact vx_runS (ws := mWs M') (rm := mRm M' r') (bytes := M'.2.1) (maxL := M'.2.2.1) (ret := M'.2.2.2.1) (own := M.1.cls) (Ts := mTW) ⟨C.1, C.2.1, C.2.2.2.2.2.1, C.own, C.ts⟩ hM
      ⟨⟨rfl, rfl, hR.1, hR.2, m_pay C.ts l3, by unfold mWs; rw [if_pos hh]; exact List.mem_cons_self, C.ts _ q1, C.ts _ q2, q4, m_len q5, C.ts _ l1⟩, C.ts _ l2⟩ hp rfl (by rw [List.length_map]) X.2.2.2.1.1 hst hsm (mAt_dec C.2.2.1 hf) ⟨hk, hn9⟩
  · rw [if_neg hh] at q1
    exact vx_runSX (hh := M'.2.2.2.2.1) (ws := mWs M') (rm := mRm M' r') (bytes := M'.2.1) (maxL := M'.2.2.1) (ret := M'.2.2.2.1) (own := M.1.cls) (Ts := mTW) ⟨C.1, C.2.1, C.2.2.2.2.2.1, C.own, C.ts⟩ hM
      ⟨⟨rfl, rfl, hR.1, hR.2, m_pay C.ts l3, by unfold mWs; rw [if_neg hh]; exact List.mem_cons_self⟩, C.ts _ q1, C.ts _ q2, q4, m_len q5, C.ts _ l1, C.ts _ l2⟩ hp rfl (by rw [List.length_map]) X.2.2.2.1.1 hst hsm (mAt_dec C.2.2.1 hf) ⟨hk, hn9⟩
theorem mRunV {idx q ci : Nat} {fs : List Value} {rest : List Value} (hf : mAt M pc = some (.invokevirtual idx, 3)) (lk : mLkV M.1.cls idx M' As.length) (hq : h[q]? = some (.inr (ci, fs))) (hci : (mCl[ci]?).map (fun q => q.1) = some M'.1.cls) (hr : mRoom M M' = true) (hn : (mA0 (.ref q :: As)).length ≤ M'.2.2.1) (hsum : (rest.map fun v => v.category).sum ≤ 8)
    (hc : mF S M' 0 (mEnt (.ref q :: As) M'.2.2.1) [] h 0 0 r') : mRun S M pc L (As.reverse ++ .ref q :: rest) rest h k n r' := by
  intro N0 b sa D cy a0 z0 p l e R s m args below meth c C hk hn9 ad H locs ls X
  obtain ⟨l1, l2, l4, hh, l3⟩ := lk
  have hM := mc_met hc hn l3 N0 b sa D cy ad l
  have hR := m_room hr C.2.2.2.2.2.2.2.2.2.2.2.2.2.1 C.2.2.2.2.2.2.2.2.2.2.2.2.2.2
  obtain ⟨qc, hqc, hqn⟩ : ∃ qc, mCl[ci]? = some qc ∧ qc.1 = M'.1.cls := by
    cases hx : mCl[ci]? with
    | none => rw [hx] at hci; cases hci
    | some qc => rw [hx] at hci; exact ⟨qc, rfl, Option.some.inj hci⟩
  have hrecv := va_recv C.K X.1 hqc (mw_at hq)
  rw [hqn] at hrecv
  have hp : PreV s H M'.1.cls (ad q) (mPc S N0 b sa D cy ad (.ref q :: As) h l) (As.map (mv ad)) := ⟨mPc.blind, hrecv, fun U hU hW => m_pre C X (.ref q :: As) U hU hW⟩
  have hst : (F0 m pc ls ((As.reverse ++ .ref q :: rest).map (mv ad))).stack = (As.map (mv ad)).reverse ++ .ref (ad q) :: rest.map (mv ad) := by
    show (As.reverse ++ .ref q :: rest).map (mv ad) = _
    rw [List.map_append, List.map_reverse]
    rfl
  have hsm : 2 * (F0 m pc ls ((As.reverse ++ .ref q :: rest).map (mv ad))).monitorRoom + ((rest.map (mv ad)).map fun v => v.category).sum ≤ 8 := by
    rw [m_sum]
    have : (F0 m pc ls ((As.reverse ++ .ref q :: rest).map (mv ad))).monitorRoom = 0 := rfl
    omega
  refine ⟨(Value.ref (ad q) :: As.map (mv ad)).toArray, ?_⟩
  obtain ⟨q1, q2, q3, q4, q5, q6⟩ := id l3
  rw [if_pos hh] at q1
  exact vx_runV (ws := mWs M') (rm := mRm M' r') (bytes := M'.2.1) (maxL := M'.2.2.1) (ret := M'.2.2.2.1) (own := M.1.cls) (C := M'.1.cls) (Ts := mTW) ⟨C.1, C.2.1, C.2.2.2.2.2.1, C.own, C.ts⟩ hM
    ⟨⟨rfl, rfl, hR.1, hR.2, m_pay C.ts l3, by unfold mWs; rw [if_pos hh]; exact List.mem_cons_self, C.ts _ q1, C.ts _ q2, q4, m_len q5, C.ts _ l1⟩, C.ts _ l2, C.ts _ l4⟩ hp rfl (by rw [List.length_map]) X.2.2.2.1.1 hst hsm (mAt_dec C.2.2.1 hf) ⟨hk, hn9⟩
/-- a call that returns; the callee makes no thing of the world -/
theorem mr_ret {rest : List Value} {v : Option Value} {h' : mH} {k' n' : Nat} (hrun : mRun S M pc L st rest h k n (.inl v, h', k', n')) (hl : h'.length = h.length) (hk' : k + k' ≤ r.2.2.1) (hn' : n + n' ≤ r.2.2.2) (k9 : mF S M (pc + 3) L (v.toList ++ rest) h' (k + k') (n + n') r) : mF S M pc L st h k n r := by
  intro N0 b sa D cy a0 z0 p l e R s m args below meth c C hk hn ad H locs ls X
  obtain ⟨av, hr⟩ := hrun N0 b sa D cy a0 z0 p l e R s m args below meth c C (Nat.le_trans hk' hk) (Nat.le_trans hn' hn) ad H locs ls X
  intro T hT Y
  rcases hr T hT Y with ⟨w, st₀, t, T', L', h0, Y', hL, e1, e2, ⟨v2, ad2, e3, e4, p1, p2, p3, p4, p5, p6⟩, go⟩ | ⟨q, st₀, t, T', L', E, ce, h0, Y', hL, e1, e2, ⟨e3, -⟩, -⟩
  · cases e3
    cases e4
    have e5 : ad2 = ad := funext fun j => p1 j (by
      show j < h.length ∨ h'.length ≤ j
      omega)
    subst e5
    have hS2 : va_S (mA N0) s.heap T'.heap (locs ++ L') := by
      obtain ⟨f1, f2⟩ := p6
      rw [h0] at f1 f2
      refine ⟨Nat.le_trans X.2.2.1.1 (by rw [e1]; exact f1), fun j hj hA => ?_, fun j hj => ?_⟩
      · rw [e1, f2 j (Nat.lt_of_lt_of_le hj X.2.2.1.1) hA]
        exact X.2.2.1.2.1 j hj hA
      · rcases List.mem_append.mp hj with z | z
        · exact X.2.2.1.2.2 j z
        · exact hL j z
    have X2 : mS M N0 D cy a0 z0 s ad2 L h' T'.heap (locs ++ L') ls := ⟨by rw [e1]; exact p4, p5, hS2, X.2.2.2.1, fun j hj => X.2.2.2.2.1 j (by rw [hl] at hj; exact hj), by rw [hl]; exact X.2.2.2.2.2.1, by rw [hl]; exact X.2.2.2.2.2.2⟩
    obtain ⟨t2, a1, b1⟩ := k9 N0 b sa D cy a0 z0 p l e R s m args below meth c C hk hn ad2 T'.heap (locs ++ L') ls X2 T' rfl Y'
    refine ⟨t2, go t2 ?_, b1⟩
    cases v <;> exact a1
  · cases e3
/-- a call that throws: nothing here takes it -/
theorem mr_thrown {rest : List Value} {E : String} {h' : mH} {k' n' : Nat} (hrun : mRun S M pc L st rest h k n (.inr E, h', k', n')) (htab : M.2.2.2.2.1 = []) (hl : h'.length = h.length) (hk' : k + k' ≤ kf) (hn' : n + n' ≤ nf) : mF S M pc L st h k n (.inr E, h', kf, nf) := by
  intro N0 b sa D cy a0 z0 p l e R s m args below meth c C hk hn ad H locs ls X
  obtain ⟨av, hr⟩ := hrun N0 b sa D cy a0 z0 p l e R s m args below meth c C (Nat.le_trans hk' hk) (Nat.le_trans hn' hn) ad H locs ls X
  intro T hT Y
  rcases hr T hT Y with ⟨w, st₀, t, T', L', h0, Y', hL, e1, e2, ⟨v2, ad2, e3, -⟩, go⟩ | ⟨q, st₀, t, T', L', E2, ce, h0, Y', hL, e1, e2, ⟨e3, ad2, p1, p2, p3, p4, p5, p6⟩, hce, hcv, hcl, go⟩
  · cases e3
  · cases e3
    have e5 : ad2 = ad := funext fun j => p1 j (by
      show j < h.length ∨ h'.length ≤ j
      omega)
    subst e5
    have hS2 : va_S (mA N0) s.heap T'.heap (locs ++ L') := by
      obtain ⟨f1, f2⟩ := p6
      rw [h0] at f1 f2
      refine ⟨Nat.le_trans X.2.2.1.1 (by rw [e1]; exact f1), fun j hj hA => ?_, fun j hj => ?_⟩
      · rw [e1, f2 j (Nat.lt_of_lt_of_le hj X.2.2.1.1) hA]
        exact X.2.2.1.2.1 j hj hA
      · rcases List.mem_append.mp hj with z | z
        · exact X.2.2.1.2.2 j z
        · exact hL j z
    have key : vx_W p l e R s m args below meth c T'.heap (locs ++ L') (k + k') (n + n') (vx_MQ below (mQc N0 D cy a0 z0 (.inr E, h', kf, nf)) (mXC N0 D cy a0 z0 (.inr E, h', kf, nf)) args s kf nf (mA N0)) (F0 m pc ls (rest.map (mv ad2))) q := by
      refine vx_out (E := E) (ce := ce) ?_ C.locks (by rw [e1]; exact hce) hcv hcl (fun t9 ht9 ha9 => ⟨rfl, ad2, ?_, ?_, ?_, by rw [ht9, e1]; exact p4, p5, ?_⟩) hS2.2.2 hk' hn'
      · intro x hx
        rw [C.2.2.2.2.2.2.2.2.2.1, htab] at hx
        cases hx
      · intro j hj
        exact X.2.2.2.2.1 j (by show j < z0 ∨ h.length ≤ j; rw [← hl]; exact hj)
      · show z0 ≤ h'.length
        rw [hl]; exact X.2.2.2.2.2.1
      · show h'.length ≤ 1000
        rw [hl]; exact X.2.2.2.2.2.2
      · exact hS2.F ht9
    obtain ⟨t2, a1, b1⟩ := key T' rfl Y'
    exact ⟨t2, go.trans a1, b1⟩
end MRC
end
section
/-! ROWS OF THE SMALL MACHINE: throws, catches, new things -/
section MRT
variable {S : Nat × (Nat → Int32)} {M M' : mM} {pc k n kf nf : Nat} {L : List (Option Value)} {st : List Value} {h : mH} {r r' : mR} {As : List Value}
/-- the words of 'throw new E("text")' in the class own -/
def mLkT (own : String) (ik is ic : Nat) (E text : String) (names : List String) : Prop :=
  own = RX0 ∧ (is, text) ∈ mStrs ∧ E ∈ mCast ∧ Jvm.Bundle.fit E = true ∧ (∀ q ∈ names, Jvm.Bundle.fit q = true) ∧ Cond.classLink own ik E ∈ mTW ∧ Cond.initialized E ∈ mTW ∧ (∀ w ∈ vx_atS own ic E names, w = .castable E E ∨ (∃ q ∈ mDecl, w = .declares q) ∨ w ∈ mTW)
theorem mr_throw {ik is ic : Nat} {E text : String} {names : List String} (d0 : mAt M pc = some (.new ik, 3)) (d3 : mAt M (pc + 3) = some (.dup, 1)) (d4 : mAt M (pc + 4) = some (.ldc is, 2)) (d6 : mAt M (pc + 6) = some (.invokespecial ic, 3)) (d9 : mAt M (pc + 9) = some (.athrow, 1))
    (lk : mLkT M.1.cls ik is ic E text names) (htab : M.2.2.2.2.1 = []) (hfr : names.length + 3 < M.2.2.2.2.2.1) (hlo : (st.map fun v => v.category).sum + (13 * (names.length + 1) + 43) ≤ M.2.2.2.2.2.2.1) (hk' : k + 1 ≤ kf) (hn' : n + 6 ≤ nf) : mF S M pc L st h k n (.inr E, h, kf, nf) := by
  intro N0 b sa D cy a0 z0 p l e R s m args below meth c C hk hn ad H locs ls X
  obtain ⟨t1, t2, t3, t4, t5, t6, t7, t8⟩ := lk
  obtain ⟨g1, g2, g3, g4, g5, g6, g7, g8, g9⟩ := C.G
  have hk : kf ≤ R.cells := hk
  have hn : nf ≤ R.slots := hn
  have hcast : (Cond.castable E E).before args s = true := va_Nw.use rfl (g2.1 E t3)
  refine vx_throwS (own := M.1.cls) (cls := E) (text := text) (names := names) (ik := ik) (is := is) (ic := ic) (sa := sa is) (A := mA N0) C.1 C.2.1 C.2.2.2.2.2.2.2.2.2.2.1 C.own t4 t5 (C.ts _ t6) (C.ts _ t7) (by rw [t1]; exact g4 (is, text) t2) ?_ ?_ g5 g6 X.2.2.1 (X.2.2.2.1.1.trans C.2.2.2.2.2.1.symm)
    (mAt_dec C.2.2.1 d0) (mAt_dec C.2.2.1 d3) (mAt_dec C.2.2.1 d4) (mAt_dec C.2.2.1 d6) (mAt_dec C.2.2.1 d9) ?_ (Nat.lt_of_lt_of_le hfr C.2.2.2.2.2.2.2.2.2.2.2.2.2.1) ?_ (Nat.le_trans hk' hk) (Nat.le_trans hn' hn) C.locks ?_ X.2.2.1.2.2 hk' hn'
  · intro w hw
    rcases t8 w hw with rfl | ⟨q, hq, rfl⟩ | h9
    · exact hcast
    · exact va_Nw.use rfl (g2.2 q hq)
    · exact C.ts w h9
  · intro w hw
    rcases List.mem_cons.mp hw with rfl | hw
    · rfl
    · rcases List.mem_cons.mp hw with rfl | hw
      · rfl
      · rcases t8 w hw with rfl | ⟨q, hq, rfl⟩ | h9
        · rfl
        · rfl
        · unfold vx_ot
          rw [(m_good h9).2, Bool.or_true]
  · intro x hx
    rw [C.2.2.2.2.2.2.2.2.2.1, htab] at hx
    cases hx
  · rw [m_sum]
    exact Nat.le_trans hlo C.2.2.2.2.2.2.2.2.2.2.2.2.2.2
  · intro t al hz hq
    refine ⟨rfl, ad, X.2.2.2.2.1, X.2.2.2.2.2.1, X.2.2.2.2.2.2, ?_, X.2.1, ?_⟩
    · intro j q hj
      exact (X.1 j q hj).kept (hq q.1 (X.1 j q hj).lt)
    · exact ⟨Nat.le_trans X.2.2.1.1 hz, fun j hj hA => by rw [hq j (Nat.lt_of_lt_of_le hj X.2.2.1.1)]; exact X.2.2.1.2.1 j hj hA⟩
/-- a call that throws, caught here; what is caught is laid away -/
theorem mr_caught {rest : List Value} {E : String} {h' : mH} {k' n' i len : Nat} (pre : List (Nat × Nat × Nat × Nat)) (x : Nat × Nat × Nat × Nat) (suf : List (Nat × Nat × Nat × Nat)) (hrun : mRun S M pc L st rest h k n (.inr E, h', k', n')) (htab : M.2.2.2.2.1 = pre ++ x :: suf) (hl : h'.length = h.length) (hk' : k + k' ≤ r.2.2.1) (hn' : n + n' ≤ r.2.2.2)
    (hpre : ∀ z ∈ pre, z.2.2.2 ≠ 0 ∧ ∃ nm : String, Cond.classLink M.1.cls z.2.2.2 nm ∈ mTW ∧ (E, nm) ∈ mNcs) (hx : covers ⟨x.1, x.2.1, x.2.2.1, x.2.2.2⟩ pc = true) (h0 : x.2.2.2 ≠ 0) (hE : Cond.classLink M.1.cls x.2.2.2 E ∈ mTW) (hEc : E ∈ mCast)
    (hi : i < M.2.2.1) (hc1 : mOk1 L i = true) (hd : mAt M x.2.2.1 = some (.astore i, 2) ∧ len = 2 ∨ ∃ j : Fin 4, mAt M x.2.2.1 = some (.astore_n j, 1) ∧ (j : Nat) = i ∧ len = 1) (k9 : mF S M (x.2.2.1 + len) (L.set i none) [] h' (k + k') (n + n') r) : mF S M pc L st h k n r := by
  intro N0 b sa D cy a0 z0 p l e R s m args below meth c C hk hn ad H locs ls X
  obtain ⟨av, hr⟩ := hrun N0 b sa D cy a0 z0 p l e R s m args below meth c C (Nat.le_trans hk' hk) (Nat.le_trans hn' hn) ad H locs ls X
  obtain ⟨g1, g2, g3, g4, g5, g6, g7, g8, g9⟩ := C.G
  intro T hT Y
  rcases hr T hT Y with ⟨w, st₀, t, T', L', h0', Y', hL, e1, e2, ⟨v2, ad2, e3, -⟩, go⟩ | ⟨q, st₀, t, T', L', E2, ce, h0', Y', hL, e1, e2, ⟨e3, ad2, p1, p2, p3, p4, p5, p6⟩, hce, hcv, hcl, go⟩
  · cases e3
  · cases e3
    have e5 : ad2 = ad := funext fun j => p1 j (by
      show j < h.length ∨ h'.length ≤ j
      omega)
    subst e5
    have hS2 : va_S (mA N0) s.heap T'.heap (locs ++ L') := by
      obtain ⟨f1, f2⟩ := p6
      rw [h0'] at f1 f2
      refine ⟨Nat.le_trans X.2.2.1.1 (by rw [e1]; exact f1), fun j hj hA => ?_, fun j hj => ?_⟩
      · rw [e1, f2 j (Nat.lt_of_lt_of_le hj X.2.2.1.1) hA]
        exact X.2.2.1.2.1 j hj hA
      · rcases List.mem_append.mp hj with z | z
        · exact X.2.2.1.2.2 j z
        · exact hL j z
    have fin : ∀ ls' : Array Slot, mL ad2 ls' M.2.2.1 (L.set i none) → W p l e R s m args below meth c T'.heap (locs ++ L') (k + k') (n + n') (vx_MQ below (mQc N0 D cy a0 z0 r) (mXC N0 D cy a0 z0 r) args s r.2.2.1 r.2.2.2 (mA N0)) (F0 m (x.2.2.1 + len) ls' []) := fun ls' hl' =>
      k9 N0 b sa D cy a0 z0 p l e R s m args below meth c C hk hn ad2 T'.heap (locs ++ L') ls' ⟨by rw [e1]; exact p4, p5, hS2, hl', fun j hj => X.2.2.2.2.1 j (by rw [hl] at hj; exact hj), by rw [hl]; exact X.2.2.2.2.2.1, by rw [hl]; exact X.2.2.2.2.2.2⟩
    have key : vx_W p l e R s m args below meth c T'.heap (locs ++ L') (k + k') (n + n') (vx_MQ below (mQc N0 D cy a0 z0 r) (mXC N0 D cy a0 z0 r) args s r.2.2.1 r.2.2.2 (mA N0)) (F0 m pc ls (rest.map (mv ad2))) q := by
      refine vx_catch (own := M.1.cls) (name := E) (E := E) (ce := ce) C.own (tableOf pre) ⟨x.1, x.2.1, x.2.2.1, x.2.2.2⟩ (tableOf suf) ?_ ?_ hx h0 (C.ts _ hE) (va_Nw.use rfl (g2.1 E hEc)) (by rw [e1]; exact hce) hcv hcl ?_
      · rw [C.2.2.2.2.2.2.2.2.2.1, htab]
        simp [tableOf]
      · intro z hz
        unfold tableOf at hz
        obtain ⟨z', hz', rfl⟩ := List.mem_map.mp hz
        obtain ⟨y1, nm, y2, y3⟩ := hpre z' hz'
        exact Or.inr ⟨y1, nm, C.ts _ y2, g3.1 (E, nm) y3⟩
      · show W p l e R s m args below meth c T'.heap (locs ++ L') (k + k') (n + n') _ (F0 m x.2.2.1 ls [.ref q])
        rcases hd with ⟨hd, rfl⟩ | ⟨j, hd, rfl, rfl⟩
        · exact lv_astore C.1 C.2.1 (mAt_dec C.2.2.1 hd) X.2.2.2.1.has hi rfl (fun ls' h9 => fin ls' (mL.set0 hc1 h9))
        · exact lv_astore_n C.1 C.2.1 (mAt_dec C.2.2.1 hd) rfl X.2.2.2.1.has hi rfl (fun ls' h9 => fin ls' (mL.set0 hc1 h9))
    obtain ⟨t2, a1, b1⟩ := key T' rfl Y'
    exact ⟨t2, go.trans a1, b1⟩
end MRT
end
section
/-! ROWS OF THE SMALL MACHINE: new things -/
section MRN
variable {S : Nat × (Nat → Int32)} {M M' : mM} {pc k n kf nf : Nat} {L : List (Option Value)} {st : List Value} {h : mH} {r r' : mR} {As : List Value}
/-- no reference to the places from lo to hi -/
def mIn (lo hi : Nat) : Value → Bool
  | .ref j => decide (j < lo) || decide (hi ≤ j)
  | _ => true
def mInL (lo hi : Nat) (L : List (Option Value)) : Bool := L.all (fun o => match o with | some v => mIn lo hi v | none => true)
def mInH (lo hi : Nat) (h : mH) : Bool := h.all (fun e => match e with | .inr q => q.2.all (mIn lo hi) | .inl _ => true)
theorem mv_agree {ad ad' : Nat → Nat} {lo hi : Nat} (ha : ∀ j, (j < lo ∨ hi ≤ j) → ad' j = ad j) {v : Value} (hv : mIn lo hi v = true) : mv ad' v = mv ad v := by
  cases v with
  | ref j =>
    simp only [mIn, Bool.or_eq_true, decide_eq_true_eq] at hv
    show Value.ref (ad' j) = Value.ref (ad j)
    rw [ha j hv]
  | _ => rfl
theorem mv_agreeS {ad ad' : Nat → Nat} {lo hi : Nat} (ha : ∀ j, (j < lo ∨ hi ≤ j) → ad' j = ad j) {st : List Value} (hv : st.all (mIn lo hi) = true) : st.map (mv ad') = st.map (mv ad) :=
  List.map_congr_left (fun v h9 => mv_agree ha (List.all_eq_true.mp hv v h9))
theorem mL.agree {ad ad' : Nat → Nat} {lo hi : Nat} (ha : ∀ j, (j < lo ∨ hi ≤ j) → ad' j = ad j) {ls : Array Slot} {nL : Nat} (hv : mInL lo hi L = true) (hl : mL ad ls nL L) : mL ad' ls nL L := by
  refine ⟨hl.1, hl.2.1, fun i v h9 => ?_⟩
  have h8 := List.all_eq_true.mp hv (some v) (List.mem_of_getElem? h9)
  rw [mv_agree ha h8]
  exact hl.2.2 i v h9
theorem mw_agree {ad ad' : Nat → Nat} {cy : Nat → ClassId} {lo hi : Nat} (ha : ∀ j, (j < lo ∨ hi ≤ j) → ad' j = ad j) (hlen : h.length ≤ lo) (hv : mInH lo hi h = true) : mw ad' cy h = mw ad cy h := by
  apply List.ext_getElem?
  intro i
  unfold mw
  rw [List.getElem?_mapIdx, List.getElem?_mapIdx]
  cases hi : h[i]? with
  | none => rfl
  | some e =>
    have hlt : i < h.length := (List.getElem?_eq_some_iff.mp hi).1
    show some (ad' i, mvE ad' cy e) = some (ad i, mvE ad cy e)
    rw [ha i (Or.inl (by omega))]
    cases e with
    | inl q => rfl
    | inr q =>
      have h8 := List.all_eq_true.mp hv _ (List.mem_of_getElem? hi)
      show some (ad i, Sum.inr (q.1, q.2.map (mv ad'))) = some (ad i, Sum.inr (q.1, q.2.map (mv ad)))
      rw [mv_agreeS ha h8]
theorem mw_app {ad : Nat → Nat} {cy : Nat → ClassId} {e : mE} : mw ad cy (h ++ [e]) = mw ad cy h ++ [(ad h.length, mvE ad cy e)] := by
  unfold mw
  rw [List.mapIdx_append]
  simp
/-- a world with one thing more -/
theorem mS.more {N0 : Nat} {D : va_G} {cy : Nat → ClassId} {a0 : Nat → Nat} {z0 : Nat} {s : State} {ad : Nat → Nat} {H H1 : Heap} {locs : List Loc} {ls : Array Slot} {e : mE} {q : Nat} (X : mS M N0 D cy a0 z0 s ad L h H locs ls)
    (hP : va_P D mCl (mw ad cy h ++ [(q, mvE (va_up ad h.length q) cy e)]) H1) (hD : va_D (mA N0) (mw ad cy h ++ [(q, mvE (va_up ad h.length q) cy e)])) (hS : va_S (mA N0) s.heap H1 locs) (h1 : h.length + 1 ≤ 1000) (h2 : mInH h.length (h.length + 1) h = true) (h3 : mInL h.length (h.length + 1) L = true) :
    mS M N0 D cy a0 z0 s (va_up ad h.length q) L (h ++ [e]) H1 locs ls := by
  have ha : ∀ j, (j < h.length ∨ h.length + 1 ≤ j) → va_up ad h.length q j = ad j := fun j hj => by
    unfold va_up
    rw [if_neg (by omega)]
  have e1 : mw (va_up ad h.length q) cy (h ++ [e]) = mw ad cy h ++ [(q, mvE (va_up ad h.length q) cy e)] := by
    rw [mw_app, mw_agree ha (Nat.le_refl _) h2]
    congr 2
    unfold va_up
    rw [if_pos rfl]
  refine ⟨by rw [e1]; exact hP, by rw [e1]; exact hD, hS, mL.agree ha h3 X.2.2.2.1, fun j hj => ?_, ?_, ?_⟩
  · rw [List.length_append] at hj
    have hz := X.2.2.2.2.2.1
    have hj : j < z0 ∨ h.length + 1 ≤ j := hj
    rw [ha j (by omega)]
    exact X.2.2.2.2.1 j (by omega)
  · rw [List.length_append]
    exact Nat.le_trans X.2.2.2.2.2.1 (Nat.le_add_right _ _)
  · rw [List.length_append]
    exact h1
theorem mr_newarray {t N : Nat} {at9 : ArrayType} {ty : FieldType} {i : Int32} {x : vp_A} (hf : mAt M pc = some (.newarray at9, 2)) (hty : newarray.typeOf at9 = ty) (hw : Cond.arrayClass (newarray.typeOf at9) ∈ mTW) (hidx : ∀ cy : Nat → ClassId, (mTys cy)[t]? = some (cy t, ty)) (hRA : ∀ (U : State) (cA : ClassId), va_RA U cA ty = (U.vm.findClass ("[" ++ ty.toString) = some cA))
    (hx : ∀ cA : ClassId, vp_cell cA x = arrV cA N (fun _ => defaultValue ty)) (hi : ¬ i < 0) (hN : i.toNatClampNeg = N) (hb : N * componentBytes ty ≤ 536870912) (hk' : k + 1 ≤ r.2.2.1) (hn' : n + N ≤ r.2.2.2) (h1 : h.length + 1 ≤ 1000) (h2 : mInH h.length (h.length + 1) h = true) (h3 : mInL h.length (h.length + 1) L = true) (h4 : st.all (mIn h.length (h.length + 1)) = true)
    (k9 : mF S M (pc + 2) L (.ref h.length :: st) (h ++ [.inl (t, x)]) (k + 1) (n + N) r) : mF S M pc L (.int i :: st) h k n r := by
  intro N0 b sa D cy a0 z0 p l e R s m args below meth c C hk hn ad H locs ls X
  refine va_newa (tys := mTys cy) C.1 C.2.1 (C.ts _ hw) hty C.K X.1 X.2.1 X.2.2.1 (fun q hq => Nat.le_trans C.sz hq) hx hi hN hb (Nat.le_trans hk' hk) (Nat.le_trans hn' hn) (mAt_dec C.2.2.1 hf) (fun q cA H1 hK hP hD hS => ?_)
  have hcA : cA = cy t := by
    have e1 := (hK.2 3 (cA, ty) rfl).2
    have e2 := (C.K.2 t _ (hidx cy)).2
    rw [hRA] at e1 e2
    exact Option.some.inj (e1.symm.trans e2)
  subst hcA
  have X2 := X.more (e := .inl (t, x)) (q := q) hP hD hS h1 h2 h3
  have e3 : (.ref q :: st.map (mv ad) : List Value) = (.ref h.length :: st).map (mv (va_up ad h.length q)) := by
    have ha : ∀ j, (j < h.length ∨ h.length + 1 ≤ j) → va_up ad h.length q j = ad j := fun j hj => by
      unfold va_up
      rw [if_neg (by omega)]
    rw [List.map_cons, mv_agreeS ha h4]
    show _ = Value.ref (va_up ad h.length q h.length) :: _
    unfold va_up
    rw [if_pos rfl]
  rw [e3]
  exact k9 N0 b sa D cy a0 z0 p l e R s m args below meth c C hk hn _ H1 locs ls X2
def mLkN (own : String) (idx ci : Nat) (fs : List Value) (N : Nat) : Prop := ∃ (C : String) (T : u_T) (ty : Nat → FieldType), mCl[ci]? = some (C, T, N) ∧ (∀ w ∈ u_ws C T N, w ∈ mTW) ∧ (∀ k, k < N → parseFieldDescriptor (T k).2.2.1 = some (ty k)) ∧ Cond.classLink own idx C ∈ mTW ∧ Cond.instantiable C N ∈ mTW ∧ Cond.initialized C ∈ mTW ∧ (∀ j, j < N → defaultValue (ty j) = vp_V fs j) ∧ (∀ ad : Nat → Nat, fs.map (mv ad) = fs)
theorem mr_new {idx ci N : Nat} {fs : List Value} (hf : mAt M pc = some (.new idx, 3)) (lk : mLkN M.1.cls idx ci fs N) (hk' : k + 1 ≤ r.2.2.1) (hn' : n + N ≤ r.2.2.2) (h1 : h.length + 1 ≤ 1000) (h2 : mInH h.length (h.length + 1) h = true) (h3 : mInL h.length (h.length + 1) L = true) (h4 : st.all (mIn h.length (h.length + 1)) = true)
    (k9 : mF S M (pc + 3) L (.ref h.length :: st) (h ++ [.inr (ci, fs)]) (k + 1) (n + N) r) : mF S M pc L st h k n r := by
  intro N0 b sa D cy a0 z0 p l e R s m args below meth c C hk hn ad H locs ls X
  obtain ⟨Cn, T, ty, hc, hin, hty, w1, w2, w3, hfs, hfx⟩ := lk
  refine va_new (D := D) (cl := mCl) (tys := mTys cy) (ci := ci) (fs := fs) (C := Cn) (T := T) (N := N) C.1 C.2.1 C.ts hin ty hty C.own (C.ts _ w1) (C.ts _ w2) (C.ts _ w3) C.K X.1 X.2.1 X.2.2.1 (fun q hq => Nat.le_trans C.sz hq) hc hfs (Nat.le_trans hk' hk) (Nat.le_trans hn' hn) (mAt_dec C.2.2.1 hf) (fun q H1 hP hD hS => ?_)
  have e2 : ∀ ad9 : Nat → Nat, mvE ad9 cy (.inr (ci, fs)) = .inr (ci, fs) := fun ad9 => by show Sum.inr (ci, fs.map (mv ad9)) = _; rw [hfx]
  have X2 := X.more (e := .inr (ci, fs)) (q := q) (by rw [e2]; exact hP) (by rw [e2]; exact hD) hS h1 h2 h3
  have e3 : (.ref q :: st.map (mv ad) : List Value) = (.ref h.length :: st).map (mv (va_up ad h.length q)) := by
    have ha : ∀ j, (j < h.length ∨ h.length + 1 ≤ j) → va_up ad h.length q j = ad j := fun j hj => by
      unfold va_up
      rw [if_neg (by omega)]
    rw [List.map_cons, mv_agreeS ha h4]
    show _ = Value.ref (va_up ad h.length q h.length) :: _
    unfold va_up
    rw [if_pos rfl]
  rw [e3]
  exact k9 N0 b sa D cy a0 z0 p l e R s m args below meth c C hk hn _ H1 locs ls X2
theorem m_met {l : Launch} {y : MethodName} {ws : List Cond} {rm : Room} {Pc : Array Value → State → Prop} {Qc : Array Value → State → Outcome → State → Prop} {XC : String → State → State → Prop} {mc ms : Nat} {free : Addr → Prop} (hM : vx_Met l y ws rm Pc Qc XC mc ms free) (hx : ∀ E st t, ¬ XC E st t) : Met l y ws rm Pc Qc mc ms free := by
  intro p e ha hc hk s m args below hf happ hP hK
  obtain ⟨n9, o, h1, h2, h3, hq⟩ := hM p e ha hc hk s m args below hf happ hP hK
  refine ⟨n9, o, h1, h2, h3, ?_⟩
  rcases hq with hq | ⟨q, -, E, ce, L9, hx9, -⟩
  · exact hq
  · exact absurd hx9 (hx E _ _)
/-- a constructor that makes things -/
theorem mr_init {idx q ci : Nat} {fs : List Value} {h' : mH} {k' n' : Nat} (hf : mAt M pc = some (.invokespecial idx, 3)) (lk : mLkI M.1.cls idx M' 0) (hr : mRoom M M' = true) (hn : 1 ≤ M'.2.2.1) (hsum : (st.map fun v => v.category).sum ≤ 8)
    (hc : mF S M' 0 (mEnt [.ref q] M'.2.2.1) [] h 0 0 (.inl none, h', k', n')) (hk' : k + k' ≤ r.2.2.1) (hn' : n + n' ≤ r.2.2.2) (h3 : mInL h.length h'.length L = true) (h4 : st.all (mIn h.length h'.length) = true)
    (k9 : mF S M (pc + 3) L st h' (k + k') (n + n') r) : mF S M pc L (.ref q :: st) h k n r := by
  intro N0 b sa D cy a0 z0 p l e R s m args below meth c C hk hn9 ad H locs ls X
  obtain ⟨l1, l2, hnm, hret, hh, l3⟩ := lk
  have hM := m_met (mc_met hc hn l3 N0 b sa D cy ad l) (fun E st t hx => by cases hx.1)
  have hR := m_room hr C.2.2.2.2.2.2.2.2.2.2.2.2.2.1 C.2.2.2.2.2.2.2.2.2.2.2.2.2.2
  have hp : PreS s H (mPc S N0 b sa D cy ad [.ref q] h l) [.ref (ad q)] := ⟨mPc.blind, fun U hU hW => m_pre C X [.ref q] U hU hW⟩
  have hsm : 2 * (F0 m pc ls ((.ref q :: st).map (mv ad))).monitorRoom + ((st.map (mv ad)).map fun v => v.category).sum ≤ 8 := by
    rw [m_sum]
    have : (F0 m pc ls ((.ref q :: st).map (mv ad))).monitorRoom = 0 := rfl
    omega
  obtain ⟨q1, q2, q3, q4, q5, q6⟩ := id l3
  rw [if_pos hh] at q1
  have hrun := va_runI (As := []) (b := ad q) (rest := st.map (mv ad)) (g := F0 m pc ls ((.ref q :: st).map (mv ad))) (ws := mWs M') (rm := mRm M' (.inl none, h', k', n')) (bytes := M'.2.1) (maxL := M'.2.2.1) (own := M.1.cls) (Ts := mTW) (H := H) (locs := locs) (cells := k) (slots := n) (e := e) (below := below) (meth := meth) (R := R) (index := idx) (n := 0) ⟨C.1, C.2.1, C.2.2.2.2.2.1, C.own, C.ts⟩ hM
    ⟨⟨rfl, rfl, hR.1, hR.2, m_pay C.ts l3, by unfold mWs; rw [if_pos hh, hret]; exact List.mem_cons_self, by rw [← hret]; exact C.ts _ q1, C.ts _ q2, q4, m_len q5, C.ts _ l1⟩, hnm, C.ts _ l2⟩ hp rfl rfl X.2.2.2.1.1 rfl hsm (mAt_dec C.2.2.1 hf) ⟨Nat.le_trans hk' hk, Nat.le_trans hn' hn9⟩
  intro T hT Y
  obtain ⟨w, st₀, t, T', L', h0, Y', hL, e1, e2, ⟨v2, ad2, e3, e4, p1, p2, p3, p4, p5, p6⟩, go⟩ := hrun T hT Y
  cases e3
  cases e4
  have hS2 : va_S (mA N0) s.heap T'.heap (locs ++ L') := by
    obtain ⟨f1, f2⟩ := p6
    rw [h0] at f1 f2
    refine ⟨Nat.le_trans X.2.2.1.1 (by rw [e1]; exact f1), fun j hj hA => ?_, fun j hj => ?_⟩
    · rw [e1, f2 j (Nat.lt_of_lt_of_le hj X.2.2.1.1) hA]
      exact X.2.2.1.2.1 j hj hA
    · rcases List.mem_append.mp hj with z | z
      · exact X.2.2.1.2.2 j z
      · exact hL j z
  have p1' : ∀ j, (j < h.length ∨ h'.length ≤ j) → ad2 j = ad j := p1
  have p2' : h.length ≤ h'.length := p2
  have hz := X.2.2.2.2.2.1
  have X2 : mS M N0 D cy a0 z0 s ad2 L h' T'.heap (locs ++ L') ls := ⟨by rw [e1]; exact p4, p5, hS2, mL.agree p1' h3 X.2.2.2.1, fun j hj => by rw [p1' j (by omega)]; exact X.2.2.2.2.1 j (by omega), by omega, p3⟩
  obtain ⟨t2, a1, b1⟩ := k9 N0 b sa D cy a0 z0 p l e R s m args below meth c C hk hn9 ad2 T'.heap (locs ++ L') ls X2 T' rfl Y'
  refine ⟨t2, go t2 ?_, b1⟩
  rw [mv_agreeS p1' h4] at a1
  exact a1
end MRN
end
section
/-! THE METHODS AS TABLES, by program (wip/whole/gentabs.py) -/
def MX0_init : mM := (yX0_init, cX0_init, 1, none, [], 2, 43, [(0, .aload_n 0, 1), (1, .invokespecial 3, 3), (4, .aload_n 0, 1), (5, .bipush 8, 2), (7, .newarray .int, 2), (9, .putfield 9, 3), (12, .aload_n 0, 1), (13, .bipush 8, 2), (15, .newarray .int, 2), (17, .putfield 13, 3), (20, .aload_n 0, 1), (21, .bipush 8, 2), (23, .newarray .int, 2), (25, .putfield 16, 3), (28, .aload_n 0, 1), (29, .bipush 7, 2), (31, .newarray .int, 2), (33, .putfield 19, 3), (36, .aload_n 0, 1), (37, .bipush 10, 2), (39, .newarray .int, 2), (41, .putfield 22, 3), (44, .aload_n 0, 1), (45, .bipush 10, 2), (47, .newarray .int, 2), (49, .putfield 25, 3), (52, .aload_n 0, 1), (53, .bipush 11, 2), (55, .newarray .int, 2), (57, .putfield 28, 3), (60, .aload_n 0, 1), (61, .invokevirtual 31, 3), (64, .return_, 1)])
set_option maxRecDepth 100000 in
theorem okX0_init : mOk MX0_init := by unfold mOk MX0_init; decide +kernel
def MX0_dig : mM := (yX0_dig, cX0_dig, 3, some .int, [], 13, 262, [(0, .iload_n 1, 1), (1, .invokestatic 34, 3), (4, .iload_n 2, 1), (5, .iconst 1, 1), (6, .bipush 9, 2), (8, .invokestatic 38, 3), (11, .aload_n 0, 1), (12, .iload_n 1, 1), (13, .invokevirtual 42, 3), (16, .ifCond .eq 5, 3), (19, .iconst 0, 1), (20, .ireturn, 1), (21, .aload_n 0, 1), (22, .getfield 9, 3), (25, .iload_n 1, 1), (26, .iload_n 2, 1), (27, .iastore, 1), (28, .iconst 1, 1), (29, .ireturn, 1)])
set_option maxRecDepth 100000 in
theorem okX0_dig : mOk MX0_dig := by unfold mOk MX0_dig; decide +kernel
def MX0_fill : mM := (yX0_fill, cX0_fill, 2, some .int, [], 13, 260, [(0, .iload_n 1, 1), (1, .invokestatic 34, 3), (4, .aload_n 0, 1), (5, .iload_n 1, 1), (6, .invokevirtual 46, 3), (9, .invokestatic 50, 3), (12, .ireturn, 1)])
set_option maxRecDepth 100000 in
theorem okX0_fill : mOk MX0_fill := by unfold mOk MX0_fill; decide +kernel
def MX0_pour : mM := (yX0_pour, cX0_pour, 3, some .int, [], 13, 262, [(0, .iload_n 1, 1), (1, .invokestatic 34, 3), (4, .iload_n 2, 1), (5, .iconst 0, 1), (6, .sipush 9999, 3), (9, .invokestatic 38, 3), (12, .aload_n 0, 1), (13, .iload_n 1, 1), (14, .iload_n 2, 1), (15, .invokevirtual 53, 3), (18, .invokestatic 50, 3), (21, .ireturn, 1)])
set_option maxRecDepth 100000 in
theorem okX0_pour : mOk MX0_pour := by unfold mOk MX0_pour; decide +kernel
def MX0_draw : mM := (yX0_draw, cX0_draw, 3, some .int, [], 13, 262, [(0, .iload_n 1, 1), (1, .invokestatic 34, 3), (4, .iload_n 2, 1), (5, .iconst 0, 1), (6, .ldc 59, 2), (8, .invokestatic 38, 3), (11, .aload_n 0, 1), (12, .iload_n 1, 1), (13, .iload_n 2, 1), (14, .invokevirtual 60, 3), (17, .invokestatic 50, 3), (20, .ireturn, 1)])
set_option maxRecDepth 100000 in
theorem okX0_draw : mOk MX0_draw := by unfold mOk MX0_draw; decide +kernel
def MX0_boat : mM := (yX0_boat, cX0_boat, 4, some .int, [], 13, 262, [(0, .iload_n 1, 1), (1, .invokestatic 63, 3), (4, .iload_n 3, 1), (5, .invokestatic 34, 3), (8, .iload_n 2, 1), (9, .iconst 1, 1), (10, .bipush 99, 2), (12, .invokestatic 38, 3), (15, .aload_n 0, 1), (16, .iload_n 1, 1), (17, .iload_n 2, 1), (18, .iload_n 3, 1), (19, .invokevirtual 66, 3), (22, .invokestatic 50, 3), (25, .ireturn, 1)])
set_option maxRecDepth 100000 in
theorem okX0_boat : mOk MX0_boat := by unfold mOk MX0_boat; decide +kernel
def MX0_gate : mM := (yX0_gate, cX0_gate, 4, some .int, [], 13, 262, [(0, .iload_n 1, 1), (1, .invokestatic 70, 3), (4, .iload_n 2, 1), (5, .iconst 0, 1), (6, .bipush 99, 2), (8, .invokestatic 38, 3), (11, .aload_n 0, 1), (12, .getfield 19, 3), (15, .iload_n 1, 1), (16, .iaload, 1), (17, .istore_n 3, 1), (18, .aload_n 0, 1), (19, .getfield 19, 3), (22, .iload_n 1, 1), (23, .iload_n 2, 1), (24, .iastore, 1), (25, .iload_n 3, 1), (26, .ireturn, 1)])
set_option maxRecDepth 100000 in
theorem okX0_gate : mOk MX0_gate := by unfold mOk MX0_gate; decide +kernel
def MX0_level : mM := (yX0_level, cX0_level, 2, some .int, [], 13, 260, [(0, .iload_n 1, 1), (1, .invokestatic 70, 3), (4, .aload_n 0, 1), (5, .iload_n 1, 1), (6, .invokevirtual 73, 3), (9, .invokestatic 50, 3), (12, .ireturn, 1)])
set_option maxRecDepth 100000 in
theorem okX0_level : mOk MX0_level := by unfold mOk MX0_level; decide +kernel
def MX0_pass : mM := (yX0_pass, cX0_pass, 3, some .int, [], 13, 260, [(0, .iload_n 1, 1), (1, .invokestatic 63, 3), (4, .aload_n 0, 1), (5, .getfield 25, 3), (8, .iload_n 1, 1), (9, .iaload, 1), (10, .iconst (-1), 1), (11, .if_icmp .ne 13, 3), (14, .new 76, 3), (17, .dup, 1), (18, .ldc 78, 2), (20, .invokespecial 80, 3), (23, .athrow, 1), (24, .aload_n 0, 1), (25, .getfield 25, 3), (28, .iload_n 1, 1), (29, .iaload, 1), (30, .iload_n 2, 1), (31, .invokestatic 83, 3), (34, .ifCond .ne 13, 3), (37, .new 87, 3), (40, .dup, 1), (41, .ldc 89, 2), (43, .invokespecial 91, 3), (46, .athrow, 1), (47, .aload_n 0, 1), (48, .iload_n 1, 1), (49, .iload_n 2, 1), (50, .invokevirtual 92, 3), (53, .invokestatic 50, 3), (56, .ireturn, 1)])
set_option maxRecDepth 100000 in
theorem okX0_pass : mOk MX0_pass := by unfold mOk MX0_pass; decide +kernel
def MX0_flight : mM := (yX0_flight, cX0_flight, 4, some .int, [], 13, 260, [(0, .iload_n 1, 1), (1, .invokestatic 63, 3), (4, .iload_n 2, 1), (5, .invokestatic 34, 3), (8, .aload_n 0, 1), (9, .iload_n 1, 1), (10, .iload_n 2, 1), (11, .invokevirtual 96, 3), (14, .istore_n 3, 1), (15, .iload_n 3, 1), (16, .ifCond .ge 10, 3), (19, .iload_n 3, 1), (20, .bipush 10, 2), (22, .idiv, 1), (23, .goto 4, 3), (26, .iload_n 3, 1), (27, .invokestatic 50, 3), (30, .ireturn, 1)])
set_option maxRecDepth 100000 in
theorem okX0_flight : mOk MX0_flight := by unfold mOk MX0_flight; decide +kernel
def MX0_trip : mM := (yX0_trip, cX0_trip, 3, some .int, [], 13, 260, [(0, .iload_n 1, 1), (1, .invokestatic 63, 3), (4, .iload_n 2, 1), (5, .invokestatic 34, 3), (8, .aload_n 0, 1), (9, .iload_n 1, 1), (10, .iload_n 2, 1), (11, .invokevirtual 96, 3), (14, .ireturn, 1)])
set_option maxRecDepth 100000 in
theorem okX0_trip : mOk MX0_trip := by unfold mOk MX0_trip; decide +kernel
def MX0_convoy : mM := (yX0_convoy, cX0_convoy, 6, some .int, [], 13, 262, [(0, .iload_n 1, 1), (1, .iconst 0, 1), (2, .sipush 1023, 3), (5, .invokestatic 38, 3), (8, .iconst 0, 1), (9, .istore_n 3, 1), (10, .iconst 0, 1), (11, .istore 4, 2), (13, .iload 4, 2), (15, .bipush 10, 2), (17, .if_icmp .ge 61, 3), (20, .iload_n 1, 1), (21, .iload 4, 2), (23, .ishr, 1), (24, .iconst 1, 1), (25, .iand, 1), (26, .iconst 1, 1), (27, .if_icmp .ne 45, 3), (30, .aload_n 0, 1), (31, .iload 4, 2), (33, .iload_n 2, 1), (34, .invokevirtual 99, 3), (37, .ifCond .eq 35, 3), (40, .aload_n 0, 1), (41, .iload 4, 2), (43, .iload_n 2, 1), (44, .invokevirtual 102, 3), (47, .istore 5, 2), (49, .iload 5, 2), (51, .bipush (-2), 2), (53, .if_icmp .ne 6, 3), (56, .goto 22, 3), (59, .iload_n 3, 1), (60, .iload 5, 2), (62, .ifCond .lt 7, 3), (65, .iconst 1, 1), (66, .goto 4, 3), (69, .iconst 0, 1), (70, .iadd, 1), (71, .istore_n 3, 1), (72, .iinc 4 1, 3), (75, .goto (-62), 3), (78, .iload_n 3, 1), (79, .ireturn, 1)])
set_option maxRecDepth 100000 in
theorem okX0_convoy : mOk MX0_convoy := by unfold mOk MX0_convoy; decide +kernel
def MX0_share : mM := (yX0_share, cX0_share, 3, some .int, [], 13, 260, [(0, .iload_n 1, 1), (1, .invokestatic 34, 3), (4, .iload_n 2, 1), (5, .invokestatic 34, 3), (8, .iload_n 1, 1), (9, .iload_n 2, 1), (10, .if_icmp .le 13, 3), (13, .new 105, 3), (16, .dup, 1), (17, .ldc 107, 2), (19, .invokespecial 109, 3), (22, .athrow, 1), (23, .aload_n 0, 1), (24, .iload_n 1, 1), (25, .iload_n 2, 1), (26, .invokevirtual 110, 3), (29, .invokestatic 50, 3), (32, .ireturn, 1)])
set_option maxRecDepth 100000 in
theorem okX0_share : mOk MX0_share := by unfold mOk MX0_share; decide +kernel
def MX0_first : mM := (yX0_first, cX0_first, 4, some .int, [], 2, 45, [(0, .iconst 0, 1), (1, .istore_n 2, 1), (2, .iload_n 2, 1), (3, .bipush 8, 2), (5, .if_icmp .ge 43, 3), (8, .aload_n 0, 1), (9, .iload_n 2, 1), (10, .invokevirtual 113, 3), (13, .ifCond .eq 29, 3), (16, .aload_n 0, 1), (17, .iload_n 2, 1), (18, .invokevirtual 116, 3), (21, .iload_n 1, 1), (22, .if_icmp .lt 7, 3), (25, .iconst 1, 1), (26, .goto 4, 3), (29, .iconst 0, 1), (30, .istore_n 3, 1), (31, .aload_n 0, 1), (32, .iconst 1, 1), (33, .invokevirtual 119, 3), (36, .iload_n 3, 1), (37, .ifCond .eq 5, 3), (40, .iload_n 2, 1), (41, .ireturn, 1), (42, .iinc 2 1, 3), (45, .goto (-43), 3), (48, .iconst (-1), 1), (49, .ireturn, 1)])
set_option maxRecDepth 100000 in
theorem okX0_first : mOk MX0_first := by unfold mOk MX0_first; decide +kernel
def MX0_pool : mM := (yX0_pool, cX0_pool, 3, some .int, [], 13, 260, [(0, .iload_n 1, 1), (1, .invokestatic 34, 3), (4, .aload_n 0, 1), (5, .iload_n 1, 1), (6, .invokevirtual 42, 3), (9, .ifCond .ne 13, 3), (12, .new 122, 3), (15, .dup, 1), (16, .ldc 124, 2), (18, .invokespecial 126, 3), (21, .athrow, 1), (22, .iload_n 2, 1), (23, .tableswitch 66 0 4 #[33, 40, 47, 53, 59], 33), (56, .aload_n 0, 1), (57, .getfield 9, 3), (60, .iload_n 1, 1), (61, .iaload, 1), (62, .ireturn, 1), (63, .aload_n 0, 1), (64, .getfield 13, 3), (67, .iload_n 1, 1), (68, .iaload, 1), (69, .ireturn, 1), (70, .aload_n 0, 1), (71, .iload_n 1, 1), (72, .invokevirtual 116, 3), (75, .ireturn, 1), (76, .aload_n 0, 1), (77, .iload_n 1, 1), (78, .invokevirtual 127, 3), (81, .ireturn, 1), (82, .aload_n 0, 1), (83, .getfield 16, 3), (86, .iload_n 1, 1), (87, .iaload, 1), (88, .ireturn, 1), (89, .iconst (-1), 1), (90, .ireturn, 1)])
set_option maxRecDepth 100000 in
theorem okX0_pool : mOk MX0_pool := by unfold mOk MX0_pool; decide +kernel
def MX0_where : mM := (yX0_where, cX0_where, 2, some .int, [], 13, 260, [(0, .iload_n 1, 1), (1, .invokestatic 63, 3), (4, .aload_n 0, 1), (5, .getfield 25, 3), (8, .iload_n 1, 1), (9, .iaload, 1), (10, .ireturn, 1)])
set_option maxRecDepth 100000 in
theorem okX0_where : mOk MX0_where := by unfold mOk MX0_where; decide +kernel
def MX0_told : mM := (yX0_told, cX0_told, 2, some .int, [], 2, 48, [(0, .iload_n 1, 1), (1, .tableswitch 57 0 3 #[31, 36, 41, 46], 31), (32, .aload_n 0, 1), (33, .getfield 130, 3), (36, .ireturn, 1), (37, .aload_n 0, 1), (38, .getfield 134, 3), (41, .ireturn, 1), (42, .aload_n 0, 1), (43, .invokevirtual 137, 3), (46, .ireturn, 1), (47, .aload_n 0, 1), (48, .getfield 13, 3), (51, .iconst 0, 1), (52, .bipush 7, 2), (54, .invokestatic 141, 3), (57, .ireturn, 1), (58, .iconst (-1), 1), (59, .ireturn, 1)])
set_option maxRecDepth 100000 in
theorem okX0_told : mOk MX0_told := by unfold mOk MX0_told; decide +kernel
def MX0_clear : mM := (yX0_clear, cX0_clear, 2, some .int, [], 2, 43, [(0, .aload_n 0, 1), (1, .invokevirtual 137, 3), (4, .istore_n 1, 1), (5, .aload_n 0, 1), (6, .invokevirtual 31, 3), (9, .iload_n 1, 1), (10, .ireturn, 1)])
set_option maxRecDepth 100000 in
theorem okX0_clear : mOk MX0_clear := by unfold mOk MX0_clear; decide +kernel
def MX0_reset : mM := (yX0_reset, cX0_reset, 1, none, [], 1, 23, [(0, .aload_n 0, 1), (1, .getfield 9, 3), (4, .iconst 0, 1), (5, .invokestatic 145, 3), (8, .aload_n 0, 1), (9, .getfield 13, 3), (12, .iconst 0, 1), (13, .invokestatic 145, 3), (16, .aload_n 0, 1), (17, .getfield 16, 3), (20, .iconst 0, 1), (21, .invokestatic 145, 3), (24, .aload_n 0, 1), (25, .getfield 19, 3), (28, .iconst 5, 1), (29, .invokestatic 145, 3), (32, .aload_n 0, 1), (33, .getfield 22, 3), (36, .iconst 1, 1), (37, .invokestatic 145, 3), (40, .aload_n 0, 1), (41, .getfield 25, 3), (44, .iconst (-1), 1), (45, .invokestatic 145, 3), (48, .aload_n 0, 1), (49, .iconst 0, 1), (50, .putfield 134, 3), (53, .aload_n 0, 1), (54, .iconst 0, 1), (55, .putfield 130, 3), (58, .return_, 1)])
set_option maxRecDepth 100000 in
theorem okX0_reset : mOk MX0_reset := by unfold mOk MX0_reset; decide +kernel
def MX0_checkBoat : mM := (yX0_checkBoat, cX0_checkBoat, 1, none, [], 12, 240, [(0, .iload_n 0, 1), (1, .ifCond .lt 9, 3), (4, .iload_n 0, 1), (5, .bipush 10, 2), (7, .if_icmp .lt 13, 3), (10, .new 87, 3), (13, .dup, 1), (14, .ldc 151, 2), (16, .invokespecial 91, 3), (19, .athrow, 1), (20, .return_, 1)])
set_option maxRecDepth 100000 in
theorem okX0_checkBoat : mOk MX0_checkBoat := by unfold mOk MX0_checkBoat; decide +kernel
def MX0_checkPool : mM := (yX0_checkPool, cX0_checkPool, 1, none, [], 12, 240, [(0, .iload_n 0, 1), (1, .ifCond .lt 9, 3), (4, .iload_n 0, 1), (5, .bipush 8, 2), (7, .if_icmp .lt 13, 3), (10, .new 87, 3), (13, .dup, 1), (14, .ldc 153, 2), (16, .invokespecial 91, 3), (19, .athrow, 1), (20, .return_, 1)])
set_option maxRecDepth 100000 in
theorem okX0_checkPool : mOk MX0_checkPool := by unfold mOk MX0_checkPool; decide +kernel
def MX0_checkGate : mM := (yX0_checkGate, cX0_checkGate, 1, none, [], 12, 240, [(0, .iload_n 0, 1), (1, .ifCond .lt 9, 3), (4, .iload_n 0, 1), (5, .bipush 7, 2), (7, .if_icmp .lt 13, 3), (10, .new 87, 3), (13, .dup, 1), (14, .ldc 155, 2), (16, .invokespecial 91, 3), (19, .athrow, 1), (20, .return_, 1)])
set_option maxRecDepth 100000 in
theorem okX0_checkGate : mOk MX0_checkGate := by unfold mOk MX0_checkGate; decide +kernel
def MX0_checkRange : mM := (yX0_checkRange, cX0_checkRange, 3, none, [], 12, 240, [(0, .iload_n 0, 1), (1, .iload_n 1, 1), (2, .if_icmp .lt 8, 3), (5, .iload_n 0, 1), (6, .iload_n 2, 1), (7, .if_icmp .le 13, 3), (10, .new 105, 3), (13, .dup, 1), (14, .ldc 157, 2), (16, .invokespecial 109, 3), (19, .athrow, 1), (20, .return_, 1)])
set_option maxRecDepth 100000 in
theorem okX0_checkRange : mOk MX0_checkRange := by unfold mOk MX0_checkRange; decide +kernel
def MX0_answered : mM := (yX0_answered, cX0_answered, 1, some .int, [], 12, 240, [(0, .iload_n 0, 1), (1, .tableswitch 71 (-4) (-1) #[61, 51, 41, 31], 31), (32, .new 122, 3), (35, .dup, 1), (36, .ldc 159, 2), (38, .invokespecial 126, 3), (41, .athrow, 1), (42, .new 76, 3), (45, .dup, 1), (46, .ldc 161, 2), (48, .invokespecial 80, 3), (51, .athrow, 1), (52, .new 163, 3), (55, .dup, 1), (56, .ldc 165, 2), (58, .invokespecial 167, 3), (61, .athrow, 1), (62, .new 168, 3), (65, .dup, 1), (66, .ldc 170, 2), (68, .invokespecial 172, 3), (71, .athrow, 1), (72, .iload_n 0, 1), (73, .ireturn, 1)])
set_option maxRecDepth 100000 in
theorem okX0_answered : mOk MX0_answered := by unfold mOk MX0_answered; decide +kernel
def MX0_hold : mM := (yX0_hold, cX0_hold, 2, some .boolean, [], 1, 24, [(0, .aload_n 0, 1), (1, .iload_n 1, 1), (2, .invokevirtual 42, 3), (5, .ifCond .eq 12, 3), (8, .aload_n 0, 1), (9, .getfield 173, 3), (12, .bipush 11, 2), (14, .if_icmp .lt 5, 3), (17, .iconst 0, 1), (18, .ireturn, 1), (19, .aload_n 0, 1), (20, .getfield 28, 3), (23, .aload_n 0, 1), (24, .getfield 173, 3), (27, .iload_n 1, 1), (28, .iastore, 1), (29, .aload_n 0, 1), (30, .dup, 1), (31, .getfield 173, 3), (34, .iconst 1, 1), (35, .iadd, 1), (36, .putfield 173, 3), (39, .aload_n 0, 1), (40, .dup, 1), (41, .getfield 130, 3), (44, .iconst 1, 1), (45, .iadd, 1), (46, .putfield 130, 3), (49, .aload_n 0, 1), (50, .aload_n 0, 1), (51, .getfield 134, 3), (54, .aload_n 0, 1), (55, .getfield 173, 3), (58, .invokestatic 176, 3), (61, .putfield 134, 3), (64, .iconst 1, 1), (65, .ireturn, 1)])
set_option maxRecDepth 100000 in
theorem okX0_hold : mOk MX0_hold := by unfold mOk MX0_hold; decide +kernel
def MX0_holdAll : mM := (yX0_holdAll, cX0_holdAll, 6, some .boolean, [], 2, 45, [(0, .iload_n 1, 1), (1, .iload_n 2, 1), (2, .if_icmp .gt 7, 3), (5, .iconst 1, 1), (6, .goto 4, 3), (9, .iconst (-1), 1), (10, .istore_n 3, 1), (11, .iload_n 2, 1), (12, .iload_n 1, 1), (13, .isub, 1), (14, .invokestatic 181, 3), (17, .iconst 1, 1), (18, .iadd, 1), (19, .istore 4, 2), (21, .iconst 0, 1), (22, .istore 5, 2), (24, .iload 5, 2), (26, .iload 4, 2), (28, .if_icmp .ge 24, 3), (31, .aload_n 0, 1), (32, .iload_n 1, 1), (33, .iload 5, 2), (35, .iload_n 3, 1), (36, .imul, 1), (37, .iadd, 1), (38, .invokevirtual 113, 3), (41, .ifCond .ne 5, 3), (44, .iconst 0, 1), (45, .ireturn, 1), (46, .iinc 5 1, 3), (49, .goto (-25), 3), (52, .iconst 1, 1), (53, .ireturn, 1)])
set_option maxRecDepth 100000 in
theorem okX0_holdAll : mOk MX0_holdAll := by unfold mOk MX0_holdAll; decide +kernel
def MX0_leave : mM := (yX0_leave, cX0_leave, 2, none, [], 1, 24, [(0, .aload_n 0, 1), (1, .iconst 0, 1), (2, .aload_n 0, 1), (3, .getfield 173, 3), (6, .iload_n 1, 1), (7, .isub, 1), (8, .invokestatic 176, 3), (11, .putfield 173, 3), (14, .return_, 1)])
set_option maxRecDepth 100000 in
theorem okX0_leave : mOk MX0_leave := by unfold mOk MX0_leave; decide +kernel
def MX0_failing : mM := (yX0_failing, cX0_failing, 2, some .int, [], 0, 0, [(0, .aload_n 0, 1), (1, .getfield 173, 3), (4, .ifCond .le 34, 3), (7, .aload_n 0, 1), (8, .dup, 1), (9, .getfield 173, 3), (12, .iconst 1, 1), (13, .isub, 1), (14, .putfield 173, 3), (17, .aload_n 0, 1), (18, .getfield 16, 3), (21, .aload_n 0, 1), (22, .getfield 28, 3), (25, .aload_n 0, 1), (26, .getfield 173, 3), (29, .iaload, 1), (30, .dup2, 1), (31, .iaload, 1), (32, .iconst 1, 1), (33, .iadd, 1), (34, .iastore, 1), (35, .goto (-35), 3), (38, .iload_n 1, 1), (39, .ineg, 1), (40, .ireturn, 1)])
set_option maxRecDepth 100000 in
theorem okX0_failing : mOk MX0_failing := by unfold mOk MX0_failing; decide +kernel
def MX0_fillIn : mM := (yX0_fillIn, cX0_fillIn, 4, some .int, [], 2, 45, [(0, .aload_n 0, 1), (1, .iload_n 1, 1), (2, .invokevirtual 113, 3), (5, .ifCond .ne 9, 3), (8, .aload_n 0, 1), (9, .iconst 1, 1), (10, .invokevirtual 184, 3), (13, .ireturn, 1), (14, .aload_n 0, 1), (15, .iload_n 1, 1), (16, .invokevirtual 127, 3), (19, .istore_n 2, 1), (20, .iconst 0, 1), (21, .istore_n 3, 1), (22, .iload_n 3, 1), (23, .bipush 10, 2), (25, .if_icmp .ge 26, 3), (28, .aload_n 0, 1), (29, .getfield 25, 3), (32, .iload_n 3, 1), (33, .iaload, 1), (34, .iload_n 1, 1), (35, .if_icmp .ne 10, 3), (38, .aload_n 0, 1), (39, .getfield 25, 3), (42, .iload_n 3, 1), (43, .iconst (-1), 1), (44, .iastore, 1), (45, .iinc 3 1, 3), (48, .goto (-26), 3), (51, .aload_n 0, 1), (52, .getfield 9, 3), (55, .iload_n 1, 1), (56, .iconst 0, 1), (57, .iastore, 1), (58, .aload_n 0, 1), (59, .getfield 13, 3), (62, .iload_n 1, 1), (63, .iconst 0, 1), (64, .iastore, 1), (65, .aload_n 0, 1), (66, .getfield 16, 3), (69, .iload_n 1, 1), (70, .iconst 0, 1), (71, .iastore, 1), (72, .aload_n 0, 1), (73, .iconst 1, 1), (74, .invokevirtual 119, 3), (77, .iload_n 2, 1), (78, .ireturn, 1)])
set_option maxRecDepth 100000 in
theorem okX0_fillIn : mOk MX0_fillIn := by unfold mOk MX0_fillIn; decide +kernel
def MX0_pourInto : mM := (yX0_pourInto, cX0_pourInto, 3, some .int, [], 2, 45, [(0, .aload_n 0, 1), (1, .iload_n 1, 1), (2, .invokevirtual 113, 3), (5, .ifCond .ne 9, 3), (8, .aload_n 0, 1), (9, .iconst 1, 1), (10, .invokevirtual 184, 3), (13, .ireturn, 1), (14, .aload_n 0, 1), (15, .getfield 13, 3), (18, .iload_n 1, 1), (19, .iaload, 1), (20, .sipush 9999, 3), (23, .if_icmp .ge 23, 3), (26, .aload_n 0, 1), (27, .getfield 13, 3), (30, .iload_n 1, 1), (31, .sipush 9999, 3), (34, .aload_n 0, 1), (35, .getfield 13, 3), (38, .iload_n 1, 1), (39, .iaload, 1), (40, .iload_n 2, 1), (41, .iadd, 1), (42, .invokestatic 187, 3), (45, .iastore, 1), (46, .aload_n 0, 1), (47, .iconst 1, 1), (48, .invokevirtual 119, 3), (51, .aload_n 0, 1), (52, .getfield 13, 3), (55, .iload_n 1, 1), (56, .iaload, 1), (57, .ireturn, 1)])
set_option maxRecDepth 100000 in
theorem okX0_pourInto : mOk MX0_pourInto := by unfold mOk MX0_pourInto; decide +kernel
def MX0_drawDown : mM := (yX0_drawDown, cX0_drawDown, 7, some .int, [], 2, 45, [(0, .aload_n 0, 1), (1, .iload_n 1, 1), (2, .invokevirtual 113, 3), (5, .ifCond .ne 9, 3), (8, .aload_n 0, 1), (9, .iconst 1, 1), (10, .invokevirtual 184, 3), (13, .ireturn, 1), (14, .iload_n 2, 1), (15, .i2l, 1), (16, .lconst 1, 1), (17, .ladd, 1), (18, .aload_n 0, 1), (19, .getfield 9, 3), (22, .iload_n 1, 1), (23, .iaload, 1), (24, .i2l, 1), (25, .lmul, 1), (26, .lconst 1, 1), (27, .lsub, 1), (28, .lstore_n 3, 1), (29, .aload_n 0, 1), (30, .getfield 13, 3), (33, .iload_n 1, 1), (34, .iaload, 1), (35, .i2l, 1), (36, .lload_n 3, 1), (37, .invokestatic 190, 3), (40, .l2i, 1), (41, .istore 5, 2), (43, .aload_n 0, 1), (44, .getfield 13, 3), (47, .iload_n 1, 1), (48, .iaload, 1), (49, .iload 5, 2), (51, .isub, 1), (52, .istore 6, 2), (54, .aload_n 0, 1), (55, .getfield 13, 3), (58, .iload_n 1, 1), (59, .iload 5, 2), (61, .iastore, 1), (62, .aload_n 0, 1), (63, .iconst 1, 1), (64, .invokevirtual 119, 3), (67, .iload 6, 2), (69, .ireturn, 1)])
set_option maxRecDepth 100000 in
theorem okX0_drawDown : mOk MX0_drawDown := by unfold mOk MX0_drawDown; decide +kernel
def MX0_berth : mM := (yX0_berth, cX0_berth, 4, some .int, [], 2, 45, [(0, .aload_n 0, 1), (1, .iload_n 3, 1), (2, .invokevirtual 113, 3), (5, .ifCond .ne 9, 3), (8, .aload_n 0, 1), (9, .iconst 1, 1), (10, .invokevirtual 184, 3), (13, .ireturn, 1), (14, .aload_n 0, 1), (15, .getfield 25, 3), (18, .iload_n 1, 1), (19, .iaload, 1), (20, .iload_n 3, 1), (21, .if_icmp .eq 18, 3), (24, .aload_n 0, 1), (25, .iload_n 3, 1), (26, .invokevirtual 127, 3), (29, .iconst 3, 1), (30, .if_icmp .lt 9, 3), (33, .aload_n 0, 1), (34, .iconst 3, 1), (35, .invokevirtual 184, 3), (38, .ireturn, 1), (39, .aload_n 0, 1), (40, .getfield 22, 3), (43, .iload_n 1, 1), (44, .iload_n 2, 1), (45, .iastore, 1), (46, .aload_n 0, 1), (47, .getfield 25, 3), (50, .iload_n 1, 1), (51, .iload_n 3, 1), (52, .iastore, 1), (53, .aload_n 0, 1), (54, .iconst 1, 1), (55, .invokevirtual 119, 3), (58, .aload_n 0, 1), (59, .iload_n 3, 1), (60, .invokevirtual 127, 3), (63, .ireturn, 1)])
set_option maxRecDepth 100000 in
theorem okX0_berth : mOk MX0_berth := by unfold mOk MX0_berth; decide +kernel
def MX0_levelGate : mM := (yX0_levelGate, cX0_levelGate, 3, some .int, [], 3, 70, [(0, .aload_n 0, 1), (1, .iload_n 1, 1), (2, .iload_n 1, 1), (3, .iconst 1, 1), (4, .iadd, 1), (5, .invokevirtual 193, 3), (8, .ifCond .ne 9, 3), (11, .aload_n 0, 1), (12, .iconst 1, 1), (13, .invokevirtual 184, 3), (16, .ireturn, 1), (17, .aload_n 0, 1), (18, .getfield 19, 3), (21, .iload_n 1, 1), (22, .iaload, 1), (23, .ifCond .ne 9, 3), (26, .aload_n 0, 1), (27, .iconst 2, 1), (28, .invokevirtual 184, 3), (31, .ireturn, 1), (32, .aload_n 0, 1), (33, .getfield 19, 3), (36, .iload_n 1, 1), (37, .dup2, 1), (38, .iaload, 1), (39, .iconst 1, 1), (40, .isub, 1), (41, .iastore, 1), (42, .iconst 0, 1), (43, .istore_n 2, 1), (44, .iload_n 2, 1), (45, .sipush 200, 3), (48, .if_icmp .ge 32, 3), (51, .aload_n 0, 1), (52, .iload_n 1, 1), (53, .invokevirtual 116, 3), (56, .aload_n 0, 1), (57, .iload_n 1, 1), (58, .iconst 1, 1), (59, .iadd, 1), (60, .invokevirtual 116, 3), (63, .if_icmp .eq 17, 3), (66, .aload_n 0, 1), (67, .iload_n 1, 1), (68, .iload_n 1, 1), (69, .iconst 1, 1), (70, .iadd, 1), (71, .invokevirtual 197, 3), (74, .iinc 2 1, 3), (77, .goto (-33), 3), (80, .aload_n 0, 1), (81, .iload_n 1, 1), (82, .invokevirtual 116, 3), (85, .aload_n 0, 1), (86, .iload_n 1, 1), (87, .iconst 1, 1), (88, .iadd, 1), (89, .invokevirtual 116, 3), (92, .if_icmp .eq 9, 3), (95, .aload_n 0, 1), (96, .iconst 4, 1), (97, .invokevirtual 184, 3), (100, .ireturn, 1), (101, .aload_n 0, 1), (102, .iconst 2, 1), (103, .invokevirtual 119, 3), (106, .iload_n 2, 1), (107, .ireturn, 1)])
set_option maxRecDepth 100000 in
theorem okX0_levelGate : mOk MX0_levelGate := by unfold mOk MX0_levelGate; decide +kernel
def MX0_moveUnit : mM := (yX0_moveUnit, cX0_moveUnit, 4, none, [], 1, 21, [(0, .aload_n 0, 1), (1, .iload_n 1, 1), (2, .invokevirtual 116, 3), (5, .aload_n 0, 1), (6, .iload_n 2, 1), (7, .invokevirtual 116, 3), (10, .if_icmp .le 7, 3), (13, .iconst 1, 1), (14, .goto 4, 3), (17, .iconst (-1), 1), (18, .istore_n 3, 1), (19, .aload_n 0, 1), (20, .getfield 13, 3), (23, .iload_n 1, 1), (24, .dup2, 1), (25, .iaload, 1), (26, .iload_n 3, 1), (27, .isub, 1), (28, .iastore, 1), (29, .aload_n 0, 1), (30, .getfield 13, 3), (33, .iload_n 2, 1), (34, .dup2, 1), (35, .iaload, 1), (36, .iload_n 3, 1), (37, .iadd, 1), (38, .iastore, 1), (39, .return_, 1)])
set_option maxRecDepth 100000 in
theorem okX0_moveUnit : mOk MX0_moveUnit := by unfold mOk MX0_moveUnit; decide +kernel
def MX0_passBoat : mM := (yX0_passBoat, cX0_passBoat, 6, some .int, [], 4, 92, [(0, .aload_n 0, 1), (1, .getfield 25, 3), (4, .iload_n 1, 1), (5, .iaload, 1), (6, .istore_n 3, 1), (7, .iload_n 2, 1), (8, .ifCond .eq 9, 3), (11, .iload_n 3, 1), (12, .iconst 1, 1), (13, .iadd, 1), (14, .goto 6, 3), (17, .iload_n 3, 1), (18, .iconst 1, 1), (19, .isub, 1), (20, .istore 4, 2), (22, .aload_n 0, 1), (23, .iload_n 3, 1), (24, .invokevirtual 113, 3), (27, .ifCond .ne 9, 3), (30, .aload_n 0, 1), (31, .iconst 1, 1), (32, .invokevirtual 184, 3), (35, .ireturn, 1), (36, .aload_n 0, 1), (37, .iload_n 3, 1), (38, .iload 4, 2), (40, .invokestatic 187, 3), (43, .invokevirtual 73, 3), (46, .istore 5, 2), (48, .iload 5, 2), (50, .ifCond .ge 6, 3), (53, .iload 5, 2), (55, .ireturn, 1), (56, .aload_n 0, 1), (57, .iload 4, 2), (59, .invokevirtual 113, 3), (62, .ifCond .ne 9, 3), (65, .aload_n 0, 1), (66, .iconst 1, 1), (67, .invokevirtual 184, 3), (70, .ireturn, 1), (71, .aload_n 0, 1), (72, .iload 4, 2), (74, .invokevirtual 127, 3), (77, .iconst 3, 1), (78, .if_icmp .ge 18, 3), (81, .aload_n 0, 1), (82, .iload 4, 2), (84, .invokevirtual 116, 3), (87, .aload_n 0, 1), (88, .getfield 22, 3), (91, .iload_n 1, 1), (92, .iaload, 1), (93, .if_icmp .ge 9, 3), (96, .aload_n 0, 1), (97, .iconst 3, 1), (98, .invokevirtual 184, 3), (101, .ireturn, 1), (102, .aload_n 0, 1), (103, .getfield 25, 3), (106, .iload_n 1, 1), (107, .iload 4, 2), (109, .iastore, 1), (110, .aload_n 0, 1), (111, .iconst 2, 1), (112, .invokevirtual 119, 3), (115, .iload 4, 2), (117, .ireturn, 1)])
set_option maxRecDepth 100000 in
theorem okX0_passBoat : mOk MX0_passBoat := by unfold mOk MX0_passBoat; decide +kernel
def MX0_passInConvoy : mM := (yX0_passInConvoy, cX0_passInConvoy, 4, some .int, [], 5, 117, [(0, .aload_n 0, 1), (1, .iload_n 1, 1), (2, .iload_n 2, 1), (3, .invokevirtual 92, 3), (6, .istore_n 3, 1), (7, .iload_n 3, 1), (8, .bipush (-4), 2), (10, .if_icmp .ne 12, 3), (13, .aload_n 0, 1), (14, .iload_n 1, 1), (15, .iload_n 2, 1), (16, .invokevirtual 92, 3), (19, .goto 4, 3), (22, .iload_n 3, 1), (23, .ireturn, 1)])
set_option maxRecDepth 100000 in
theorem okX0_passInConvoy : mOk MX0_passInConvoy := by unfold mOk MX0_passInConvoy; decide +kernel
def MX0_fly : mM := (yX0_fly, cX0_fly, 7, some .int, [], 5, 117, [(0, .aload_n 0, 1), (1, .getfield 25, 3), (4, .iload_n 1, 1), (5, .iaload, 1), (6, .istore_n 3, 1), (7, .iload_n 3, 1), (8, .iconst (-1), 1), (9, .if_icmp .ne 6, 3), (12, .bipush (-20), 2), (14, .ireturn, 1), (15, .aload_n 0, 1), (16, .iload_n 3, 1), (17, .iload_n 2, 1), (18, .invokevirtual 193, 3), (21, .ifCond .ne 12, 3), (24, .bipush 10, 2), (26, .aload_n 0, 1), (27, .iconst 1, 1), (28, .invokevirtual 184, 3), (31, .imul, 1), (32, .ireturn, 1), (33, .iload_n 2, 1), (34, .iload_n 3, 1), (35, .isub, 1), (36, .invokestatic 181, 3), (39, .istore 4, 2), (41, .iconst 0, 1), (42, .istore 5, 2), (44, .iload 5, 2), (46, .iload 4, 2), (48, .if_icmp .ge 40, 3), (51, .aload_n 0, 1), (52, .iload_n 1, 1), (53, .iload_n 3, 1), (54, .iload_n 2, 1), (55, .if_icmp .ge 7, 3), (58, .iconst 1, 1), (59, .goto 4, 3), (62, .iconst 0, 1), (63, .invokevirtual 92, 3), (66, .istore 6, 2), (68, .iload 6, 2), (70, .ifCond .ge 12, 3), (73, .bipush 10, 2), (75, .iload 6, 2), (77, .imul, 1), (78, .iload 5, 2), (80, .isub, 1), (81, .ireturn, 1), (82, .iinc 5 1, 3), (85, .goto (-41), 3), (88, .aload_n 0, 1), (89, .iload 4, 2), (91, .iconst 1, 1), (92, .iadd, 1), (93, .invokevirtual 119, 3), (96, .iload 4, 2), (98, .ireturn, 1)])
set_option maxRecDepth 100000 in
theorem okX0_fly : mOk MX0_fly := by unfold mOk MX0_fly; decide +kernel
def MX0_shareOut : mM := (yX0_shareOut, cX0_shareOut, 7, some .int, [], 3, 70, [(0, .aload_n 0, 1), (1, .iload_n 1, 1), (2, .iload_n 2, 1), (3, .invokevirtual 193, 3), (6, .ifCond .ne 9, 3), (9, .aload_n 0, 1), (10, .iconst 1, 1), (11, .invokevirtual 184, 3), (14, .ireturn, 1), (15, .aload_n 0, 1), (16, .getfield 13, 3), (19, .iload_n 1, 1), (20, .iload_n 2, 1), (21, .invokestatic 141, 3), (24, .istore_n 3, 1), (25, .aload_n 0, 1), (26, .getfield 9, 3), (29, .iload_n 1, 1), (30, .iload_n 2, 1), (31, .invokestatic 141, 3), (34, .istore 4, 2), (36, .iload_n 3, 1), (37, .istore 5, 2), (39, .iload_n 1, 1), (40, .istore 6, 2), (42, .iload 6, 2), (44, .iload_n 2, 1), (45, .if_icmp .gt 41, 3), (48, .aload_n 0, 1), (49, .getfield 13, 3), (52, .iload 6, 2), (54, .aload_n 0, 1), (55, .getfield 9, 3), (58, .iload 6, 2), (60, .iaload, 1), (61, .iload_n 3, 1), (62, .iload 4, 2), (64, .invokestatic 201, 3), (67, .iastore, 1), (68, .iload 5, 2), (70, .aload_n 0, 1), (71, .getfield 13, 3), (74, .iload 6, 2), (76, .iaload, 1), (77, .isub, 1), (78, .istore 5, 2), (80, .iinc 6 1, 3), (83, .goto (-41), 3), (86, .aload_n 0, 1), (87, .getfield 13, 3), (90, .iload_n 1, 1), (91, .dup2, 1), (92, .iaload, 1), (93, .iload 5, 2), (95, .iadd, 1), (96, .iastore, 1), (97, .aload_n 0, 1), (98, .iload_n 2, 1), (99, .iload_n 1, 1), (100, .isub, 1), (101, .iconst 1, 1), (102, .iadd, 1), (103, .invokevirtual 119, 3), (106, .aload_n 0, 1), (107, .getfield 13, 3), (110, .iload_n 1, 1), (111, .iaload, 1), (112, .ireturn, 1)])
set_option maxRecDepth 100000 in
theorem okX0_shareOut : mOk MX0_shareOut := by unfold mOk MX0_shareOut; decide +kernel
def MX0_portion : mM := (yX0_portion, cX0_portion, 3, some .int, [], 0, 0, [(0, .iload_n 2, 1), (1, .ifCond .le 15, 3), (4, .iload_n 0, 1), (5, .i2l, 1), (6, .iload_n 1, 1), (7, .i2l, 1), (8, .lmul, 1), (9, .iload_n 2, 1), (10, .i2l, 1), (11, .ldiv, 1), (12, .l2i, 1), (13, .goto 4, 3), (16, .iconst 0, 1), (17, .ireturn, 1)])
set_option maxRecDepth 100000 in
theorem okX0_portion : mOk MX0_portion := by unfold mOk MX0_portion; decide +kernel
def MX0_sum : mM := (yX0_sum, cX0_sum, 5, some .int, [], 1, 24, [(0, .iconst 0, 1), (1, .istore_n 3, 1), (2, .iconst 0, 1), (3, .iload_n 1, 1), (4, .invokestatic 176, 3), (7, .istore 4, 2), (9, .iload 4, 2), (11, .iload_n 2, 1), (12, .if_icmp .gt 23, 3), (15, .iload 4, 2), (17, .aload_n 0, 1), (18, .arraylength, 1), (19, .if_icmp .ge 16, 3), (22, .iload_n 3, 1), (23, .aload_n 0, 1), (24, .iload 4, 2), (26, .iaload, 1), (27, .iadd, 1), (28, .istore_n 3, 1), (29, .iinc 4 1, 3), (32, .goto (-23), 3), (35, .iload_n 3, 1), (36, .ireturn, 1)])
set_option maxRecDepth 100000 in
theorem okX0_sum : mOk MX0_sum := by unfold mOk MX0_sum; decide +kernel
def MX0_isDug : mM := (yX0_isDug, cX0_isDug, 2, some .boolean, [], 0, 0, [(0, .aload_n 0, 1), (1, .getfield 9, 3), (4, .iload_n 1, 1), (5, .iaload, 1), (6, .ifCond .eq 7, 3), (9, .iconst 1, 1), (10, .goto 4, 3), (13, .iconst 0, 1), (14, .ireturn, 1)])
set_option maxRecDepth 100000 in
theorem okX0_isDug : mOk MX0_isDug := by unfold mOk MX0_isDug; decide +kernel
def MX0_heightOf : mM := (yX0_heightOf, cX0_heightOf, 2, some .int, [], 0, 0, [(0, .aload_n 0, 1), (1, .getfield 9, 3), (4, .iload_n 1, 1), (5, .iaload, 1), (6, .ifCond .le 19, 3), (9, .aload_n 0, 1), (10, .getfield 13, 3), (13, .iload_n 1, 1), (14, .iaload, 1), (15, .aload_n 0, 1), (16, .getfield 9, 3), (19, .iload_n 1, 1), (20, .iaload, 1), (21, .idiv, 1), (22, .goto 4, 3), (25, .iconst 0, 1), (26, .ireturn, 1)])
set_option maxRecDepth 100000 in
theorem okX0_heightOf : mOk MX0_heightOf := by unfold mOk MX0_heightOf; decide +kernel
def MX0_boatsIn : mM := (yX0_boatsIn, cX0_boatsIn, 4, some .int, [], 0, 0, [(0, .iconst 0, 1), (1, .istore_n 2, 1), (2, .iconst 0, 1), (3, .istore_n 3, 1), (4, .iload_n 3, 1), (5, .bipush 10, 2), (7, .if_icmp .ge 22, 3), (10, .aload_n 0, 1), (11, .getfield 25, 3), (14, .iload_n 3, 1), (15, .iaload, 1), (16, .iload_n 1, 1), (17, .if_icmp .ne 6, 3), (20, .iinc 2 1, 3), (23, .iinc 3 1, 3), (26, .goto (-22), 3), (29, .iload_n 2, 1), (30, .ireturn, 1)])
set_option maxRecDepth 100000 in
theorem okX0_boatsIn : mOk MX0_boatsIn := by unfold mOk MX0_boatsIn; decide +kernel
def MX0_countDug : mM := (yX0_countDug, cX0_countDug, 3, some .int, [], 1, 21, [(0, .iconst 0, 1), (1, .istore_n 1, 1), (2, .iconst 0, 1), (3, .istore_n 2, 1), (4, .iload_n 2, 1), (5, .bipush 8, 2), (7, .if_icmp .ge 20, 3), (10, .aload_n 0, 1), (11, .iload_n 2, 1), (12, .invokevirtual 42, 3), (15, .ifCond .eq 6, 3), (18, .iinc 1 1, 3), (21, .iinc 2 1, 3), (24, .goto (-20), 3), (27, .iload_n 1, 1), (28, .ireturn, 1)])
set_option maxRecDepth 100000 in
theorem okX0_countDug : mOk MX0_countDug := by unfold mOk MX0_countDug; decide +kernel
def MX0_canSetOut : mM := (yX0_canSetOut, cX0_canSetOut, 3, some .boolean, [], 1, 21, [(0, .aload_n 0, 1), (1, .getfield 25, 3), (4, .iload_n 1, 1), (5, .iaload, 1), (6, .iconst (-1), 1), (7, .if_icmp .eq 20, 3), (10, .aload_n 0, 1), (11, .getfield 25, 3), (14, .iload_n 1, 1), (15, .iaload, 1), (16, .iload_n 2, 1), (17, .invokestatic 83, 3), (20, .ifCond .eq 7, 3), (23, .iconst 1, 1), (24, .goto 4, 3), (27, .iconst 0, 1), (28, .ireturn, 1)])
set_option maxRecDepth 100000 in
theorem okX0_canSetOut : mOk MX0_canSetOut := by unfold mOk MX0_canSetOut; decide +kernel
def MX0_hasGate : mM := (yX0_hasGate, cX0_hasGate, 2, some .boolean, [], 0, 0, [(0, .iload_n 1, 1), (1, .ifCond .eq 17, 3), (4, .iload_n 0, 1), (5, .bipush 7, 2), (7, .if_icmp .ge 7, 3), (10, .iconst 1, 1), (11, .goto 16, 3), (14, .iconst 0, 1), (15, .goto 12, 3), (18, .iload_n 0, 1), (19, .ifCond .le 7, 3), (22, .iconst 1, 1), (23, .goto 4, 3), (26, .iconst 0, 1), (27, .ireturn, 1)])
set_option maxRecDepth 100000 in
theorem okX0_hasGate : mOk MX0_hasGate := by unfold mOk MX0_hasGate; decide +kernel
def MX1_init : mM := (yX1_init, cX1_init, 1, none, [], 1, 24, [(0, .aload_n 0, 1), (1, .invokespecial 1, 3), (4, .aload_n 0, 1), (5, .bipush 8, 2), (7, .newarray .boolean, 2), (9, .putfield 7, 3), (12, .aload_n 0, 1), (13, .bipush 8, 2), (15, .newarray .int, 2), (17, .putfield 13, 3), (20, .aload_n 0, 1), (21, .bipush 8, 2), (23, .newarray .int, 2), (25, .putfield 17, 3), (28, .aload_n 0, 1), (29, .bipush 8, 2), (31, .newarray .int, 2), (33, .putfield 20, 3), (36, .aload_n 0, 1), (37, .bipush 10, 2), (39, .newarray .int, 2), (41, .putfield 23, 3), (44, .aload_n 0, 1), (45, .bipush 10, 2), (47, .newarray .int, 2), (49, .putfield 26, 3), (52, .aload_n 0, 1), (53, .bipush 7, 2), (55, .newarray .int, 2), (57, .putfield 29, 3), (60, .aload_n 0, 1), (61, .bipush 32, 2), (63, .newarray .int, 2), (65, .putfield 32, 3), (68, .aload_n 0, 1), (69, .invokevirtual 35, 3), (72, .return_, 1)])
set_option maxRecDepth 100000 in
theorem okX1_init : mOk MX1_init := by unfold mOk MX1_init; decide +kernel
def MX1_thrown : mM := (yX1_thrown, cX1_thrown, 1, some .int, [], 0, 0, [(0, .aload_n 0, 1), (1, .getfield 38, 3), (4, .ireturn, 1)])
set_option maxRecDepth 100000 in
theorem okX1_thrown : mOk MX1_thrown := by unfold mOk MX1_thrown; decide +kernel
def MX1_begin : mM := (yX1_begin, cX1_begin, 2, none, [], 0, 0, [(0, .iconst 0, 1), (1, .istore_n 1, 1), (2, .iload_n 1, 1), (3, .bipush 8, 2), (5, .if_icmp .ge 16, 3), (8, .aload_n 0, 1), (9, .getfield 7, 3), (12, .iload_n 1, 1), (13, .iconst 0, 1), (14, .bastore, 1), (15, .iinc 1 1, 3), (18, .goto (-16), 3), (21, .iconst 0, 1), (22, .istore_n 1, 1), (23, .iload_n 1, 1), (24, .bipush 10, 2), (26, .if_icmp .ge 23, 3), (29, .aload_n 0, 1), (30, .getfield 23, 3), (33, .iload_n 1, 1), (34, .iconst (-1), 1), (35, .iastore, 1), (36, .aload_n 0, 1), (37, .getfield 26, 3), (40, .iload_n 1, 1), (41, .iconst 1, 1), (42, .iastore, 1), (43, .iinc 1 1, 3), (46, .goto (-23), 3), (49, .iconst 0, 1), (50, .istore_n 1, 1), (51, .iload_n 1, 1), (52, .bipush 7, 2), (54, .if_icmp .ge 16, 3), (57, .aload_n 0, 1), (58, .getfield 29, 3), (61, .iload_n 1, 1), (62, .iconst 5, 1), (63, .iastore, 1), (64, .iinc 1 1, 3), (67, .goto (-16), 3), (70, .aload_n 0, 1), (71, .iconst 0, 1), (72, .putfield 42, 3), (75, .aload_n 0, 1), (76, .iconst 0, 1), (77, .putfield 45, 3), (80, .aload_n 0, 1), (81, .iconst 0, 1), (82, .putfield 48, 3), (85, .aload_n 0, 1), (86, .iconst 0, 1), (87, .putfield 51, 3), (90, .return_, 1)])
set_option maxRecDepth 100000 in
theorem okX1_begin : mOk MX1_begin := by unfold mOk MX1_begin; decide +kernel
def MX1_in : mM := (yX1_in, cX1_in, 3, some .boolean, [], 0, 0, [(0, .iload_n 0, 1), (1, .iload_n 1, 1), (2, .if_icmp .lt 12, 3), (5, .iload_n 0, 1), (6, .iload_n 2, 1), (7, .if_icmp .gt 7, 3), (10, .iconst 1, 1), (11, .goto 4, 3), (14, .iconst 0, 1), (15, .ireturn, 1)])
set_option maxRecDepth 100000 in
theorem okX1_in : mOk MX1_in := by unfold mOk MX1_in; decide +kernel
def MX1_isPool : mM := (yX1_isPool, cX1_isPool, 1, some .boolean, [], 1, 22, [(0, .iload_n 0, 1), (1, .iconst 0, 1), (2, .bipush 7, 2), (4, .invokestatic 54, 3), (7, .ireturn, 1)])
set_option maxRecDepth 100000 in
theorem okX1_isPool : mOk MX1_isPool := by unfold mOk MX1_isPool; decide +kernel
def MX1_isBoat : mM := (yX1_isBoat, cX1_isBoat, 1, some .boolean, [], 1, 22, [(0, .iload_n 0, 1), (1, .iconst 0, 1), (2, .bipush 9, 2), (4, .invokestatic 54, 3), (7, .ireturn, 1)])
set_option maxRecDepth 100000 in
theorem okX1_isBoat : mOk MX1_isBoat := by unfold mOk MX1_isBoat; decide +kernel
def MX1_heightOf : mM := (yX1_heightOf, cX1_heightOf, 2, some .int, [], 0, 0, [(0, .aload_n 0, 1), (1, .getfield 17, 3), (4, .iload_n 1, 1), (5, .iaload, 1), (6, .aload_n 0, 1), (7, .getfield 13, 3), (10, .iload_n 1, 1), (11, .iaload, 1), (12, .idiv, 1), (13, .ireturn, 1)])
set_option maxRecDepth 100000 in
theorem okX1_heightOf : mOk MX1_heightOf := by unfold mOk MX1_heightOf; decide +kernel
def MX1_lieIn : mM := (yX1_lieIn, cX1_lieIn, 4, some .int, [], 0, 0, [(0, .iconst 0, 1), (1, .istore_n 2, 1), (2, .iconst 0, 1), (3, .istore_n 3, 1), (4, .iload_n 3, 1), (5, .bipush 10, 2), (7, .if_icmp .ge 27, 3), (10, .iload_n 2, 1), (11, .aload_n 0, 1), (12, .getfield 23, 3), (15, .iload_n 3, 1), (16, .iaload, 1), (17, .iload_n 1, 1), (18, .if_icmp .ne 7, 3), (21, .iconst 1, 1), (22, .goto 4, 3), (25, .iconst 0, 1), (26, .iadd, 1), (27, .istore_n 2, 1), (28, .iinc 3 1, 3), (31, .goto (-27), 3), (34, .iload_n 2, 1), (35, .ireturn, 1)])
set_option maxRecDepth 100000 in
theorem okX1_lieIn : mOk MX1_lieIn := by unfold mOk MX1_lieIn; decide +kernel
def MX1_fail : mM := (yX1_fail, cX1_fail, 2, some .boolean, [], 0, 0, [(0, .aload_n 0, 1), (1, .iload_n 1, 1), (2, .putfield 51, 3), (5, .aload_n 0, 1), (6, .getfield 42, 3), (9, .ifCond .le 34, 3), (12, .aload_n 0, 1), (13, .dup, 1), (14, .getfield 42, 3), (17, .iconst 1, 1), (18, .isub, 1), (19, .putfield 42, 3), (22, .aload_n 0, 1), (23, .getfield 20, 3), (26, .aload_n 0, 1), (27, .getfield 32, 3), (30, .aload_n 0, 1), (31, .getfield 42, 3), (34, .iaload, 1), (35, .dup2, 1), (36, .iaload, 1), (37, .iconst 1, 1), (38, .iadd, 1), (39, .iastore, 1), (40, .goto (-35), 3), (43, .iconst 0, 1), (44, .ireturn, 1)])
set_option maxRecDepth 100000 in
theorem okX1_fail : mOk MX1_fail := by unfold mOk MX1_fail; decide +kernel
def MX1_hold : mM := (yX1_hold, cX1_hold, 2, some .boolean, [], 1, 21, [(0, .aload_n 0, 1), (1, .getfield 7, 3), (4, .iload_n 1, 1), (5, .baload, 1), (6, .ifCond .ne 9, 3), (9, .aload_n 0, 1), (10, .iconst 1, 1), (11, .invokevirtual 58, 3), (14, .ireturn, 1), (15, .aload_n 0, 1), (16, .getfield 32, 3), (19, .aload_n 0, 1), (20, .getfield 42, 3), (23, .iload_n 1, 1), (24, .iastore, 1), (25, .aload_n 0, 1), (26, .dup, 1), (27, .getfield 42, 3), (30, .iconst 1, 1), (31, .iadd, 1), (32, .putfield 42, 3), (35, .aload_n 0, 1), (36, .dup, 1), (37, .getfield 45, 3), (40, .iconst 1, 1), (41, .iadd, 1), (42, .putfield 45, 3), (45, .aload_n 0, 1), (46, .aload_n 0, 1), (47, .getfield 42, 3), (50, .aload_n 0, 1), (51, .getfield 48, 3), (54, .if_icmp .le 10, 3), (57, .aload_n 0, 1), (58, .getfield 42, 3), (61, .goto 7, 3), (64, .aload_n 0, 1), (65, .getfield 48, 3), (68, .putfield 48, 3), (71, .iconst 1, 1), (72, .ireturn, 1)])
set_option maxRecDepth 100000 in
theorem okX1_hold : mOk MX1_hold := by unfold mOk MX1_hold; decide +kernel
def MX1_leave : mM := (yX1_leave, cX1_leave, 2, none, [], 0, 0, [(0, .aload_n 0, 1), (1, .dup, 1), (2, .getfield 42, 3), (5, .iload_n 1, 1), (6, .isub, 1), (7, .putfield 42, 3), (10, .return_, 1)])
set_option maxRecDepth 100000 in
theorem okX1_leave : mOk MX1_leave := by unfold mOk MX1_leave; decide +kernel
def MX1_told : mM := (yX1_told, cX1_told, 5, some .int, [], 0, 0, [(0, .aload_n 0, 1), (1, .aload_n 0, 1), (2, .getfield 51, 3), (5, .iconst 1, 1), (6, .if_icmp .ne 7, 3), (9, .iload_n 1, 1), (10, .goto 29, 3), (13, .aload_n 0, 1), (14, .getfield 51, 3), (17, .iconst 2, 1), (18, .if_icmp .ne 7, 3), (21, .iload_n 2, 1), (22, .goto 17, 3), (25, .aload_n 0, 1), (26, .getfield 51, 3), (29, .iconst 3, 1), (30, .if_icmp .ne 7, 3), (33, .iload_n 3, 1), (34, .goto 5, 3), (37, .iload 4, 2), (39, .putfield 38, 3), (42, .iconst 0, 1), (43, .ireturn, 1)])
set_option maxRecDepth 100000 in
theorem okX1_told : mOk MX1_told := by unfold mOk MX1_told; decide +kernel
def MX1_dig : mM := (yX1_dig, cX1_dig, 3, some .int, [], 2, 42, [(0, .aload_n 0, 1), (1, .iload_n 1, 1), (2, .invokestatic 62, 3), (5, .ifCond .ne 7, 3), (8, .iconst 1, 1), (9, .goto 18, 3), (12, .iload_n 2, 1), (13, .iconst 1, 1), (14, .bipush 9, 2), (16, .invokestatic 54, 3), (19, .ifCond .ne 7, 3), (22, .iconst 2, 1), (23, .goto 4, 3), (26, .iconst 0, 1), (27, .putfield 38, 3), (30, .aload_n 0, 1), (31, .getfield 38, 3), (34, .ifCond .gt 12, 3), (37, .aload_n 0, 1), (38, .getfield 7, 3), (41, .iload_n 1, 1), (42, .baload, 1), (43, .ifCond .eq 5, 3), (46, .iconst 0, 1), (47, .ireturn, 1), (48, .aload_n 0, 1), (49, .getfield 7, 3), (52, .iload_n 1, 1), (53, .iconst 1, 1), (54, .bastore, 1), (55, .aload_n 0, 1), (56, .getfield 13, 3), (59, .iload_n 1, 1), (60, .iload_n 2, 1), (61, .iastore, 1), (62, .aload_n 0, 1), (63, .getfield 17, 3), (66, .iload_n 1, 1), (67, .iconst 0, 1), (68, .iastore, 1), (69, .aload_n 0, 1), (70, .getfield 20, 3), (73, .iload_n 1, 1), (74, .iconst 0, 1), (75, .iastore, 1), (76, .iconst 1, 1), (77, .ireturn, 1)])
set_option maxRecDepth 100000 in
theorem okX1_dig : mOk MX1_dig := by unfold mOk MX1_dig; decide +kernel
def MX1_fill : mM := (yX1_fill, cX1_fill, 4, some .int, [], 2, 42, [(0, .aload_n 0, 1), (1, .iload_n 1, 1), (2, .invokestatic 62, 3), (5, .ifCond .eq 7, 3), (8, .iconst 0, 1), (9, .goto 4, 3), (12, .iconst 1, 1), (13, .putfield 38, 3), (16, .aload_n 0, 1), (17, .getfield 38, 3), (20, .ifCond .le 5, 3), (23, .iconst 0, 1), (24, .ireturn, 1), (25, .aload_n 0, 1), (26, .iload_n 1, 1), (27, .invokevirtual 65, 3), (30, .ifCond .ne 12, 3), (33, .aload_n 0, 1), (34, .iconst 2, 1), (35, .iconst 0, 1), (36, .iconst 0, 1), (37, .iconst 0, 1), (38, .invokevirtual 68, 3), (41, .ireturn, 1), (42, .iconst 0, 1), (43, .istore_n 2, 1), (44, .iconst 0, 1), (45, .istore_n 3, 1), (46, .iload_n 3, 1), (47, .bipush 10, 2), (49, .if_icmp .ge 29, 3), (52, .aload_n 0, 1), (53, .getfield 23, 3), (56, .iload_n 3, 1), (57, .iaload, 1), (58, .iload_n 1, 1), (59, .if_icmp .ne 13, 3), (62, .aload_n 0, 1), (63, .getfield 23, 3), (66, .iload_n 3, 1), (67, .iconst (-1), 1), (68, .iastore, 1), (69, .iinc 2 1, 3), (72, .iinc 3 1, 3), (75, .goto (-29), 3), (78, .aload_n 0, 1), (79, .iconst 1, 1), (80, .invokevirtual 72, 3), (83, .aload_n 0, 1), (84, .getfield 7, 3), (87, .iload_n 1, 1), (88, .iconst 0, 1), (89, .bastore, 1), (90, .iload_n 2, 1), (91, .ireturn, 1)])
set_option maxRecDepth 100000 in
theorem okX1_fill : mOk MX1_fill := by unfold mOk MX1_fill; decide +kernel
def MX1_pour : mM := (yX1_pour, cX1_pour, 5, some .int, [], 2, 42, [(0, .aload_n 0, 1), (1, .iload_n 1, 1), (2, .invokestatic 62, 3), (5, .ifCond .ne 7, 3), (8, .iconst 1, 1), (9, .goto 19, 3), (12, .iload_n 2, 1), (13, .iconst 0, 1), (14, .sipush 9999, 3), (17, .invokestatic 54, 3), (20, .ifCond .ne 7, 3), (23, .iconst 2, 1), (24, .goto 4, 3), (27, .iconst 0, 1), (28, .putfield 38, 3), (31, .aload_n 0, 1), (32, .getfield 38, 3), (35, .ifCond .le 5, 3), (38, .iconst 0, 1), (39, .ireturn, 1), (40, .aload_n 0, 1), (41, .iload_n 1, 1), (42, .invokevirtual 65, 3), (45, .ifCond .ne 12, 3), (48, .aload_n 0, 1), (49, .iconst 3, 1), (50, .iconst 0, 1), (51, .iconst 0, 1), (52, .iconst 0, 1), (53, .invokevirtual 68, 3), (56, .ireturn, 1), (57, .aload_n 0, 1), (58, .getfield 17, 3), (61, .iload_n 1, 1), (62, .iaload, 1), (63, .iload_n 2, 1), (64, .iadd, 1), (65, .istore_n 3, 1), (66, .iload_n 3, 1), (67, .sipush 9999, 3), (70, .if_icmp .le 9, 3), (73, .sipush 9999, 3), (76, .goto 4, 3), (79, .iload_n 3, 1), (80, .istore 4, 2), (82, .aload_n 0, 1), (83, .getfield 17, 3), (86, .iload_n 1, 1), (87, .iload 4, 2), (89, .aload_n 0, 1), (90, .getfield 17, 3), (93, .iload_n 1, 1), (94, .iaload, 1), (95, .if_icmp .le 8, 3), (98, .iload 4, 2), (100, .goto 9, 3), (103, .aload_n 0, 1), (104, .getfield 17, 3), (107, .iload_n 1, 1), (108, .iaload, 1), (109, .iastore, 1), (110, .aload_n 0, 1), (111, .iconst 1, 1), (112, .invokevirtual 72, 3), (115, .aload_n 0, 1), (116, .getfield 17, 3), (119, .iload_n 1, 1), (120, .iaload, 1), (121, .ireturn, 1)])
set_option maxRecDepth 100000 in
theorem okX1_pour : mOk MX1_pour := by unfold mOk MX1_pour; decide +kernel
def MX1_draw : mM := (yX1_draw, cX1_draw, 4, some .int, [], 2, 42, [(0, .aload_n 0, 1), (1, .iload_n 1, 1), (2, .invokestatic 62, 3), (5, .ifCond .ne 7, 3), (8, .iconst 1, 1), (9, .goto 12, 3), (12, .iload_n 2, 1), (13, .ifCond .ge 7, 3), (16, .iconst 2, 1), (17, .goto 4, 3), (20, .iconst 0, 1), (21, .putfield 38, 3), (24, .aload_n 0, 1), (25, .getfield 38, 3), (28, .ifCond .le 5, 3), (31, .iconst 0, 1), (32, .ireturn, 1), (33, .aload_n 0, 1), (34, .iload_n 1, 1), (35, .invokevirtual 65, 3), (38, .ifCond .ne 12, 3), (41, .aload_n 0, 1), (42, .iconst 3, 1), (43, .iconst 0, 1), (44, .iconst 0, 1), (45, .iconst 0, 1), (46, .invokevirtual 68, 3), (49, .ireturn, 1), (50, .iconst 0, 1), (51, .istore_n 3, 1), (52, .aload_n 0, 1), (53, .iload_n 1, 1), (54, .invokevirtual 76, 3), (57, .iload_n 2, 1), (58, .if_icmp .le 19, 3), (61, .aload_n 0, 1), (62, .getfield 17, 3), (65, .iload_n 1, 1), (66, .dup2, 1), (67, .iaload, 1), (68, .iconst 1, 1), (69, .isub, 1), (70, .iastore, 1), (71, .iinc 3 1, 3), (74, .goto (-22), 3), (77, .aload_n 0, 1), (78, .iconst 1, 1), (79, .invokevirtual 72, 3), (82, .iload_n 3, 1), (83, .ireturn, 1)])
set_option maxRecDepth 100000 in
theorem okX1_draw : mOk MX1_draw := by unfold mOk MX1_draw; decide +kernel
def MX1_boat : mM := (yX1_boat, cX1_boat, 4, some .int, [], 2, 42, [(0, .aload_n 0, 1), (1, .iload_n 1, 1), (2, .invokestatic 80, 3), (5, .ifCond .eq 10, 3), (8, .iload_n 3, 1), (9, .invokestatic 62, 3), (12, .ifCond .ne 7, 3), (15, .iconst 1, 1), (16, .goto 18, 3), (19, .iload_n 2, 1), (20, .iconst 1, 1), (21, .bipush 99, 2), (23, .invokestatic 54, 3), (26, .ifCond .ne 7, 3), (29, .iconst 2, 1), (30, .goto 4, 3), (33, .iconst 0, 1), (34, .putfield 38, 3), (37, .aload_n 0, 1), (38, .getfield 38, 3), (41, .ifCond .le 5, 3), (44, .iconst 0, 1), (45, .ireturn, 1), (46, .aload_n 0, 1), (47, .iload_n 3, 1), (48, .invokevirtual 65, 3), (51, .ifCond .ne 12, 3), (54, .aload_n 0, 1), (55, .iconst 3, 1), (56, .iconst 0, 1), (57, .iconst 0, 1), (58, .iconst 0, 1), (59, .invokevirtual 68, 3), (62, .ireturn, 1), (63, .aload_n 0, 1), (64, .iload_n 3, 1), (65, .invokevirtual 83, 3), (68, .aload_n 0, 1), (69, .getfield 23, 3), (72, .iload_n 1, 1), (73, .iaload, 1), (74, .iload_n 3, 1), (75, .if_icmp .ne 7, 3), (78, .iconst 1, 1), (79, .goto 4, 3), (82, .iconst 0, 1), (83, .isub, 1), (84, .iconst 3, 1), (85, .if_icmp .lt 18, 3), (88, .aload_n 0, 1), (89, .iconst 3, 1), (90, .invokevirtual 58, 3), (93, .pop, 1), (94, .aload_n 0, 1), (95, .iconst 0, 1), (96, .iconst 0, 1), (97, .iconst 4, 1), (98, .iconst 0, 1), (99, .invokevirtual 68, 3), (102, .ireturn, 1), (103, .aload_n 0, 1), (104, .getfield 26, 3), (107, .iload_n 1, 1), (108, .iload_n 2, 1), (109, .iastore, 1), (110, .aload_n 0, 1), (111, .getfield 23, 3), (114, .iload_n 1, 1), (115, .iload_n 3, 1), (116, .iastore, 1), (117, .aload_n 0, 1), (118, .iconst 1, 1), (119, .invokevirtual 72, 3), (122, .aload_n 0, 1), (123, .iload_n 3, 1), (124, .invokevirtual 83, 3), (127, .ireturn, 1)])
set_option maxRecDepth 100000 in
theorem okX1_boat : mOk MX1_boat := by unfold mOk MX1_boat; decide +kernel
def MX1_gate : mM := (yX1_gate, cX1_gate, 4, some .int, [], 1, 22, [(0, .aload_n 0, 1), (1, .iload_n 1, 1), (2, .iconst 0, 1), (3, .bipush 6, 2), (5, .invokestatic 54, 3), (8, .ifCond .ne 7, 3), (11, .iconst 1, 1), (12, .goto 18, 3), (15, .iload_n 2, 1), (16, .iconst 0, 1), (17, .bipush 99, 2), (19, .invokestatic 54, 3), (22, .ifCond .ne 7, 3), (25, .iconst 2, 1), (26, .goto 4, 3), (29, .iconst 0, 1), (30, .putfield 38, 3), (33, .aload_n 0, 1), (34, .getfield 38, 3), (37, .ifCond .le 5, 3), (40, .iconst 0, 1), (41, .ireturn, 1), (42, .aload_n 0, 1), (43, .getfield 29, 3), (46, .iload_n 1, 1), (47, .iaload, 1), (48, .istore_n 3, 1), (49, .aload_n 0, 1), (50, .getfield 29, 3), (53, .iload_n 1, 1), (54, .iload_n 2, 1), (55, .iastore, 1), (56, .iload_n 3, 1), (57, .ireturn, 1)])
set_option maxRecDepth 100000 in
theorem okX1_gate : mOk MX1_gate := by unfold mOk MX1_gate; decide +kernel
def MX1_levels : mM := (yX1_levels, cX1_levels, 3, some .boolean, [], 2, 42, [(0, .aload_n 0, 1), (1, .iload_n 1, 1), (2, .invokevirtual 65, 3), (5, .ifCond .eq 13, 3), (8, .aload_n 0, 1), (9, .iload_n 1, 1), (10, .iconst 1, 1), (11, .iadd, 1), (12, .invokevirtual 65, 3), (15, .ifCond .ne 5, 3), (18, .iconst 0, 1), (19, .ireturn, 1), (20, .aload_n 0, 1), (21, .getfield 29, 3), (24, .iload_n 1, 1), (25, .iaload, 1), (26, .ifCond .ne 9, 3), (29, .aload_n 0, 1), (30, .iconst 2, 1), (31, .invokevirtual 58, 3), (34, .ireturn, 1), (35, .aload_n 0, 1), (36, .getfield 29, 3), (39, .iload_n 1, 1), (40, .dup2, 1), (41, .iaload, 1), (42, .iconst 1, 1), (43, .isub, 1), (44, .iastore, 1), (45, .aload_n 0, 1), (46, .iconst 0, 1), (47, .putfield 86, 3), (50, .aload_n 0, 1), (51, .getfield 86, 3), (54, .sipush 200, 3), (57, .if_icmp .ge 80, 3), (60, .aload_n 0, 1), (61, .iload_n 1, 1), (62, .invokevirtual 76, 3), (65, .aload_n 0, 1), (66, .iload_n 1, 1), (67, .iconst 1, 1), (68, .iadd, 1), (69, .invokevirtual 76, 3), (72, .if_icmp .eq 65, 3), (75, .aload_n 0, 1), (76, .iload_n 1, 1), (77, .invokevirtual 76, 3), (80, .aload_n 0, 1), (81, .iload_n 1, 1), (82, .iconst 1, 1), (83, .iadd, 1), (84, .invokevirtual 76, 3), (87, .if_icmp .le 7, 3), (90, .iload_n 1, 1), (91, .goto 6, 3), (94, .iload_n 1, 1), (95, .iconst 1, 1), (96, .iadd, 1), (97, .istore_n 2, 1), (98, .aload_n 0, 1), (99, .getfield 17, 3), (102, .iload_n 2, 1), (103, .dup2, 1), (104, .iaload, 1), (105, .iconst 1, 1), (106, .isub, 1), (107, .iastore, 1), (108, .aload_n 0, 1), (109, .getfield 17, 3), (112, .iconst 2, 1), (113, .iload_n 1, 1), (114, .imul, 1), (115, .iconst 1, 1), (116, .iadd, 1), (117, .iload_n 2, 1), (118, .isub, 1), (119, .dup2, 1), (120, .iaload, 1), (121, .iconst 1, 1), (122, .iadd, 1), (123, .iastore, 1), (124, .aload_n 0, 1), (125, .dup, 1), (126, .getfield 86, 3), (129, .iconst 1, 1), (130, .iadd, 1), (131, .putfield 86, 3), (134, .goto (-84), 3), (137, .aload_n 0, 1), (138, .iload_n 1, 1), (139, .invokevirtual 76, 3), (142, .aload_n 0, 1), (143, .iload_n 1, 1), (144, .iconst 1, 1), (145, .iadd, 1), (146, .invokevirtual 76, 3), (149, .if_icmp .eq 9, 3), (152, .aload_n 0, 1), (153, .iconst 4, 1), (154, .invokevirtual 58, 3), (157, .ireturn, 1), (158, .aload_n 0, 1), (159, .iconst 2, 1), (160, .invokevirtual 72, 3), (163, .iconst 1, 1), (164, .ireturn, 1)])
set_option maxRecDepth 100000 in
theorem okX1_levels : mOk MX1_levels := by unfold mOk MX1_levels; decide +kernel
def MX1_passes : mM := (yX1_passes, cX1_passes, 5, some .boolean, [], 3, 64, [(0, .aload_n 0, 1), (1, .getfield 23, 3), (4, .iload_n 1, 1), (5, .iaload, 1), (6, .istore_n 3, 1), (7, .iload_n 2, 1), (8, .ifCond .eq 9, 3), (11, .iload_n 3, 1), (12, .iconst 1, 1), (13, .iadd, 1), (14, .goto 6, 3), (17, .iload_n 3, 1), (18, .iconst 1, 1), (19, .isub, 1), (20, .istore 4, 2), (22, .aload_n 0, 1), (23, .iload_n 3, 1), (24, .invokevirtual 65, 3), (27, .ifCond .eq 29, 3), (30, .aload_n 0, 1), (31, .iload_n 2, 1), (32, .ifCond .eq 7, 3), (35, .iload_n 3, 1), (36, .goto 5, 3), (39, .iload 4, 2), (41, .invokevirtual 89, 3), (44, .ifCond .eq 12, 3), (47, .aload_n 0, 1), (48, .iload 4, 2), (50, .invokevirtual 65, 3), (53, .ifCond .ne 5, 3), (56, .iconst 0, 1), (57, .ireturn, 1), (58, .aload_n 0, 1), (59, .iload 4, 2), (61, .invokevirtual 83, 3), (64, .iconst 3, 1), (65, .if_icmp .ge 18, 3), (68, .aload_n 0, 1), (69, .iload 4, 2), (71, .invokevirtual 76, 3), (74, .aload_n 0, 1), (75, .getfield 26, 3), (78, .iload_n 1, 1), (79, .iaload, 1), (80, .if_icmp .ge 9, 3), (83, .aload_n 0, 1), (84, .iconst 3, 1), (85, .invokevirtual 58, 3), (88, .ireturn, 1), (89, .aload_n 0, 1), (90, .getfield 23, 3), (93, .iload_n 1, 1), (94, .iload 4, 2), (96, .iastore, 1), (97, .aload_n 0, 1), (98, .iconst 2, 1), (99, .invokevirtual 72, 3), (102, .iconst 1, 1), (103, .ireturn, 1)])
set_option maxRecDepth 100000 in
theorem okX1_passes : mOk MX1_passes := by unfold mOk MX1_passes; decide +kernel
def MX1_level : mM := (yX1_level, cX1_level, 2, some .int, [], 3, 64, [(0, .aload_n 0, 1), (1, .iload_n 1, 1), (2, .iconst 0, 1), (3, .bipush 6, 2), (5, .invokestatic 54, 3), (8, .ifCond .eq 7, 3), (11, .iconst 0, 1), (12, .goto 4, 3), (15, .iconst 1, 1), (16, .putfield 38, 3), (19, .aload_n 0, 1), (20, .getfield 38, 3), (23, .ifCond .le 5, 3), (26, .iconst 0, 1), (27, .ireturn, 1), (28, .aload_n 0, 1), (29, .iload_n 1, 1), (30, .invokevirtual 89, 3), (33, .ifCond .eq 10, 3), (36, .aload_n 0, 1), (37, .getfield 86, 3), (40, .goto 11, 3), (43, .aload_n 0, 1), (44, .iconst 2, 1), (45, .iconst 3, 1), (46, .iconst 0, 1), (47, .iconst 4, 1), (48, .invokevirtual 68, 3), (51, .ireturn, 1)])
set_option maxRecDepth 100000 in
theorem okX1_level : mOk MX1_level := by unfold mOk MX1_level; decide +kernel
def MX1_pass : mM := (yX1_pass, cX1_pass, 3, some .int, [], 4, 88, [(0, .aload_n 0, 1), (1, .iload_n 1, 1), (2, .invokestatic 80, 3), (5, .ifCond .ne 7, 3), (8, .iconst 1, 1), (9, .goto 51, 3), (12, .aload_n 0, 1), (13, .getfield 23, 3), (16, .iload_n 1, 1), (17, .iaload, 1), (18, .iconst (-1), 1), (19, .if_icmp .ne 7, 3), (22, .iconst 3, 1), (23, .goto 37, 3), (26, .iload_n 2, 1), (27, .ifCond .eq 14, 3), (30, .aload_n 0, 1), (31, .getfield 23, 3), (34, .iload_n 1, 1), (35, .iaload, 1), (36, .iconst 1, 1), (37, .iadd, 1), (38, .goto 11, 3), (41, .aload_n 0, 1), (42, .getfield 23, 3), (45, .iload_n 1, 1), (46, .iaload, 1), (47, .iconst 1, 1), (48, .isub, 1), (49, .invokestatic 62, 3), (52, .ifCond .ne 7, 3), (55, .iconst 1, 1), (56, .goto 4, 3), (59, .iconst 0, 1), (60, .putfield 38, 3), (63, .aload_n 0, 1), (64, .getfield 38, 3), (67, .ifCond .le 5, 3), (70, .iconst 0, 1), (71, .ireturn, 1), (72, .aload_n 0, 1), (73, .iload_n 1, 1), (74, .iload_n 2, 1), (75, .invokevirtual 92, 3), (78, .ifCond .eq 12, 3), (81, .aload_n 0, 1), (82, .getfield 23, 3), (85, .iload_n 1, 1), (86, .iaload, 1), (87, .goto 11, 3), (90, .aload_n 0, 1), (91, .iconst 2, 1), (92, .iconst 3, 1), (93, .iconst 4, 1), (94, .iconst 5, 1), (95, .invokevirtual 68, 3), (98, .ireturn, 1)])
set_option maxRecDepth 100000 in
theorem okX1_pass : mOk MX1_pass := by unfold mOk MX1_pass; decide +kernel
def MX1_flies : mM := (yX1_flies, cX1_flies, 7, some .boolean, [], 4, 88, [(0, .aload_n 0, 1), (1, .getfield 23, 3), (4, .iload_n 1, 1), (5, .iaload, 1), (6, .istore_n 3, 1), (7, .iload_n 2, 1), (8, .iload_n 3, 1), (9, .if_icmp .le 7, 3), (12, .iconst 1, 1), (13, .goto 4, 3), (16, .iconst (-1), 1), (17, .istore 4, 2), (19, .iload_n 2, 1), (20, .iload_n 3, 1), (21, .if_icmp .le 9, 3), (24, .iload_n 2, 1), (25, .iload_n 3, 1), (26, .isub, 1), (27, .goto 6, 3), (30, .iload_n 3, 1), (31, .iload_n 2, 1), (32, .isub, 1), (33, .istore 5, 2), (35, .aload_n 0, 1), (36, .iconst 0, 1), (37, .putfield 96, 3), (40, .iconst 0, 1), (41, .istore 6, 2), (43, .iload 6, 2), (45, .iload 5, 2), (47, .if_icmp .gt 25, 3), (50, .aload_n 0, 1), (51, .iload_n 3, 1), (52, .iload 6, 2), (54, .iload 4, 2), (56, .imul, 1), (57, .iadd, 1), (58, .invokevirtual 65, 3), (61, .ifCond .ne 5, 3), (64, .iconst 0, 1), (65, .ireturn, 1), (66, .iinc 6 1, 3), (69, .goto (-26), 3), (72, .aload_n 0, 1), (73, .getfield 96, 3), (76, .iload 5, 2), (78, .if_icmp .ge 36, 3), (81, .aload_n 0, 1), (82, .iload_n 1, 1), (83, .iload_n 2, 1), (84, .iload_n 3, 1), (85, .if_icmp .le 7, 3), (88, .iconst 1, 1), (89, .goto 4, 3), (92, .iconst 0, 1), (93, .invokevirtual 92, 3), (96, .ifCond .ne 5, 3), (99, .iconst 0, 1), (100, .ireturn, 1), (101, .aload_n 0, 1), (102, .dup, 1), (103, .getfield 96, 3), (106, .iconst 1, 1), (107, .iadd, 1), (108, .putfield 96, 3), (111, .goto (-39), 3), (114, .aload_n 0, 1), (115, .iload 5, 2), (117, .iconst 1, 1), (118, .iadd, 1), (119, .invokevirtual 72, 3), (122, .iconst 1, 1), (123, .ireturn, 1)])
set_option maxRecDepth 100000 in
theorem okX1_flies : mOk MX1_flies := by unfold mOk MX1_flies; decide +kernel
def MX1_flight : mM := (yX1_flight, cX1_flight, 3, some .int, [], 5, 114, [(0, .aload_n 0, 1), (1, .iload_n 1, 1), (2, .invokestatic 80, 3), (5, .ifCond .eq 10, 3), (8, .iload_n 2, 1), (9, .invokestatic 62, 3), (12, .ifCond .ne 7, 3), (15, .iconst 1, 1), (16, .goto 18, 3), (19, .aload_n 0, 1), (20, .getfield 23, 3), (23, .iload_n 1, 1), (24, .iaload, 1), (25, .iconst (-1), 1), (26, .if_icmp .ne 7, 3), (29, .iconst 3, 1), (30, .goto 4, 3), (33, .iconst 0, 1), (34, .putfield 38, 3), (37, .aload_n 0, 1), (38, .getfield 38, 3), (41, .ifCond .le 5, 3), (44, .iconst 0, 1), (45, .ireturn, 1), (46, .aload_n 0, 1), (47, .iload_n 1, 1), (48, .iload_n 2, 1), (49, .invokevirtual 99, 3), (52, .ifCond .eq 10, 3), (55, .aload_n 0, 1), (56, .getfield 96, 3), (59, .goto 11, 3), (62, .aload_n 0, 1), (63, .iconst 2, 1), (64, .iconst 3, 1), (65, .iconst 4, 1), (66, .iconst 5, 1), (67, .invokevirtual 68, 3), (70, .ireturn, 1)])
set_option maxRecDepth 100000 in
theorem okX1_flight : mOk MX1_flight := by unfold mOk MX1_flight; decide +kernel
def MX1_trip : mM := (yX1_trip, cX1_trip, 3, some .int, [], 5, 114, [(0, .aload_n 0, 1), (1, .iload_n 1, 1), (2, .invokestatic 80, 3), (5, .ifCond .eq 10, 3), (8, .iload_n 2, 1), (9, .invokestatic 62, 3), (12, .ifCond .ne 7, 3), (15, .iconst 1, 1), (16, .goto 4, 3), (19, .iconst 0, 1), (20, .putfield 38, 3), (23, .aload_n 0, 1), (24, .getfield 38, 3), (27, .ifCond .le 5, 3), (30, .iconst 0, 1), (31, .ireturn, 1), (32, .aload_n 0, 1), (33, .getfield 23, 3), (36, .iload_n 1, 1), (37, .iaload, 1), (38, .iconst (-1), 1), (39, .if_icmp .ne 6, 3), (42, .bipush (-20), 2), (44, .ireturn, 1), (45, .aload_n 0, 1), (46, .iload_n 1, 1), (47, .iload_n 2, 1), (48, .invokevirtual 99, 3), (51, .ifCond .eq 10, 3), (54, .aload_n 0, 1), (55, .getfield 96, 3), (58, .goto 15, 3), (61, .bipush (-10), 2), (63, .aload_n 0, 1), (64, .getfield 51, 3), (67, .imul, 1), (68, .aload_n 0, 1), (69, .getfield 96, 3), (72, .isub, 1), (73, .ireturn, 1)])
set_option maxRecDepth 100000 in
theorem okX1_trip : mOk MX1_trip := by unfold mOk MX1_trip; decide +kernel
def MX1_convoy : mM := (yX1_convoy, cX1_convoy, 8, some .int, [], 4, 88, [(0, .aload_n 0, 1), (1, .iload_n 1, 1), (2, .iconst 0, 1), (3, .sipush 1023, 3), (6, .invokestatic 54, 3), (9, .ifCond .eq 7, 3), (12, .iconst 0, 1), (13, .goto 4, 3), (16, .iconst 1, 1), (17, .putfield 38, 3), (20, .iconst 0, 1), (21, .istore_n 3, 1), (22, .aload_n 0, 1), (23, .getfield 38, 3), (26, .ifCond .le 7, 3), (29, .iconst 1, 1), (30, .goto 4, 3), (33, .iconst 0, 1), (34, .istore 4, 2), (36, .iconst 0, 1), (37, .istore 5, 2), (39, .iload 5, 2), (41, .bipush 10, 2), (43, .if_icmp .ge 138, 3), (46, .iload 4, 2), (48, .ifCond .ne 133, 3), (51, .aload_n 0, 1), (52, .getfield 23, 3), (55, .iload 5, 2), (57, .iaload, 1), (58, .iconst (-1), 1), (59, .if_icmp .ne 7, 3), (62, .iconst (-1), 1), (63, .goto 28, 3), (66, .iload_n 2, 1), (67, .ifCond .eq 15, 3), (70, .aload_n 0, 1), (71, .getfield 23, 3), (74, .iload 5, 2), (76, .iaload, 1), (77, .iconst 1, 1), (78, .iadd, 1), (79, .goto 12, 3), (82, .aload_n 0, 1), (83, .getfield 23, 3), (86, .iload 5, 2), (88, .iaload, 1), (89, .iconst 1, 1), (90, .isub, 1), (91, .istore 6, 2), (93, .iload_n 1, 1), (94, .iload 5, 2), (96, .ishr, 1), (97, .iconst 1, 1), (98, .iand, 1), (99, .iconst 1, 1), (100, .if_icmp .ne 75, 3), (103, .iload 6, 2), (105, .invokestatic 62, 3), (108, .ifCond .eq 67, 3), (111, .aload_n 0, 1), (112, .iload 5, 2), (114, .iload_n 2, 1), (115, .invokevirtual 92, 3), (118, .istore 7, 2), (120, .iload 7, 2), (122, .ifCond .ne 20, 3), (125, .aload_n 0, 1), (126, .getfield 51, 3), (129, .iconst 4, 1), (130, .if_icmp .ne 12, 3), (133, .aload_n 0, 1), (134, .iload 5, 2), (136, .iload_n 2, 1), (137, .invokevirtual 92, 3), (140, .istore 7, 2), (142, .iload_n 3, 1), (143, .iload 7, 2), (145, .ifCond .eq 7, 3), (148, .iconst 1, 1), (149, .goto 4, 3), (152, .iconst 0, 1), (153, .iadd, 1), (154, .istore_n 3, 1), (155, .iload 7, 2), (157, .ifCond .ne 15, 3), (160, .aload_n 0, 1), (161, .getfield 51, 3), (164, .iconst 2, 1), (165, .if_icmp .ne 7, 3), (168, .iconst 1, 1), (169, .goto 4, 3), (172, .iconst 0, 1), (173, .istore 4, 2), (175, .iinc 5 1, 3), (178, .goto (-139), 3), (181, .iload_n 3, 1), (182, .ireturn, 1)])
set_option maxRecDepth 100000 in
theorem okX1_convoy : mOk MX1_convoy := by unfold mOk MX1_convoy; decide +kernel
def MX1_share : mM := (yX1_share, cX1_share, 7, some .int, [], 2, 42, [(0, .aload_n 0, 1), (1, .iload_n 1, 1), (2, .invokestatic 62, 3), (5, .ifCond .eq 10, 3), (8, .iload_n 2, 1), (9, .invokestatic 62, 3), (12, .ifCond .ne 7, 3), (15, .iconst 1, 1), (16, .goto 13, 3), (19, .iload_n 1, 1), (20, .iload_n 2, 1), (21, .if_icmp .le 7, 3), (24, .iconst 2, 1), (25, .goto 4, 3), (28, .iconst 0, 1), (29, .putfield 38, 3), (32, .aload_n 0, 1), (33, .getfield 38, 3), (36, .ifCond .le 5, 3), (39, .iconst 0, 1), (40, .ireturn, 1), (41, .iconst 0, 1), (42, .istore_n 3, 1), (43, .iconst 0, 1), (44, .istore 4, 2), (46, .iload_n 1, 1), (47, .istore 5, 2), (49, .iload 5, 2), (51, .iload_n 2, 1), (52, .if_icmp .gt 49, 3), (55, .aload_n 0, 1), (56, .iload 5, 2), (58, .invokevirtual 65, 3), (61, .ifCond .ne 12, 3), (64, .aload_n 0, 1), (65, .iconst 3, 1), (66, .iconst 0, 1), (67, .iconst 0, 1), (68, .iconst 0, 1), (69, .invokevirtual 68, 3), (72, .ireturn, 1), (73, .iload_n 3, 1), (74, .aload_n 0, 1), (75, .getfield 17, 3), (78, .iload 5, 2), (80, .iaload, 1), (81, .iadd, 1), (82, .istore_n 3, 1), (83, .iload 4, 2), (85, .aload_n 0, 1), (86, .getfield 13, 3), (89, .iload 5, 2), (91, .iaload, 1), (92, .iadd, 1), (93, .istore 4, 2), (95, .iinc 5 1, 3), (98, .goto (-49), 3), (101, .iload_n 3, 1), (102, .istore 5, 2), (104, .iload_n 1, 1), (105, .istore 6, 2), (107, .iload 6, 2), (109, .iload_n 2, 1), (110, .if_icmp .gt 40, 3), (113, .aload_n 0, 1), (114, .getfield 17, 3), (117, .iload 6, 2), (119, .aload_n 0, 1), (120, .getfield 13, 3), (123, .iload 6, 2), (125, .iaload, 1), (126, .iload_n 3, 1), (127, .imul, 1), (128, .iload 4, 2), (130, .idiv, 1), (131, .iastore, 1), (132, .iload 5, 2), (134, .aload_n 0, 1), (135, .getfield 17, 3), (138, .iload 6, 2), (140, .iaload, 1), (141, .isub, 1), (142, .istore 5, 2), (144, .iinc 6 1, 3), (147, .goto (-40), 3), (150, .aload_n 0, 1), (151, .getfield 17, 3), (154, .iload_n 1, 1), (155, .dup2, 1), (156, .iaload, 1), (157, .iload 5, 2), (159, .iadd, 1), (160, .iastore, 1), (161, .aload_n 0, 1), (162, .iload_n 2, 1), (163, .iload_n 1, 1), (164, .isub, 1), (165, .iconst 1, 1), (166, .iadd, 1), (167, .invokevirtual 72, 3), (170, .aload_n 0, 1), (171, .getfield 17, 3), (174, .iload_n 1, 1), (175, .iaload, 1), (176, .ireturn, 1)])
set_option maxRecDepth 100000 in
theorem okX1_share : mOk MX1_share := by unfold mOk MX1_share; decide +kernel
def MX1_first : mM := (yX1_first, cX1_first, 4, some .int, [], 2, 42, [(0, .aload_n 0, 1), (1, .iconst 0, 1), (2, .putfield 38, 3), (5, .iconst 0, 1), (6, .istore_n 2, 1), (7, .iload_n 2, 1), (8, .bipush 8, 2), (10, .if_icmp .ge 52, 3), (13, .aload_n 0, 1), (14, .getfield 7, 3), (17, .iload_n 2, 1), (18, .baload, 1), (19, .ifCond .eq 37, 3), (22, .aload_n 0, 1), (23, .iload_n 2, 1), (24, .invokevirtual 65, 3), (27, .ifCond .eq 16, 3), (30, .aload_n 0, 1), (31, .iload_n 2, 1), (32, .invokevirtual 76, 3), (35, .iload_n 1, 1), (36, .if_icmp .lt 7, 3), (39, .iconst 1, 1), (40, .goto 4, 3), (43, .iconst 0, 1), (44, .istore_n 3, 1), (45, .aload_n 0, 1), (46, .iconst 1, 1), (47, .invokevirtual 72, 3), (50, .iload_n 3, 1), (51, .ifCond .eq 5, 3), (54, .iload_n 2, 1), (55, .ireturn, 1), (56, .iinc 2 1, 3), (59, .goto (-52), 3), (62, .iconst (-1), 1), (63, .ireturn, 1)])
set_option maxRecDepth 100000 in
theorem okX1_first : mOk MX1_first := by unfold mOk MX1_first; decide +kernel
def MX1_pool : mM := (yX1_pool, cX1_pool, 3, some .int, [], 2, 42, [(0, .aload_n 0, 1), (1, .iload_n 1, 1), (2, .invokestatic 62, 3), (5, .ifCond .ne 7, 3), (8, .iconst 1, 1), (9, .goto 17, 3), (12, .aload_n 0, 1), (13, .getfield 7, 3), (16, .iload_n 1, 1), (17, .baload, 1), (18, .ifCond .ne 7, 3), (21, .iconst 2, 1), (22, .goto 4, 3), (25, .iconst 0, 1), (26, .putfield 38, 3), (29, .aload_n 0, 1), (30, .getfield 38, 3), (33, .ifCond .le 5, 3), (36, .iconst 0, 1), (37, .ireturn, 1), (38, .iload_n 2, 1), (39, .tableswitch 66 0 4 #[33, 40, 47, 53, 59], 33), (72, .aload_n 0, 1), (73, .getfield 13, 3), (76, .iload_n 1, 1), (77, .iaload, 1), (78, .ireturn, 1), (79, .aload_n 0, 1), (80, .getfield 17, 3), (83, .iload_n 1, 1), (84, .iaload, 1), (85, .ireturn, 1), (86, .aload_n 0, 1), (87, .iload_n 1, 1), (88, .invokevirtual 76, 3), (91, .ireturn, 1), (92, .aload_n 0, 1), (93, .iload_n 1, 1), (94, .invokevirtual 83, 3), (97, .ireturn, 1), (98, .aload_n 0, 1), (99, .getfield 20, 3), (102, .iload_n 1, 1), (103, .iaload, 1), (104, .ireturn, 1), (105, .iconst (-1), 1), (106, .ireturn, 1)])
set_option maxRecDepth 100000 in
theorem okX1_pool : mOk MX1_pool := by unfold mOk MX1_pool; decide +kernel
def MX1_where : mM := (yX1_where, cX1_where, 2, some .int, [], 2, 42, [(0, .aload_n 0, 1), (1, .iload_n 1, 1), (2, .invokestatic 80, 3), (5, .ifCond .eq 7, 3), (8, .iconst 0, 1), (9, .goto 4, 3), (12, .iconst 1, 1), (13, .putfield 38, 3), (16, .aload_n 0, 1), (17, .getfield 38, 3), (20, .ifCond .le 7, 3), (23, .iconst 0, 1), (24, .goto 9, 3), (27, .aload_n 0, 1), (28, .getfield 23, 3), (31, .iload_n 1, 1), (32, .iaload, 1), (33, .ireturn, 1)])
set_option maxRecDepth 100000 in
theorem okX1_where : mOk MX1_where := by unfold mOk MX1_where; decide +kernel
def MX1_dug : mM := (yX1_dug, cX1_dug, 3, some .int, [], 0, 0, [(0, .iconst 0, 1), (1, .istore_n 1, 1), (2, .iconst 0, 1), (3, .istore_n 2, 1), (4, .iload_n 2, 1), (5, .bipush 8, 2), (7, .if_icmp .ge 26, 3), (10, .iload_n 1, 1), (11, .aload_n 0, 1), (12, .getfield 7, 3), (15, .iload_n 2, 1), (16, .baload, 1), (17, .ifCond .eq 7, 3), (20, .iconst 1, 1), (21, .goto 4, 3), (24, .iconst 0, 1), (25, .iadd, 1), (26, .istore_n 1, 1), (27, .iinc 2 1, 3), (30, .goto (-26), 3), (33, .iload_n 1, 1), (34, .ireturn, 1)])
set_option maxRecDepth 100000 in
theorem okX1_dug : mOk MX1_dug := by unfold mOk MX1_dug; decide +kernel
def MX1_told_ : mM := (yX1_told_, cX1_told_, 4, some .int, [], 1, 22, [(0, .aload_n 0, 1), (1, .iconst 0, 1), (2, .putfield 38, 3), (5, .iconst 0, 1), (6, .istore_n 2, 1), (7, .iconst 0, 1), (8, .istore_n 3, 1), (9, .iload_n 3, 1), (10, .bipush 8, 2), (12, .if_icmp .ge 31, 3), (15, .iload_n 2, 1), (16, .aload_n 0, 1), (17, .getfield 7, 3), (20, .iload_n 3, 1), (21, .baload, 1), (22, .ifCond .eq 12, 3), (25, .aload_n 0, 1), (26, .getfield 17, 3), (29, .iload_n 3, 1), (30, .iaload, 1), (31, .goto 4, 3), (34, .iconst 0, 1), (35, .iadd, 1), (36, .istore_n 2, 1), (37, .iinc 3 1, 3), (40, .goto (-31), 3), (43, .iload_n 1, 1), (44, .ifCond .ne 10, 3), (47, .aload_n 0, 1), (48, .getfield 45, 3), (51, .goto 37, 3), (54, .iload_n 1, 1), (55, .iconst 1, 1), (56, .if_icmp .ne 10, 3), (59, .aload_n 0, 1), (60, .getfield 48, 3), (63, .goto 25, 3), (66, .iload_n 1, 1), (67, .iconst 2, 1), (68, .if_icmp .ne 10, 3), (71, .aload_n 0, 1), (72, .invokevirtual 103, 3), (75, .goto 13, 3), (78, .iload_n 1, 1), (79, .iconst 3, 1), (80, .if_icmp .ne 7, 3), (83, .iload_n 2, 1), (84, .goto 4, 3), (87, .iconst (-1), 1), (88, .ireturn, 1)])
set_option maxRecDepth 100000 in
theorem okX1_told_ : mOk MX1_told_ := by unfold mOk MX1_told_; decide +kernel
def MX1_clear : mM := (yX1_clear, cX1_clear, 2, some .int, [], 1, 22, [(0, .aload_n 0, 1), (1, .iconst 0, 1), (2, .putfield 38, 3), (5, .aload_n 0, 1), (6, .invokevirtual 103, 3), (9, .istore_n 1, 1), (10, .aload_n 0, 1), (11, .invokevirtual 35, 3), (14, .iload_n 1, 1), (15, .ireturn, 1)])
set_option maxRecDepth 100000 in
theorem okX1_clear : mOk MX1_clear := by unfold mOk MX1_clear; decide +kernel
def MJ7_fill_53178 : mM := (yJ7_fill_53178, cJ7_fill_53178, 4, none, [], 0, 0, [(0, .iconst 0, 1), (1, .istore_n 2, 1), (2, .aload_n 0, 1), (3, .arraylength, 1), (4, .istore_n 3, 1), (5, .iload_n 2, 1), (6, .iload_n 3, 1), (7, .if_icmp .ge 13, 3), (10, .aload_n 0, 1), (11, .iload_n 2, 1), (12, .iload_n 1, 1), (13, .iastore, 1), (14, .iinc 2 1, 3), (17, .goto (-12), 3), (20, .return_, 1)])
set_option maxRecDepth 100000 in
theorem okJ7_fill_53178 : mOk MJ7_fill_53178 := by unfold mOk MJ7_fill_53178; decide +kernel
def ML_dig : mM := (yL_dig, cL_dig, 5, some .int, [(0, 10, 13, 13), (0, 10, 17, 15)], 14, 284, [(0, .aload_n 3, 1), (1, .iconst 0, 1), (2, .aload_n 0, 1), (3, .iload_n 1, 1), (4, .iload_n 2, 1), (5, .invokevirtual 7, 3), (8, .i2l, 1), (9, .lastore, 1), (10, .goto 11, 3), (13, .astore 4, 2), (15, .iconst 1, 1), (16, .ireturn, 1), (17, .astore 4, 2), (19, .iconst 2, 1), (20, .ireturn, 1), (21, .iconst 0, 1), (22, .ireturn, 1)])
set_option maxRecDepth 100000 in
theorem okL_dig : mOk ML_dig := by unfold mOk ML_dig; decide +kernel
def ML_fill : mM := (yL_fill, cL_fill, 4, some .int, [(0, 9, 12, 13), (0, 9, 15, 21)], 14, 281, [(0, .aload_n 2, 1), (1, .iconst 0, 1), (2, .aload_n 0, 1), (3, .iload_n 1, 1), (4, .invokevirtual 17, 3), (7, .i2l, 1), (8, .lastore, 1), (9, .goto 9, 3), (12, .astore_n 3, 1), (13, .iconst 1, 1), (14, .ireturn, 1), (15, .astore_n 3, 1), (16, .iconst 2, 1), (17, .ireturn, 1), (18, .iconst 0, 1), (19, .ireturn, 1)])
set_option maxRecDepth 100000 in
theorem okL_fill : mOk ML_fill := by unfold mOk ML_fill; decide +kernel
def ML_pour : mM := (yL_pour, cL_pour, 5, some .int, [(0, 10, 13, 13), (0, 10, 17, 15), (0, 10, 21, 21)], 14, 284, [(0, .aload_n 3, 1), (1, .iconst 0, 1), (2, .aload_n 0, 1), (3, .iload_n 1, 1), (4, .iload_n 2, 1), (5, .invokevirtual 23, 3), (8, .i2l, 1), (9, .lastore, 1), (10, .goto 15, 3), (13, .astore 4, 2), (15, .iconst 1, 1), (16, .ireturn, 1), (17, .astore 4, 2), (19, .iconst 2, 1), (20, .ireturn, 1), (21, .astore 4, 2), (23, .iconst 3, 1), (24, .ireturn, 1), (25, .iconst 0, 1), (26, .ireturn, 1)])
set_option maxRecDepth 100000 in
theorem okL_pour : mOk ML_pour := by unfold mOk ML_pour; decide +kernel
def ML_draw : mM := (yL_draw, cL_draw, 5, some .int, [(0, 10, 13, 13), (0, 10, 17, 15), (0, 10, 21, 21)], 14, 284, [(0, .aload_n 3, 1), (1, .iconst 0, 1), (2, .aload_n 0, 1), (3, .iload_n 1, 1), (4, .iload_n 2, 1), (5, .invokevirtual 26, 3), (8, .i2l, 1), (9, .lastore, 1), (10, .goto 15, 3), (13, .astore 4, 2), (15, .iconst 1, 1), (16, .ireturn, 1), (17, .astore 4, 2), (19, .iconst 2, 1), (20, .ireturn, 1), (21, .astore 4, 2), (23, .iconst 3, 1), (24, .ireturn, 1), (25, .iconst 0, 1), (26, .ireturn, 1)])
set_option maxRecDepth 100000 in
theorem okL_draw : mOk ML_draw := by unfold mOk ML_draw; decide +kernel
def ML_boat : mM := (yL_boat, cL_boat, 6, some .int, [(0, 12, 15, 13), (0, 12, 19, 15), (0, 12, 23, 21), (0, 12, 27, 33)], 14, 285, [(0, .aload 4, 2), (2, .iconst 0, 1), (3, .aload_n 0, 1), (4, .iload_n 1, 1), (5, .iload_n 2, 1), (6, .iload_n 3, 1), (7, .invokevirtual 29, 3), (10, .i2l, 1), (11, .lastore, 1), (12, .goto 19, 3), (15, .astore 5, 2), (17, .iconst 1, 1), (18, .ireturn, 1), (19, .astore 5, 2), (21, .iconst 2, 1), (22, .ireturn, 1), (23, .astore 5, 2), (25, .iconst 3, 1), (26, .ireturn, 1), (27, .astore 5, 2), (29, .iconst 4, 1), (30, .ireturn, 1), (31, .iconst 0, 1), (32, .ireturn, 1)])
set_option maxRecDepth 100000 in
theorem okL_boat : mOk ML_boat := by unfold mOk ML_boat; decide +kernel
def ML_gate : mM := (yL_gate, cL_gate, 5, some .int, [(0, 10, 13, 13), (0, 10, 17, 15)], 14, 285, [(0, .aload_n 3, 1), (1, .iconst 0, 1), (2, .aload_n 0, 1), (3, .iload_n 1, 1), (4, .iload_n 2, 1), (5, .invokevirtual 35, 3), (8, .i2l, 1), (9, .lastore, 1), (10, .goto 11, 3), (13, .astore 4, 2), (15, .iconst 1, 1), (16, .ireturn, 1), (17, .astore 4, 2), (19, .iconst 2, 1), (20, .ireturn, 1), (21, .iconst 0, 1), (22, .ireturn, 1)])
set_option maxRecDepth 100000 in
theorem okL_gate : mOk ML_gate := by unfold mOk ML_gate; decide +kernel
def ML_level : mM := (yL_level, cL_level, 4, some .int, [(0, 9, 12, 13), (0, 9, 15, 21), (0, 9, 18, 41), (0, 9, 21, 43)], 14, 281, [(0, .aload_n 2, 1), (1, .iconst 0, 1), (2, .aload_n 0, 1), (3, .iload_n 1, 1), (4, .invokevirtual 38, 3), (7, .i2l, 1), (8, .lastore, 1), (9, .goto 15, 3), (12, .astore_n 3, 1), (13, .iconst 1, 1), (14, .ireturn, 1), (15, .astore_n 3, 1), (16, .iconst 2, 1), (17, .ireturn, 1), (18, .astore_n 3, 1), (19, .iconst 3, 1), (20, .ireturn, 1), (21, .astore_n 3, 1), (22, .iconst 4, 1), (23, .ireturn, 1), (24, .iconst 0, 1), (25, .ireturn, 1)])
set_option maxRecDepth 100000 in
theorem okL_level : mOk ML_level := by unfold mOk ML_level; decide +kernel
def ML_pass : mM := (yL_pass, cL_pass, 5, some .int, [(0, 10, 13, 13), (0, 10, 17, 21), (0, 10, 21, 41), (0, 10, 25, 33), (0, 10, 29, 43)], 14, 282, [(0, .aload_n 3, 1), (1, .iconst 0, 1), (2, .aload_n 0, 1), (3, .iload_n 1, 1), (4, .iload_n 2, 1), (5, .invokevirtual 45, 3), (8, .i2l, 1), (9, .lastore, 1), (10, .goto 23, 3), (13, .astore 4, 2), (15, .iconst 1, 1), (16, .ireturn, 1), (17, .astore 4, 2), (19, .iconst 2, 1), (20, .ireturn, 1), (21, .astore 4, 2), (23, .iconst 3, 1), (24, .ireturn, 1), (25, .astore 4, 2), (27, .iconst 4, 1), (28, .ireturn, 1), (29, .astore 4, 2), (31, .iconst 5, 1), (32, .ireturn, 1), (33, .iconst 0, 1), (34, .ireturn, 1)])
set_option maxRecDepth 100000 in
theorem okL_pass : mOk ML_pass := by unfold mOk ML_pass; decide +kernel
def ML_flight : mM := (yL_flight, cL_flight, 5, some .int, [(0, 10, 13, 13), (0, 10, 17, 21), (0, 10, 21, 41), (0, 10, 25, 33), (0, 10, 29, 43)], 14, 283, [(0, .aload_n 3, 1), (1, .iconst 0, 1), (2, .aload_n 0, 1), (3, .iload_n 1, 1), (4, .iload_n 2, 1), (5, .invokevirtual 49, 3), (8, .i2l, 1), (9, .lastore, 1), (10, .goto 23, 3), (13, .astore 4, 2), (15, .iconst 1, 1), (16, .ireturn, 1), (17, .astore 4, 2), (19, .iconst 2, 1), (20, .ireturn, 1), (21, .astore 4, 2), (23, .iconst 3, 1), (24, .ireturn, 1), (25, .astore 4, 2), (27, .iconst 4, 1), (28, .ireturn, 1), (29, .astore 4, 2), (31, .iconst 5, 1), (32, .ireturn, 1), (33, .iconst 0, 1), (34, .ireturn, 1)])
set_option maxRecDepth 100000 in
theorem okL_flight : mOk ML_flight := by unfold mOk ML_flight; decide +kernel
def ML_trip : mM := (yL_trip, cL_trip, 5, some .int, [(0, 10, 13, 13)], 14, 282, [(0, .aload_n 3, 1), (1, .iconst 0, 1), (2, .aload_n 0, 1), (3, .iload_n 1, 1), (4, .iload_n 2, 1), (5, .invokevirtual 52, 3), (8, .i2l, 1), (9, .lastore, 1), (10, .goto 7, 3), (13, .astore 4, 2), (15, .iconst 1, 1), (16, .ireturn, 1), (17, .iconst 0, 1), (18, .ireturn, 1)])
set_option maxRecDepth 100000 in
theorem okL_trip : mOk ML_trip := by unfold mOk ML_trip; decide +kernel
def ML_convoy : mM := (yL_convoy, cL_convoy, 5, some .int, [(0, 10, 13, 15)], 14, 287, [(0, .aload_n 3, 1), (1, .iconst 0, 1), (2, .aload_n 0, 1), (3, .iload_n 1, 1), (4, .iload_n 2, 1), (5, .invokevirtual 55, 3), (8, .i2l, 1), (9, .lastore, 1), (10, .goto 7, 3), (13, .astore 4, 2), (15, .iconst 1, 1), (16, .ireturn, 1), (17, .iconst 0, 1), (18, .ireturn, 1)])
set_option maxRecDepth 100000 in
theorem okL_convoy : mOk ML_convoy := by unfold mOk ML_convoy; decide +kernel
def ML_share : mM := (yL_share, cL_share, 5, some .int, [(0, 10, 13, 13), (0, 10, 17, 15), (0, 10, 21, 21)], 14, 282, [(0, .aload_n 3, 1), (1, .iconst 0, 1), (2, .aload_n 0, 1), (3, .iload_n 1, 1), (4, .iload_n 2, 1), (5, .invokevirtual 58, 3), (8, .i2l, 1), (9, .lastore, 1), (10, .goto 15, 3), (13, .astore 4, 2), (15, .iconst 1, 1), (16, .ireturn, 1), (17, .astore 4, 2), (19, .iconst 2, 1), (20, .ireturn, 1), (21, .astore 4, 2), (23, .iconst 3, 1), (24, .ireturn, 1), (25, .iconst 0, 1), (26, .ireturn, 1)])
set_option maxRecDepth 100000 in
theorem okL_share : mOk ML_share := by unfold mOk ML_share; decide +kernel
def ML_pool : mM := (yL_pool, cL_pool, 5, some .int, [(0, 10, 13, 13), (0, 10, 17, 21)], 14, 282, [(0, .aload_n 3, 1), (1, .iconst 0, 1), (2, .aload_n 0, 1), (3, .iload_n 1, 1), (4, .iload_n 2, 1), (5, .invokevirtual 61, 3), (8, .i2l, 1), (9, .lastore, 1), (10, .goto 11, 3), (13, .astore 4, 2), (15, .iconst 1, 1), (16, .ireturn, 1), (17, .astore 4, 2), (19, .iconst 2, 1), (20, .ireturn, 1), (21, .iconst 0, 1), (22, .ireturn, 1)])
set_option maxRecDepth 100000 in
theorem okL_pool : mOk ML_pool := by unfold mOk ML_pool; decide +kernel
def ML_where : mM := (yL_where, cL_where, 4, some .int, [(0, 9, 12, 13)], 14, 281, [(0, .aload_n 2, 1), (1, .iconst 0, 1), (2, .aload_n 0, 1), (3, .iload_n 1, 1), (4, .invokevirtual 64, 3), (7, .i2l, 1), (8, .lastore, 1), (9, .goto 6, 3), (12, .astore_n 3, 1), (13, .iconst 1, 1), (14, .ireturn, 1), (15, .iconst 0, 1), (16, .ireturn, 1)])
set_option maxRecDepth 100000 in
theorem okL_where : mOk ML_where := by unfold mOk ML_where; decide +kernel
end
section
/-! THE LAW AS A TABLE, by program (wip/whole/gentabs.py) -/
def tbL_0 : List (Nat × Instr × Nat) := [(0, .new 8, 3), (3, .dup, 1), (4, .invokespecial 67, 3), (7, .astore_n 1, 1), (8, .new 68, 3), (11, .dup, 1), (12, .invokespecial 70, 3), (15, .astore_n 2, 1), (16, .iconst 1, 1), (17, .newarray .long, 2), (19, .astore_n 3, 1), (20, .iconst 0, 1), (21, .istore 4, 2), (23, .iload 4, 2), (25, .aload_n 0, 1), (26, .arraylength, 1), (27, .iconst 4, 1), (28, .isub, 1), (29, .if_icmp .gt 1120, 3), (32, .aload_n 0, 1), (33, .iload 4, 2), (35, .iaload, 1), (36, .bipush 31, 2), (38, .iand, 1), (39, .tableswitch 1104 0 16 #[81, 149, 205, 273, 341, 421, 489, 545, 629, 697, 765, 849, 917, 942, 1010, 1066, 1091], 81), (120, .aload_n 1, 1), (121, .aload_n 0, 1), (122, .iload 4, 2), (124, .iconst 1, 1), (125, .iadd, 1), (126, .iaload, 1), (127, .aload_n 0, 1), (128, .iload 4, 2), (130, .iconst 2, 1), (131, .iadd, 1), (132, .iaload, 1), (133, .aload_n 3, 1), (134, .invokestatic 71, 3), (137, .istore 5, 2), (139, .aload_n 2, 1), (140, .aload_n 0, 1), (141, .iload 4, 2), (143, .iconst 1, 1), (144, .iadd, 1), (145, .iaload, 1), (146, .aload_n 0, 1), (147, .iload 4, 2), (149, .iconst 2, 1), (150, .iadd, 1), (151, .iaload, 1)]
set_option maxRecDepth 100000 in
theorem okL_0 : ∀ q ∈ tbL_0, decode code q.1 = .ok q.2 := by unfold tbL_0; decide +kernel
def tbL_1 : List (Nat × Instr × Nat) := [(152, .invokevirtual 76, 3), (155, .istore 6, 2), (157, .aload_n 2, 1), (158, .invokevirtual 77, 3), (161, .iload 5, 2), (163, .if_icmp .eq 5, 3), (166, .iconst 0, 1), (167, .ireturn, 1), (168, .iload 5, 2), (170, .ifCond .ne 15, 3), (173, .aload_n 3, 1), (174, .iconst 0, 1), (175, .laload, 1), (176, .iload 6, 2), (178, .i2l, 1), (179, .lcmp, 1), (180, .ifCond .eq 5, 3), (183, .iconst 0, 1), (184, .ireturn, 1), (185, .goto 958, 3), (188, .aload_n 1, 1), (189, .aload_n 0, 1), (190, .iload 4, 2), (192, .iconst 1, 1), (193, .iadd, 1), (194, .iaload, 1), (195, .aload_n 3, 1), (196, .invokestatic 81, 3), (199, .istore 5, 2), (201, .aload_n 2, 1), (202, .aload_n 0, 1), (203, .iload 4, 2), (205, .iconst 1, 1), (206, .iadd, 1), (207, .iaload, 1), (208, .invokevirtual 84, 3), (211, .istore 6, 2), (213, .aload_n 2, 1), (214, .invokevirtual 77, 3), (217, .iload 5, 2), (219, .if_icmp .eq 5, 3), (222, .iconst 0, 1), (223, .ireturn, 1), (224, .iload 5, 2), (226, .ifCond .ne 15, 3), (229, .aload_n 3, 1), (230, .iconst 0, 1), (231, .laload, 1), (232, .iload 6, 2), (234, .i2l, 1)]
set_option maxRecDepth 100000 in
theorem okL_1 : ∀ q ∈ tbL_1, decode code q.1 = .ok q.2 := by unfold tbL_1; decide +kernel
def tbL_2 : List (Nat × Instr × Nat) := [(235, .lcmp, 1), (236, .ifCond .eq 5, 3), (239, .iconst 0, 1), (240, .ireturn, 1), (241, .goto 902, 3), (244, .aload_n 1, 1), (245, .aload_n 0, 1), (246, .iload 4, 2), (248, .iconst 1, 1), (249, .iadd, 1), (250, .iaload, 1), (251, .aload_n 0, 1), (252, .iload 4, 2), (254, .iconst 2, 1), (255, .iadd, 1), (256, .iaload, 1), (257, .aload_n 3, 1), (258, .invokestatic 85, 3), (261, .istore 5, 2), (263, .aload_n 2, 1), (264, .aload_n 0, 1), (265, .iload 4, 2), (267, .iconst 1, 1), (268, .iadd, 1), (269, .iaload, 1), (270, .aload_n 0, 1), (271, .iload 4, 2), (273, .iconst 2, 1), (274, .iadd, 1), (275, .iaload, 1), (276, .invokevirtual 87, 3), (279, .istore 6, 2), (281, .aload_n 2, 1), (282, .invokevirtual 77, 3), (285, .iload 5, 2), (287, .if_icmp .eq 5, 3), (290, .iconst 0, 1), (291, .ireturn, 1), (292, .iload 5, 2), (294, .ifCond .ne 15, 3), (297, .aload_n 3, 1), (298, .iconst 0, 1), (299, .laload, 1), (300, .iload 6, 2), (302, .i2l, 1), (303, .lcmp, 1), (304, .ifCond .eq 5, 3), (307, .iconst 0, 1), (308, .ireturn, 1), (309, .goto 834, 3)]
set_option maxRecDepth 100000 in
theorem okL_2 : ∀ q ∈ tbL_2, decode code q.1 = .ok q.2 := by unfold tbL_2; decide +kernel
def tbL_3 : List (Nat × Instr × Nat) := [(312, .aload_n 1, 1), (313, .aload_n 0, 1), (314, .iload 4, 2), (316, .iconst 1, 1), (317, .iadd, 1), (318, .iaload, 1), (319, .aload_n 0, 1), (320, .iload 4, 2), (322, .iconst 2, 1), (323, .iadd, 1), (324, .iaload, 1), (325, .aload_n 3, 1), (326, .invokestatic 88, 3), (329, .istore 5, 2), (331, .aload_n 2, 1), (332, .aload_n 0, 1), (333, .iload 4, 2), (335, .iconst 1, 1), (336, .iadd, 1), (337, .iaload, 1), (338, .aload_n 0, 1), (339, .iload 4, 2), (341, .iconst 2, 1), (342, .iadd, 1), (343, .iaload, 1), (344, .invokevirtual 90, 3), (347, .istore 6, 2), (349, .aload_n 2, 1), (350, .invokevirtual 77, 3), (353, .iload 5, 2), (355, .if_icmp .eq 5, 3), (358, .iconst 0, 1), (359, .ireturn, 1), (360, .iload 5, 2), (362, .ifCond .ne 15, 3), (365, .aload_n 3, 1), (366, .iconst 0, 1), (367, .laload, 1), (368, .iload 6, 2), (370, .i2l, 1), (371, .lcmp, 1), (372, .ifCond .eq 5, 3), (375, .iconst 0, 1), (376, .ireturn, 1), (377, .goto 766, 3), (380, .aload_n 1, 1), (381, .aload_n 0, 1), (382, .iload 4, 2), (384, .iconst 1, 1), (385, .iadd, 1)]
set_option maxRecDepth 100000 in
theorem okL_3 : ∀ q ∈ tbL_3, decode code q.1 = .ok q.2 := by unfold tbL_3; decide +kernel
def tbL_4 : List (Nat × Instr × Nat) := [(386, .iaload, 1), (387, .aload_n 0, 1), (388, .iload 4, 2), (390, .iconst 2, 1), (391, .iadd, 1), (392, .iaload, 1), (393, .aload_n 0, 1), (394, .iload 4, 2), (396, .iconst 3, 1), (397, .iadd, 1), (398, .iaload, 1), (399, .aload_n 3, 1), (400, .invokestatic 91, 3), (403, .istore 5, 2), (405, .aload_n 2, 1), (406, .aload_n 0, 1), (407, .iload 4, 2), (409, .iconst 1, 1), (410, .iadd, 1), (411, .iaload, 1), (412, .aload_n 0, 1), (413, .iload 4, 2), (415, .iconst 2, 1), (416, .iadd, 1), (417, .iaload, 1), (418, .aload_n 0, 1), (419, .iload 4, 2), (421, .iconst 3, 1), (422, .iadd, 1), (423, .iaload, 1), (424, .invokevirtual 94, 3), (427, .istore 6, 2), (429, .aload_n 2, 1), (430, .invokevirtual 77, 3), (433, .iload 5, 2), (435, .if_icmp .eq 5, 3), (438, .iconst 0, 1), (439, .ireturn, 1), (440, .iload 5, 2), (442, .ifCond .ne 15, 3), (445, .aload_n 3, 1), (446, .iconst 0, 1), (447, .laload, 1), (448, .iload 6, 2), (450, .i2l, 1), (451, .lcmp, 1), (452, .ifCond .eq 5, 3), (455, .iconst 0, 1), (456, .ireturn, 1), (457, .goto 686, 3)]
set_option maxRecDepth 100000 in
theorem okL_4 : ∀ q ∈ tbL_4, decode code q.1 = .ok q.2 := by unfold tbL_4; decide +kernel
def tbL_5 : List (Nat × Instr × Nat) := [(460, .aload_n 1, 1), (461, .aload_n 0, 1), (462, .iload 4, 2), (464, .iconst 1, 1), (465, .iadd, 1), (466, .iaload, 1), (467, .aload_n 0, 1), (468, .iload 4, 2), (470, .iconst 2, 1), (471, .iadd, 1), (472, .iaload, 1), (473, .aload_n 3, 1), (474, .invokestatic 95, 3), (477, .istore 5, 2), (479, .aload_n 2, 1), (480, .aload_n 0, 1), (481, .iload 4, 2), (483, .iconst 1, 1), (484, .iadd, 1), (485, .iaload, 1), (486, .aload_n 0, 1), (487, .iload 4, 2), (489, .iconst 2, 1), (490, .iadd, 1), (491, .iaload, 1), (492, .invokevirtual 97, 3), (495, .istore 6, 2), (497, .aload_n 2, 1), (498, .invokevirtual 77, 3), (501, .iload 5, 2), (503, .if_icmp .eq 5, 3), (506, .iconst 0, 1), (507, .ireturn, 1), (508, .iload 5, 2), (510, .ifCond .ne 15, 3), (513, .aload_n 3, 1), (514, .iconst 0, 1), (515, .laload, 1), (516, .iload 6, 2), (518, .i2l, 1), (519, .lcmp, 1), (520, .ifCond .eq 5, 3), (523, .iconst 0, 1), (524, .ireturn, 1), (525, .goto 618, 3), (528, .aload_n 1, 1), (529, .aload_n 0, 1), (530, .iload 4, 2), (532, .iconst 1, 1), (533, .iadd, 1)]
set_option maxRecDepth 100000 in
theorem okL_5 : ∀ q ∈ tbL_5, decode code q.1 = .ok q.2 := by unfold tbL_5; decide +kernel
def tbL_6 : List (Nat × Instr × Nat) := [(534, .iaload, 1), (535, .aload_n 3, 1), (536, .invokestatic 98, 3), (539, .istore 5, 2), (541, .aload_n 2, 1), (542, .aload_n 0, 1), (543, .iload 4, 2), (545, .iconst 1, 1), (546, .iadd, 1), (547, .iaload, 1), (548, .invokevirtual 100, 3), (551, .istore 6, 2), (553, .aload_n 2, 1), (554, .invokevirtual 77, 3), (557, .iload 5, 2), (559, .if_icmp .eq 5, 3), (562, .iconst 0, 1), (563, .ireturn, 1), (564, .iload 5, 2), (566, .ifCond .ne 15, 3), (569, .aload_n 3, 1), (570, .iconst 0, 1), (571, .laload, 1), (572, .iload 6, 2), (574, .i2l, 1), (575, .lcmp, 1), (576, .ifCond .eq 5, 3), (579, .iconst 0, 1), (580, .ireturn, 1), (581, .goto 562, 3), (584, .aload_n 1, 1), (585, .aload_n 0, 1), (586, .iload 4, 2), (588, .iconst 1, 1), (589, .iadd, 1), (590, .iaload, 1), (591, .aload_n 0, 1), (592, .iload 4, 2), (594, .iconst 2, 1), (595, .iadd, 1), (596, .iaload, 1), (597, .ifCond .eq 7, 3), (600, .iconst 1, 1), (601, .goto 4, 3), (604, .iconst 0, 1), (605, .aload_n 3, 1), (606, .invokestatic 101, 3), (609, .istore 5, 2), (611, .aload_n 2, 1), (612, .aload_n 0, 1)]
set_option maxRecDepth 100000 in
theorem okL_6 : ∀ q ∈ tbL_6, decode code q.1 = .ok q.2 := by unfold tbL_6; decide +kernel
end
section
def tbL_7 : List (Nat × Instr × Nat) := [(613, .iload 4, 2), (615, .iconst 1, 1), (616, .iadd, 1), (617, .iaload, 1), (618, .aload_n 0, 1), (619, .iload 4, 2), (621, .iconst 2, 1), (622, .iadd, 1), (623, .iaload, 1), (624, .ifCond .eq 7, 3), (627, .iconst 1, 1), (628, .goto 4, 3), (631, .iconst 0, 1), (632, .invokevirtual 104, 3), (635, .istore 6, 2), (637, .aload_n 2, 1), (638, .invokevirtual 77, 3), (641, .iload 5, 2), (643, .if_icmp .eq 5, 3), (646, .iconst 0, 1), (647, .ireturn, 1), (648, .iload 5, 2), (650, .ifCond .ne 15, 3), (653, .aload_n 3, 1), (654, .iconst 0, 1), (655, .laload, 1), (656, .iload 6, 2), (658, .i2l, 1), (659, .lcmp, 1), (660, .ifCond .eq 5, 3), (663, .iconst 0, 1), (664, .ireturn, 1), (665, .goto 478, 3), (668, .aload_n 1, 1), (669, .aload_n 0, 1), (670, .iload 4, 2), (672, .iconst 1, 1), (673, .iadd, 1), (674, .iaload, 1), (675, .aload_n 0, 1), (676, .iload 4, 2), (678, .iconst 2, 1), (679, .iadd, 1), (680, .iaload, 1), (681, .aload_n 3, 1), (682, .invokestatic 105, 3), (685, .istore 5, 2), (687, .aload_n 2, 1), (688, .aload_n 0, 1), (689, .iload 4, 2)]
set_option maxRecDepth 100000 in
theorem okL_7 : ∀ q ∈ tbL_7, decode code q.1 = .ok q.2 := by unfold tbL_7; decide +kernel
def tbL_8 : List (Nat × Instr × Nat) := [(691, .iconst 1, 1), (692, .iadd, 1), (693, .iaload, 1), (694, .aload_n 0, 1), (695, .iload 4, 2), (697, .iconst 2, 1), (698, .iadd, 1), (699, .iaload, 1), (700, .invokevirtual 107, 3), (703, .istore 6, 2), (705, .aload_n 2, 1), (706, .invokevirtual 77, 3), (709, .iload 5, 2), (711, .if_icmp .eq 5, 3), (714, .iconst 0, 1), (715, .ireturn, 1), (716, .iload 5, 2), (718, .ifCond .ne 15, 3), (721, .aload_n 3, 1), (722, .iconst 0, 1), (723, .laload, 1), (724, .iload 6, 2), (726, .i2l, 1), (727, .lcmp, 1), (728, .ifCond .eq 5, 3), (731, .iconst 0, 1), (732, .ireturn, 1), (733, .goto 410, 3), (736, .aload_n 1, 1), (737, .aload_n 0, 1), (738, .iload 4, 2), (740, .iconst 1, 1), (741, .iadd, 1), (742, .iaload, 1), (743, .aload_n 0, 1), (744, .iload 4, 2), (746, .iconst 2, 1), (747, .iadd, 1), (748, .iaload, 1), (749, .aload_n 3, 1), (750, .invokestatic 108, 3), (753, .istore 5, 2), (755, .aload_n 2, 1), (756, .aload_n 0, 1), (757, .iload 4, 2), (759, .iconst 1, 1), (760, .iadd, 1), (761, .iaload, 1), (762, .aload_n 0, 1), (763, .iload 4, 2)]
set_option maxRecDepth 100000 in
theorem okL_8 : ∀ q ∈ tbL_8, decode code q.1 = .ok q.2 := by unfold tbL_8; decide +kernel
def tbL_9 : List (Nat × Instr × Nat) := [(765, .iconst 2, 1), (766, .iadd, 1), (767, .iaload, 1), (768, .invokevirtual 110, 3), (771, .istore 6, 2), (773, .aload_n 2, 1), (774, .invokevirtual 77, 3), (777, .iload 5, 2), (779, .if_icmp .eq 5, 3), (782, .iconst 0, 1), (783, .ireturn, 1), (784, .iload 5, 2), (786, .ifCond .ne 15, 3), (789, .aload_n 3, 1), (790, .iconst 0, 1), (791, .laload, 1), (792, .iload 6, 2), (794, .i2l, 1), (795, .lcmp, 1), (796, .ifCond .eq 5, 3), (799, .iconst 0, 1), (800, .ireturn, 1), (801, .goto 342, 3), (804, .aload_n 1, 1), (805, .aload_n 0, 1), (806, .iload 4, 2), (808, .iconst 1, 1), (809, .iadd, 1), (810, .iaload, 1), (811, .aload_n 0, 1), (812, .iload 4, 2), (814, .iconst 2, 1), (815, .iadd, 1), (816, .iaload, 1), (817, .ifCond .eq 7, 3), (820, .iconst 1, 1), (821, .goto 4, 3), (824, .iconst 0, 1), (825, .aload_n 3, 1), (826, .invokestatic 111, 3), (829, .istore 5, 2), (831, .aload_n 2, 1), (832, .aload_n 0, 1), (833, .iload 4, 2), (835, .iconst 1, 1), (836, .iadd, 1), (837, .iaload, 1), (838, .aload_n 0, 1), (839, .iload 4, 2), (841, .iconst 2, 1)]
set_option maxRecDepth 100000 in
theorem okL_9 : ∀ q ∈ tbL_9, decode code q.1 = .ok q.2 := by unfold tbL_9; decide +kernel
def tbL_10 : List (Nat × Instr × Nat) := [(842, .iadd, 1), (843, .iaload, 1), (844, .ifCond .eq 7, 3), (847, .iconst 1, 1), (848, .goto 4, 3), (851, .iconst 0, 1), (852, .invokevirtual 113, 3), (855, .istore 6, 2), (857, .aload_n 2, 1), (858, .invokevirtual 77, 3), (861, .iload 5, 2), (863, .if_icmp .eq 5, 3), (866, .iconst 0, 1), (867, .ireturn, 1), (868, .iload 5, 2), (870, .ifCond .ne 15, 3), (873, .aload_n 3, 1), (874, .iconst 0, 1), (875, .laload, 1), (876, .iload 6, 2), (878, .i2l, 1), (879, .lcmp, 1), (880, .ifCond .eq 5, 3), (883, .iconst 0, 1), (884, .ireturn, 1), (885, .goto 258, 3), (888, .aload_n 1, 1), (889, .aload_n 0, 1), (890, .iload 4, 2), (892, .iconst 1, 1), (893, .iadd, 1), (894, .iaload, 1), (895, .aload_n 0, 1), (896, .iload 4, 2), (898, .iconst 2, 1), (899, .iadd, 1), (900, .iaload, 1), (901, .aload_n 3, 1), (902, .invokestatic 114, 3), (905, .istore 5, 2), (907, .aload_n 2, 1), (908, .aload_n 0, 1), (909, .iload 4, 2), (911, .iconst 1, 1), (912, .iadd, 1), (913, .iaload, 1), (914, .aload_n 0, 1), (915, .iload 4, 2), (917, .iconst 2, 1), (918, .iadd, 1)]
set_option maxRecDepth 100000 in
theorem okL_10 : ∀ q ∈ tbL_10, decode code q.1 = .ok q.2 := by unfold tbL_10; decide +kernel
def tbL_11 : List (Nat × Instr × Nat) := [(919, .iaload, 1), (920, .invokevirtual 116, 3), (923, .istore 6, 2), (925, .aload_n 2, 1), (926, .invokevirtual 77, 3), (929, .iload 5, 2), (931, .if_icmp .eq 5, 3), (934, .iconst 0, 1), (935, .ireturn, 1), (936, .iload 5, 2), (938, .ifCond .ne 15, 3), (941, .aload_n 3, 1), (942, .iconst 0, 1), (943, .laload, 1), (944, .iload 6, 2), (946, .i2l, 1), (947, .lcmp, 1), (948, .ifCond .eq 5, 3), (951, .iconst 0, 1), (952, .ireturn, 1), (953, .goto 190, 3), (956, .aload_n 1, 1), (957, .aload_n 0, 1), (958, .iload 4, 2), (960, .iconst 1, 1), (961, .iadd, 1), (962, .iaload, 1), (963, .invokevirtual 117, 3), (966, .aload_n 2, 1), (967, .aload_n 0, 1), (968, .iload 4, 2), (970, .iconst 1, 1), (971, .iadd, 1), (972, .iaload, 1), (973, .invokevirtual 120, 3), (976, .if_icmp .eq 167, 3), (979, .iconst 0, 1), (980, .ireturn, 1), (981, .aload_n 1, 1), (982, .aload_n 0, 1), (983, .iload 4, 2), (985, .iconst 1, 1), (986, .iadd, 1), (987, .iaload, 1), (988, .aload_n 0, 1), (989, .iload 4, 2), (991, .iconst 2, 1), (992, .iadd, 1), (993, .iaload, 1), (994, .aload_n 3, 1)]
set_option maxRecDepth 100000 in
theorem okL_11 : ∀ q ∈ tbL_11, decode code q.1 = .ok q.2 := by unfold tbL_11; decide +kernel
def tbL_12 : List (Nat × Instr × Nat) := [(995, .invokestatic 121, 3), (998, .istore 5, 2), (1000, .aload_n 2, 1), (1001, .aload_n 0, 1), (1002, .iload 4, 2), (1004, .iconst 1, 1), (1005, .iadd, 1), (1006, .iaload, 1), (1007, .aload_n 0, 1), (1008, .iload 4, 2), (1010, .iconst 2, 1), (1011, .iadd, 1), (1012, .iaload, 1), (1013, .invokevirtual 123, 3), (1016, .istore 6, 2), (1018, .aload_n 2, 1), (1019, .invokevirtual 77, 3), (1022, .iload 5, 2), (1024, .if_icmp .eq 5, 3), (1027, .iconst 0, 1), (1028, .ireturn, 1), (1029, .iload 5, 2), (1031, .ifCond .ne 15, 3), (1034, .aload_n 3, 1), (1035, .iconst 0, 1), (1036, .laload, 1), (1037, .iload 6, 2), (1039, .i2l, 1), (1040, .lcmp, 1), (1041, .ifCond .eq 5, 3), (1044, .iconst 0, 1), (1045, .ireturn, 1), (1046, .goto 97, 3), (1049, .aload_n 1, 1), (1050, .aload_n 0, 1), (1051, .iload 4, 2), (1053, .iconst 1, 1), (1054, .iadd, 1), (1055, .iaload, 1), (1056, .aload_n 3, 1), (1057, .invokestatic 124, 3), (1060, .istore 5, 2), (1062, .aload_n 2, 1), (1063, .aload_n 0, 1), (1064, .iload 4, 2), (1066, .iconst 1, 1), (1067, .iadd, 1), (1068, .iaload, 1), (1069, .invokevirtual 126, 3), (1072, .istore 6, 2)]
set_option maxRecDepth 100000 in
theorem okL_12 : ∀ q ∈ tbL_12, decode code q.1 = .ok q.2 := by unfold tbL_12; decide +kernel
def tbL_13 : List (Nat × Instr × Nat) := [(1074, .aload_n 2, 1), (1075, .invokevirtual 77, 3), (1078, .iload 5, 2), (1080, .if_icmp .eq 5, 3), (1083, .iconst 0, 1), (1084, .ireturn, 1), (1085, .iload 5, 2), (1087, .ifCond .ne 15, 3), (1090, .aload_n 3, 1), (1091, .iconst 0, 1), (1092, .laload, 1), (1093, .iload 6, 2), (1095, .i2l, 1), (1096, .lcmp, 1), (1097, .ifCond .eq 5, 3), (1100, .iconst 0, 1), (1101, .ireturn, 1), (1102, .goto 41, 3), (1105, .aload_n 1, 1), (1106, .aload_n 0, 1), (1107, .iload 4, 2), (1109, .iconst 1, 1), (1110, .iadd, 1), (1111, .iaload, 1), (1112, .invokevirtual 127, 3), (1115, .aload_n 2, 1), (1116, .aload_n 0, 1), (1117, .iload 4, 2), (1119, .iconst 1, 1), (1120, .iadd, 1), (1121, .iaload, 1), (1122, .invokevirtual 130, 3), (1125, .if_icmp .eq 18, 3), (1128, .iconst 0, 1), (1129, .ireturn, 1), (1130, .aload_n 1, 1), (1131, .invokevirtual 131, 3), (1134, .aload_n 2, 1), (1135, .invokevirtual 134, 3), (1138, .if_icmp .eq 5, 3), (1141, .iconst 0, 1), (1142, .ireturn, 1), (1143, .iinc 4 4, 3), (1146, .goto (-1123), 3), (1149, .iconst 1, 1), (1150, .ireturn, 1)]
set_option maxRecDepth 100000 in
theorem okL_13 : ∀ q ∈ tbL_13, decode code q.1 = .ok q.2 := by unfold tbL_13; decide +kernel
def ML_law : mM := (yL_law, cL_law, 7, some .boolean, [], 15, 311, [(0, .new 8, 3), (3, .dup, 1), (4, .invokespecial 67, 3), (7, .astore_n 1, 1), (8, .new 68, 3), (11, .dup, 1), (12, .invokespecial 70, 3), (15, .astore_n 2, 1), (16, .iconst 1, 1), (17, .newarray .long, 2), (19, .astore_n 3, 1), (20, .iconst 0, 1), (21, .istore 4, 2), (23, .iload 4, 2), (25, .aload_n 0, 1), (26, .arraylength, 1), (27, .iconst 4, 1), (28, .isub, 1), (29, .if_icmp .gt 1120, 3), (32, .aload_n 0, 1), (33, .iload 4, 2), (35, .iaload, 1), (36, .bipush 31, 2), (38, .iand, 1), (39, .tableswitch 1104 0 16 #[81, 149, 205, 273, 341, 421, 489, 545, 629, 697, 765, 849, 917, 942, 1010, 1066, 1091], 81), (120, .aload_n 1, 1), (121, .aload_n 0, 1), (122, .iload 4, 2), (124, .iconst 1, 1), (125, .iadd, 1), (126, .iaload, 1), (127, .aload_n 0, 1), (128, .iload 4, 2), (130, .iconst 2, 1), (131, .iadd, 1), (132, .iaload, 1), (133, .aload_n 3, 1), (134, .invokestatic 71, 3), (137, .istore 5, 2), (139, .aload_n 2, 1), (140, .aload_n 0, 1), (141, .iload 4, 2), (143, .iconst 1, 1), (144, .iadd, 1), (145, .iaload, 1), (146, .aload_n 0, 1), (147, .iload 4, 2), (149, .iconst 2, 1), (150, .iadd, 1), (151, .iaload, 1), (152, .invokevirtual 76, 3), (155, .istore 6, 2), (157, .aload_n 2, 1), (158, .invokevirtual 77, 3), (161, .iload 5, 2), (163, .if_icmp .eq 5, 3), (166, .iconst 0, 1), (167, .ireturn, 1), (168, .iload 5, 2), (170, .ifCond .ne 15, 3), (173, .aload_n 3, 1), (174, .iconst 0, 1), (175, .laload, 1), (176, .iload 6, 2), (178, .i2l, 1), (179, .lcmp, 1), (180, .ifCond .eq 5, 3), (183, .iconst 0, 1), (184, .ireturn, 1), (185, .goto 958, 3), (188, .aload_n 1, 1), (189, .aload_n 0, 1), (190, .iload 4, 2), (192, .iconst 1, 1), (193, .iadd, 1), (194, .iaload, 1), (195, .aload_n 3, 1), (196, .invokestatic 81, 3), (199, .istore 5, 2), (201, .aload_n 2, 1), (202, .aload_n 0, 1), (203, .iload 4, 2), (205, .iconst 1, 1), (206, .iadd, 1), (207, .iaload, 1), (208, .invokevirtual 84, 3), (211, .istore 6, 2), (213, .aload_n 2, 1), (214, .invokevirtual 77, 3), (217, .iload 5, 2), (219, .if_icmp .eq 5, 3), (222, .iconst 0, 1), (223, .ireturn, 1), (224, .iload 5, 2), (226, .ifCond .ne 15, 3), (229, .aload_n 3, 1), (230, .iconst 0, 1), (231, .laload, 1), (232, .iload 6, 2), (234, .i2l, 1), (235, .lcmp, 1), (236, .ifCond .eq 5, 3), (239, .iconst 0, 1), (240, .ireturn, 1), (241, .goto 902, 3), (244, .aload_n 1, 1), (245, .aload_n 0, 1), (246, .iload 4, 2), (248, .iconst 1, 1), (249, .iadd, 1), (250, .iaload, 1), (251, .aload_n 0, 1), (252, .iload 4, 2), (254, .iconst 2, 1), (255, .iadd, 1), (256, .iaload, 1), (257, .aload_n 3, 1), (258, .invokestatic 85, 3), (261, .istore 5, 2), (263, .aload_n 2, 1), (264, .aload_n 0, 1), (265, .iload 4, 2), (267, .iconst 1, 1), (268, .iadd, 1), (269, .iaload, 1), (270, .aload_n 0, 1), (271, .iload 4, 2), (273, .iconst 2, 1), (274, .iadd, 1), (275, .iaload, 1), (276, .invokevirtual 87, 3), (279, .istore 6, 2), (281, .aload_n 2, 1), (282, .invokevirtual 77, 3), (285, .iload 5, 2), (287, .if_icmp .eq 5, 3), (290, .iconst 0, 1), (291, .ireturn, 1), (292, .iload 5, 2), (294, .ifCond .ne 15, 3), (297, .aload_n 3, 1), (298, .iconst 0, 1), (299, .laload, 1), (300, .iload 6, 2), (302, .i2l, 1), (303, .lcmp, 1), (304, .ifCond .eq 5, 3), (307, .iconst 0, 1), (308, .ireturn, 1), (309, .goto 834, 3), (312, .aload_n 1, 1), (313, .aload_n 0, 1), (314, .iload 4, 2), (316, .iconst 1, 1), (317, .iadd, 1), (318, .iaload, 1), (319, .aload_n 0, 1), (320, .iload 4, 2), (322, .iconst 2, 1), (323, .iadd, 1), (324, .iaload, 1), (325, .aload_n 3, 1), (326, .invokestatic 88, 3), (329, .istore 5, 2), (331, .aload_n 2, 1), (332, .aload_n 0, 1), (333, .iload 4, 2), (335, .iconst 1, 1), (336, .iadd, 1), (337, .iaload, 1), (338, .aload_n 0, 1), (339, .iload 4, 2), (341, .iconst 2, 1), (342, .iadd, 1), (343, .iaload, 1), (344, .invokevirtual 90, 3), (347, .istore 6, 2), (349, .aload_n 2, 1), (350, .invokevirtual 77, 3), (353, .iload 5, 2), (355, .if_icmp .eq 5, 3), (358, .iconst 0, 1), (359, .ireturn, 1), (360, .iload 5, 2), (362, .ifCond .ne 15, 3), (365, .aload_n 3, 1), (366, .iconst 0, 1), (367, .laload, 1), (368, .iload 6, 2), (370, .i2l, 1), (371, .lcmp, 1), (372, .ifCond .eq 5, 3), (375, .iconst 0, 1), (376, .ireturn, 1), (377, .goto 766, 3), (380, .aload_n 1, 1), (381, .aload_n 0, 1), (382, .iload 4, 2), (384, .iconst 1, 1), (385, .iadd, 1), (386, .iaload, 1), (387, .aload_n 0, 1), (388, .iload 4, 2), (390, .iconst 2, 1), (391, .iadd, 1), (392, .iaload, 1), (393, .aload_n 0, 1), (394, .iload 4, 2), (396, .iconst 3, 1), (397, .iadd, 1), (398, .iaload, 1), (399, .aload_n 3, 1), (400, .invokestatic 91, 3), (403, .istore 5, 2), (405, .aload_n 2, 1), (406, .aload_n 0, 1), (407, .iload 4, 2), (409, .iconst 1, 1), (410, .iadd, 1), (411, .iaload, 1), (412, .aload_n 0, 1), (413, .iload 4, 2), (415, .iconst 2, 1), (416, .iadd, 1), (417, .iaload, 1), (418, .aload_n 0, 1), (419, .iload 4, 2), (421, .iconst 3, 1), (422, .iadd, 1), (423, .iaload, 1), (424, .invokevirtual 94, 3), (427, .istore 6, 2), (429, .aload_n 2, 1), (430, .invokevirtual 77, 3), (433, .iload 5, 2), (435, .if_icmp .eq 5, 3), (438, .iconst 0, 1), (439, .ireturn, 1), (440, .iload 5, 2), (442, .ifCond .ne 15, 3), (445, .aload_n 3, 1), (446, .iconst 0, 1), (447, .laload, 1), (448, .iload 6, 2), (450, .i2l, 1), (451, .lcmp, 1), (452, .ifCond .eq 5, 3), (455, .iconst 0, 1), (456, .ireturn, 1), (457, .goto 686, 3), (460, .aload_n 1, 1), (461, .aload_n 0, 1), (462, .iload 4, 2), (464, .iconst 1, 1), (465, .iadd, 1), (466, .iaload, 1), (467, .aload_n 0, 1), (468, .iload 4, 2), (470, .iconst 2, 1), (471, .iadd, 1), (472, .iaload, 1), (473, .aload_n 3, 1), (474, .invokestatic 95, 3), (477, .istore 5, 2), (479, .aload_n 2, 1), (480, .aload_n 0, 1), (481, .iload 4, 2), (483, .iconst 1, 1), (484, .iadd, 1), (485, .iaload, 1), (486, .aload_n 0, 1), (487, .iload 4, 2), (489, .iconst 2, 1), (490, .iadd, 1), (491, .iaload, 1), (492, .invokevirtual 97, 3), (495, .istore 6, 2), (497, .aload_n 2, 1), (498, .invokevirtual 77, 3), (501, .iload 5, 2), (503, .if_icmp .eq 5, 3), (506, .iconst 0, 1), (507, .ireturn, 1), (508, .iload 5, 2), (510, .ifCond .ne 15, 3), (513, .aload_n 3, 1), (514, .iconst 0, 1), (515, .laload, 1), (516, .iload 6, 2), (518, .i2l, 1), (519, .lcmp, 1), (520, .ifCond .eq 5, 3), (523, .iconst 0, 1), (524, .ireturn, 1), (525, .goto 618, 3), (528, .aload_n 1, 1), (529, .aload_n 0, 1), (530, .iload 4, 2), (532, .iconst 1, 1), (533, .iadd, 1), (534, .iaload, 1), (535, .aload_n 3, 1), (536, .invokestatic 98, 3), (539, .istore 5, 2), (541, .aload_n 2, 1), (542, .aload_n 0, 1), (543, .iload 4, 2), (545, .iconst 1, 1), (546, .iadd, 1), (547, .iaload, 1), (548, .invokevirtual 100, 3), (551, .istore 6, 2), (553, .aload_n 2, 1), (554, .invokevirtual 77, 3), (557, .iload 5, 2), (559, .if_icmp .eq 5, 3), (562, .iconst 0, 1), (563, .ireturn, 1), (564, .iload 5, 2), (566, .ifCond .ne 15, 3), (569, .aload_n 3, 1), (570, .iconst 0, 1), (571, .laload, 1), (572, .iload 6, 2), (574, .i2l, 1), (575, .lcmp, 1), (576, .ifCond .eq 5, 3), (579, .iconst 0, 1), (580, .ireturn, 1), (581, .goto 562, 3), (584, .aload_n 1, 1), (585, .aload_n 0, 1), (586, .iload 4, 2), (588, .iconst 1, 1), (589, .iadd, 1), (590, .iaload, 1), (591, .aload_n 0, 1), (592, .iload 4, 2), (594, .iconst 2, 1), (595, .iadd, 1), (596, .iaload, 1), (597, .ifCond .eq 7, 3), (600, .iconst 1, 1), (601, .goto 4, 3), (604, .iconst 0, 1), (605, .aload_n 3, 1), (606, .invokestatic 101, 3), (609, .istore 5, 2), (611, .aload_n 2, 1), (612, .aload_n 0, 1), (613, .iload 4, 2), (615, .iconst 1, 1), (616, .iadd, 1), (617, .iaload, 1), (618, .aload_n 0, 1), (619, .iload 4, 2), (621, .iconst 2, 1), (622, .iadd, 1), (623, .iaload, 1), (624, .ifCond .eq 7, 3), (627, .iconst 1, 1), (628, .goto 4, 3), (631, .iconst 0, 1), (632, .invokevirtual 104, 3), (635, .istore 6, 2), (637, .aload_n 2, 1), (638, .invokevirtual 77, 3), (641, .iload 5, 2), (643, .if_icmp .eq 5, 3), (646, .iconst 0, 1), (647, .ireturn, 1), (648, .iload 5, 2), (650, .ifCond .ne 15, 3), (653, .aload_n 3, 1), (654, .iconst 0, 1), (655, .laload, 1), (656, .iload 6, 2), (658, .i2l, 1), (659, .lcmp, 1), (660, .ifCond .eq 5, 3), (663, .iconst 0, 1), (664, .ireturn, 1), (665, .goto 478, 3), (668, .aload_n 1, 1), (669, .aload_n 0, 1), (670, .iload 4, 2), (672, .iconst 1, 1), (673, .iadd, 1), (674, .iaload, 1), (675, .aload_n 0, 1), (676, .iload 4, 2), (678, .iconst 2, 1), (679, .iadd, 1), (680, .iaload, 1), (681, .aload_n 3, 1), (682, .invokestatic 105, 3), (685, .istore 5, 2), (687, .aload_n 2, 1), (688, .aload_n 0, 1), (689, .iload 4, 2), (691, .iconst 1, 1), (692, .iadd, 1), (693, .iaload, 1), (694, .aload_n 0, 1), (695, .iload 4, 2), (697, .iconst 2, 1), (698, .iadd, 1), (699, .iaload, 1), (700, .invokevirtual 107, 3), (703, .istore 6, 2), (705, .aload_n 2, 1), (706, .invokevirtual 77, 3), (709, .iload 5, 2), (711, .if_icmp .eq 5, 3), (714, .iconst 0, 1), (715, .ireturn, 1), (716, .iload 5, 2), (718, .ifCond .ne 15, 3), (721, .aload_n 3, 1), (722, .iconst 0, 1), (723, .laload, 1), (724, .iload 6, 2), (726, .i2l, 1), (727, .lcmp, 1), (728, .ifCond .eq 5, 3), (731, .iconst 0, 1), (732, .ireturn, 1), (733, .goto 410, 3), (736, .aload_n 1, 1), (737, .aload_n 0, 1), (738, .iload 4, 2), (740, .iconst 1, 1), (741, .iadd, 1), (742, .iaload, 1), (743, .aload_n 0, 1), (744, .iload 4, 2), (746, .iconst 2, 1), (747, .iadd, 1), (748, .iaload, 1), (749, .aload_n 3, 1), (750, .invokestatic 108, 3), (753, .istore 5, 2), (755, .aload_n 2, 1), (756, .aload_n 0, 1), (757, .iload 4, 2), (759, .iconst 1, 1), (760, .iadd, 1), (761, .iaload, 1), (762, .aload_n 0, 1), (763, .iload 4, 2), (765, .iconst 2, 1), (766, .iadd, 1), (767, .iaload, 1), (768, .invokevirtual 110, 3), (771, .istore 6, 2), (773, .aload_n 2, 1), (774, .invokevirtual 77, 3), (777, .iload 5, 2), (779, .if_icmp .eq 5, 3), (782, .iconst 0, 1), (783, .ireturn, 1), (784, .iload 5, 2), (786, .ifCond .ne 15, 3), (789, .aload_n 3, 1), (790, .iconst 0, 1), (791, .laload, 1), (792, .iload 6, 2), (794, .i2l, 1), (795, .lcmp, 1), (796, .ifCond .eq 5, 3), (799, .iconst 0, 1), (800, .ireturn, 1), (801, .goto 342, 3), (804, .aload_n 1, 1), (805, .aload_n 0, 1), (806, .iload 4, 2), (808, .iconst 1, 1), (809, .iadd, 1), (810, .iaload, 1), (811, .aload_n 0, 1), (812, .iload 4, 2), (814, .iconst 2, 1), (815, .iadd, 1), (816, .iaload, 1), (817, .ifCond .eq 7, 3), (820, .iconst 1, 1), (821, .goto 4, 3), (824, .iconst 0, 1), (825, .aload_n 3, 1), (826, .invokestatic 111, 3), (829, .istore 5, 2), (831, .aload_n 2, 1), (832, .aload_n 0, 1), (833, .iload 4, 2), (835, .iconst 1, 1), (836, .iadd, 1), (837, .iaload, 1), (838, .aload_n 0, 1), (839, .iload 4, 2), (841, .iconst 2, 1), (842, .iadd, 1), (843, .iaload, 1), (844, .ifCond .eq 7, 3), (847, .iconst 1, 1), (848, .goto 4, 3), (851, .iconst 0, 1), (852, .invokevirtual 113, 3), (855, .istore 6, 2), (857, .aload_n 2, 1), (858, .invokevirtual 77, 3), (861, .iload 5, 2), (863, .if_icmp .eq 5, 3), (866, .iconst 0, 1), (867, .ireturn, 1), (868, .iload 5, 2), (870, .ifCond .ne 15, 3), (873, .aload_n 3, 1), (874, .iconst 0, 1), (875, .laload, 1), (876, .iload 6, 2), (878, .i2l, 1), (879, .lcmp, 1), (880, .ifCond .eq 5, 3), (883, .iconst 0, 1), (884, .ireturn, 1), (885, .goto 258, 3), (888, .aload_n 1, 1), (889, .aload_n 0, 1), (890, .iload 4, 2), (892, .iconst 1, 1), (893, .iadd, 1), (894, .iaload, 1), (895, .aload_n 0, 1), (896, .iload 4, 2), (898, .iconst 2, 1), (899, .iadd, 1), (900, .iaload, 1), (901, .aload_n 3, 1), (902, .invokestatic 114, 3), (905, .istore 5, 2), (907, .aload_n 2, 1), (908, .aload_n 0, 1), (909, .iload 4, 2), (911, .iconst 1, 1), (912, .iadd, 1), (913, .iaload, 1), (914, .aload_n 0, 1), (915, .iload 4, 2), (917, .iconst 2, 1), (918, .iadd, 1), (919, .iaload, 1), (920, .invokevirtual 116, 3), (923, .istore 6, 2), (925, .aload_n 2, 1), (926, .invokevirtual 77, 3), (929, .iload 5, 2), (931, .if_icmp .eq 5, 3), (934, .iconst 0, 1), (935, .ireturn, 1), (936, .iload 5, 2), (938, .ifCond .ne 15, 3), (941, .aload_n 3, 1), (942, .iconst 0, 1), (943, .laload, 1), (944, .iload 6, 2), (946, .i2l, 1), (947, .lcmp, 1), (948, .ifCond .eq 5, 3), (951, .iconst 0, 1), (952, .ireturn, 1), (953, .goto 190, 3), (956, .aload_n 1, 1), (957, .aload_n 0, 1), (958, .iload 4, 2), (960, .iconst 1, 1), (961, .iadd, 1), (962, .iaload, 1), (963, .invokevirtual 117, 3), (966, .aload_n 2, 1), (967, .aload_n 0, 1), (968, .iload 4, 2), (970, .iconst 1, 1), (971, .iadd, 1), (972, .iaload, 1), (973, .invokevirtual 120, 3), (976, .if_icmp .eq 167, 3), (979, .iconst 0, 1), (980, .ireturn, 1), (981, .aload_n 1, 1), (982, .aload_n 0, 1), (983, .iload 4, 2), (985, .iconst 1, 1), (986, .iadd, 1), (987, .iaload, 1), (988, .aload_n 0, 1), (989, .iload 4, 2), (991, .iconst 2, 1), (992, .iadd, 1), (993, .iaload, 1), (994, .aload_n 3, 1), (995, .invokestatic 121, 3), (998, .istore 5, 2), (1000, .aload_n 2, 1), (1001, .aload_n 0, 1), (1002, .iload 4, 2), (1004, .iconst 1, 1), (1005, .iadd, 1), (1006, .iaload, 1), (1007, .aload_n 0, 1), (1008, .iload 4, 2), (1010, .iconst 2, 1), (1011, .iadd, 1), (1012, .iaload, 1), (1013, .invokevirtual 123, 3), (1016, .istore 6, 2), (1018, .aload_n 2, 1), (1019, .invokevirtual 77, 3), (1022, .iload 5, 2), (1024, .if_icmp .eq 5, 3), (1027, .iconst 0, 1), (1028, .ireturn, 1), (1029, .iload 5, 2), (1031, .ifCond .ne 15, 3), (1034, .aload_n 3, 1), (1035, .iconst 0, 1), (1036, .laload, 1), (1037, .iload 6, 2), (1039, .i2l, 1), (1040, .lcmp, 1), (1041, .ifCond .eq 5, 3), (1044, .iconst 0, 1), (1045, .ireturn, 1), (1046, .goto 97, 3), (1049, .aload_n 1, 1), (1050, .aload_n 0, 1), (1051, .iload 4, 2), (1053, .iconst 1, 1), (1054, .iadd, 1), (1055, .iaload, 1), (1056, .aload_n 3, 1), (1057, .invokestatic 124, 3), (1060, .istore 5, 2), (1062, .aload_n 2, 1), (1063, .aload_n 0, 1), (1064, .iload 4, 2), (1066, .iconst 1, 1), (1067, .iadd, 1), (1068, .iaload, 1), (1069, .invokevirtual 126, 3), (1072, .istore 6, 2), (1074, .aload_n 2, 1), (1075, .invokevirtual 77, 3), (1078, .iload 5, 2), (1080, .if_icmp .eq 5, 3), (1083, .iconst 0, 1), (1084, .ireturn, 1), (1085, .iload 5, 2), (1087, .ifCond .ne 15, 3), (1090, .aload_n 3, 1), (1091, .iconst 0, 1), (1092, .laload, 1), (1093, .iload 6, 2), (1095, .i2l, 1), (1096, .lcmp, 1), (1097, .ifCond .eq 5, 3), (1100, .iconst 0, 1), (1101, .ireturn, 1), (1102, .goto 41, 3), (1105, .aload_n 1, 1), (1106, .aload_n 0, 1), (1107, .iload 4, 2), (1109, .iconst 1, 1), (1110, .iadd, 1), (1111, .iaload, 1), (1112, .invokevirtual 127, 3), (1115, .aload_n 2, 1), (1116, .aload_n 0, 1), (1117, .iload 4, 2), (1119, .iconst 1, 1), (1120, .iadd, 1), (1121, .iaload, 1), (1122, .invokevirtual 130, 3), (1125, .if_icmp .eq 18, 3), (1128, .iconst 0, 1), (1129, .ireturn, 1), (1130, .aload_n 1, 1), (1131, .invokevirtual 131, 3), (1134, .aload_n 2, 1), (1135, .invokevirtual 134, 3), (1138, .if_icmp .eq 5, 3), (1141, .iconst 0, 1), (1142, .ireturn, 1), (1143, .iinc 4 4, 3), (1146, .goto (-1123), 3), (1149, .iconst 1, 1), (1150, .ireturn, 1)])
set_option maxRecDepth 100000 in
theorem okL_law : mOk ML_law := by
  show ∀ q ∈ tbL_0 ++ (tbL_1 ++ (tbL_2 ++ (tbL_3 ++ (tbL_4 ++ (tbL_5 ++ (tbL_6 ++ (tbL_7 ++ (tbL_8 ++ (tbL_9 ++ (tbL_10 ++ (tbL_11 ++ (tbL_12 ++ (tbL_13))))))))))))), decode code q.1 = .ok q.2
  exact List.forall_mem_append.mpr ⟨okL_0, List.forall_mem_append.mpr ⟨okL_1, List.forall_mem_append.mpr ⟨okL_2, List.forall_mem_append.mpr ⟨okL_3, List.forall_mem_append.mpr ⟨okL_4, List.forall_mem_append.mpr ⟨okL_5, List.forall_mem_append.mpr ⟨okL_6, List.forall_mem_append.mpr ⟨okL_7, List.forall_mem_append.mpr ⟨okL_8, List.forall_mem_append.mpr ⟨okL_9, List.forall_mem_append.mpr ⟨okL_10, List.forall_mem_append.mpr ⟨okL_11, List.forall_mem_append.mpr ⟨okL_12, okL_13⟩⟩⟩⟩⟩⟩⟩⟩⟩⟩⟩⟩⟩
end
section
/-! THE METHODS' WORDS, by program (wip/whole/gentabs.py) -/
theorem m_in (i : Nat) {w : Cond} (h : lw_tbl[i]? = some w) (hg : goodWord w = true) : w ∈ mTW := List.mem_filter.mpr ⟨List.mem_of_getElem? h, hg⟩
set_option maxRecDepth 100000 in
theorem lkMX0_init : mLkM MX0_init 0 := ⟨by rw [if_pos (show MX0_init.2.2.2.2.1 = [] from rfl)]; exact m_in 53 (by decide +kernel) rfl, m_in 34 (by decide +kernel) rfl, by decide +kernel, ⟨by decide +kernel, by decide +kernel⟩, by decide +kernel, okX0_init⟩
set_option maxRecDepth 100000 in
theorem lkMX0_dig : mLkM MX0_dig 2 := ⟨by rw [if_pos (show MX0_dig.2.2.2.2.1 = [] from rfl)]; exact m_in 230 (by decide +kernel) rfl, m_in 34 (by decide +kernel) rfl, by decide +kernel, ⟨by decide +kernel, by decide +kernel⟩, by decide +kernel, okX0_dig⟩
set_option maxRecDepth 100000 in
theorem lkMX0_fill : mLkM MX0_fill 1 := ⟨by rw [if_pos (show MX0_fill.2.2.2.2.1 = [] from rfl)]; exact m_in 288 (by decide +kernel) rfl, m_in 34 (by decide +kernel) rfl, by decide +kernel, ⟨by decide +kernel, by decide +kernel⟩, by decide +kernel, okX0_fill⟩
set_option maxRecDepth 100000 in
theorem lkMX0_pour : mLkM MX0_pour 2 := ⟨by rw [if_pos (show MX0_pour.2.2.2.2.1 = [] from rfl)]; exact m_in 364 (by decide +kernel) rfl, m_in 34 (by decide +kernel) rfl, by decide +kernel, ⟨by decide +kernel, by decide +kernel⟩, by decide +kernel, okX0_pour⟩
set_option maxRecDepth 100000 in
theorem lkMX0_draw : mLkM MX0_draw 2 := ⟨by rw [if_pos (show MX0_draw.2.2.2.2.1 = [] from rfl)]; exact m_in 378 (by decide +kernel) rfl, m_in 34 (by decide +kernel) rfl, by decide +kernel, ⟨by decide +kernel, by decide +kernel⟩, by decide +kernel, okX0_draw⟩
set_option maxRecDepth 100000 in
theorem lkMX0_boat : mLkM MX0_boat 3 := ⟨by rw [if_pos (show MX0_boat.2.2.2.2.1 = [] from rfl)]; exact m_in 394 (by decide +kernel) rfl, m_in 34 (by decide +kernel) rfl, by decide +kernel, ⟨by decide +kernel, by decide +kernel⟩, by decide +kernel, okX0_boat⟩
set_option maxRecDepth 100000 in
theorem lkMX0_gate : mLkM MX0_gate 2 := ⟨by rw [if_pos (show MX0_gate.2.2.2.2.1 = [] from rfl)]; exact m_in 409 (by decide +kernel) rfl, m_in 34 (by decide +kernel) rfl, by decide +kernel, ⟨by decide +kernel, by decide +kernel⟩, by decide +kernel, okX0_gate⟩
set_option maxRecDepth 100000 in
theorem lkMX0_level : mLkM MX0_level 1 := ⟨by rw [if_pos (show MX0_level.2.2.2.2.1 = [] from rfl)]; exact m_in 422 (by decide +kernel) rfl, m_in 34 (by decide +kernel) rfl, by decide +kernel, ⟨by decide +kernel, by decide +kernel⟩, by decide +kernel, okX0_level⟩
set_option maxRecDepth 100000 in
theorem lkMX0_pass : mLkM MX0_pass 2 := ⟨by rw [if_pos (show MX0_pass.2.2.2.2.1 = [] from rfl)]; exact m_in 444 (by decide +kernel) rfl, m_in 34 (by decide +kernel) rfl, by decide +kernel, ⟨by decide +kernel, by decide +kernel⟩, by decide +kernel, okX0_pass⟩
set_option maxRecDepth 100000 in
theorem lkMX0_flight : mLkM MX0_flight 2 := ⟨by rw [if_pos (show MX0_flight.2.2.2.2.1 = [] from rfl)]; exact m_in 460 (by decide +kernel) rfl, m_in 34 (by decide +kernel) rfl, by decide +kernel, ⟨by decide +kernel, by decide +kernel⟩, by decide +kernel, okX0_flight⟩
set_option maxRecDepth 100000 in
theorem lkMX0_trip : mLkM MX0_trip 2 := ⟨by rw [if_pos (show MX0_trip.2.2.2.2.1 = [] from rfl)]; exact m_in 471 (by decide +kernel) rfl, m_in 34 (by decide +kernel) rfl, by decide +kernel, ⟨by decide +kernel, by decide +kernel⟩, by decide +kernel, okX0_trip⟩
set_option maxRecDepth 100000 in
theorem lkMX0_convoy : mLkM MX0_convoy 2 := ⟨by rw [if_pos (show MX0_convoy.2.2.2.2.1 = [] from rfl)]; exact m_in 478 (by decide +kernel) rfl, m_in 34 (by decide +kernel) rfl, by decide +kernel, ⟨by decide +kernel, by decide +kernel⟩, by decide +kernel, okX0_convoy⟩
set_option maxRecDepth 100000 in
theorem lkMX0_share : mLkM MX0_share 2 := ⟨by rw [if_pos (show MX0_share.2.2.2.2.1 = [] from rfl)]; exact m_in 493 (by decide +kernel) rfl, m_in 34 (by decide +kernel) rfl, by decide +kernel, ⟨by decide +kernel, by decide +kernel⟩, by decide +kernel, okX0_share⟩
set_option maxRecDepth 100000 in
theorem lkMX0_first : mLkM MX0_first 1 := ⟨by rw [if_pos (show MX0_first.2.2.2.2.1 = [] from rfl)]; exact m_in 99 (by decide +kernel) rfl, m_in 34 (by decide +kernel) rfl, by decide +kernel, ⟨by decide +kernel, by decide +kernel⟩, by decide +kernel, okX0_first⟩
set_option maxRecDepth 100000 in
theorem lkMX0_pool : mLkM MX0_pool 2 := ⟨by rw [if_pos (show MX0_pool.2.2.2.2.1 = [] from rfl)]; exact m_in 508 (by decide +kernel) rfl, m_in 34 (by decide +kernel) rfl, by decide +kernel, ⟨by decide +kernel, by decide +kernel⟩, by decide +kernel, okX0_pool⟩
set_option maxRecDepth 100000 in
theorem lkMX0_where : mLkM MX0_where 1 := ⟨by rw [if_pos (show MX0_where.2.2.2.2.1 = [] from rfl)]; exact m_in 516 (by decide +kernel) rfl, m_in 34 (by decide +kernel) rfl, by decide +kernel, ⟨by decide +kernel, by decide +kernel⟩, by decide +kernel, okX0_where⟩
set_option maxRecDepth 100000 in
theorem lkMX0_told : mLkM MX0_told 1 := ⟨by rw [if_pos (show MX0_told.2.2.2.2.1 = [] from rfl)]; exact m_in 122 (by decide +kernel) rfl, m_in 34 (by decide +kernel) rfl, by decide +kernel, ⟨by decide +kernel, by decide +kernel⟩, by decide +kernel, okX0_told⟩
set_option maxRecDepth 100000 in
theorem lkMX0_clear : mLkM MX0_clear 0 := ⟨by rw [if_pos (show MX0_clear.2.2.2.2.1 = [] from rfl)]; exact m_in 133 (by decide +kernel) rfl, m_in 34 (by decide +kernel) rfl, by decide +kernel, ⟨by decide +kernel, by decide +kernel⟩, by decide +kernel, okX0_clear⟩
set_option maxRecDepth 100000 in
theorem lkMX0_reset : mLkM MX0_reset 0 := ⟨by rw [if_pos (show MX0_reset.2.2.2.2.1 = [] from rfl)]; exact m_in 60 (by decide +kernel) rfl, m_in 34 (by decide +kernel) rfl, by decide +kernel, ⟨by decide +kernel, by decide +kernel⟩, by decide +kernel, okX0_reset⟩
set_option maxRecDepth 100000 in
theorem lkMX0_checkBoat : mLkM MX0_checkBoat 1 := ⟨by rw [if_pos (show MX0_checkBoat.2.2.2.2.1 = [] from rfl)]; exact m_in 397 (by decide +kernel) rfl, m_in 34 (by decide +kernel) rfl, by decide +kernel, ⟨by decide +kernel, by decide +kernel⟩, by decide +kernel, okX0_checkBoat⟩
set_option maxRecDepth 100000 in
theorem lkMX0_checkPool : mLkM MX0_checkPool 1 := ⟨by rw [if_pos (show MX0_checkPool.2.2.2.2.1 = [] from rfl)]; exact m_in 233 (by decide +kernel) rfl, m_in 34 (by decide +kernel) rfl, by decide +kernel, ⟨by decide +kernel, by decide +kernel⟩, by decide +kernel, okX0_checkPool⟩
set_option maxRecDepth 100000 in
theorem lkMX0_checkGate : mLkM MX0_checkGate 1 := ⟨by rw [if_pos (show MX0_checkGate.2.2.2.2.1 = [] from rfl)]; exact m_in 412 (by decide +kernel) rfl, m_in 34 (by decide +kernel) rfl, by decide +kernel, ⟨by decide +kernel, by decide +kernel⟩, by decide +kernel, okX0_checkGate⟩
set_option maxRecDepth 100000 in
theorem lkMX0_checkRange : mLkM MX0_checkRange 3 := ⟨by rw [if_pos (show MX0_checkRange.2.2.2.2.1 = [] from rfl)]; exact m_in 239 (by decide +kernel) rfl, m_in 34 (by decide +kernel) rfl, by decide +kernel, ⟨by decide +kernel, by decide +kernel⟩, by decide +kernel, okX0_checkRange⟩
set_option maxRecDepth 100000 in
theorem lkMX0_answered : mLkM MX0_answered 1 := ⟨by rw [if_pos (show MX0_answered.2.2.2.2.1 = [] from rfl)]; exact m_in 303 (by decide +kernel) rfl, m_in 34 (by decide +kernel) rfl, by decide +kernel, ⟨by decide +kernel, by decide +kernel⟩, by decide +kernel, okX0_answered⟩
set_option maxRecDepth 100000 in
theorem lkMX0_hold : mLkM MX0_hold 1 := ⟨by rw [if_pos (show MX0_hold.2.2.2.2.1 = [] from rfl)]; exact m_in 103 (by decide +kernel) rfl, m_in 34 (by decide +kernel) rfl, by decide +kernel, ⟨by decide +kernel, by decide +kernel⟩, by decide +kernel, okX0_hold⟩
set_option maxRecDepth 100000 in
theorem lkMX0_holdAll : mLkM MX0_holdAll 2 := ⟨by rw [if_pos (show MX0_holdAll.2.2.2.2.1 = [] from rfl)]; exact m_in 430 (by decide +kernel) rfl, m_in 34 (by decide +kernel) rfl, by decide +kernel, ⟨by decide +kernel, by decide +kernel⟩, by decide +kernel, okX0_holdAll⟩
set_option maxRecDepth 100000 in
theorem lkMX0_leave : mLkM MX0_leave 1 := ⟨by rw [if_pos (show MX0_leave.2.2.2.2.1 = [] from rfl)]; exact m_in 118 (by decide +kernel) rfl, m_in 34 (by decide +kernel) rfl, by decide +kernel, ⟨by decide +kernel, by decide +kernel⟩, by decide +kernel, okX0_leave⟩
set_option maxRecDepth 100000 in
theorem lkMX0_failing : mLkM MX0_failing 1 := ⟨by rw [if_pos (show MX0_failing.2.2.2.2.1 = [] from rfl)]; exact m_in 296 (by decide +kernel) rfl, m_in 34 (by decide +kernel) rfl, by decide +kernel, ⟨by decide +kernel, by decide +kernel⟩, by decide +kernel, okX0_failing⟩
set_option maxRecDepth 100000 in
theorem lkMX0_fillIn : mLkM MX0_fillIn 1 := ⟨by rw [if_pos (show MX0_fillIn.2.2.2.2.1 = [] from rfl)]; exact m_in 292 (by decide +kernel) rfl, m_in 34 (by decide +kernel) rfl, by decide +kernel, ⟨by decide +kernel, by decide +kernel⟩, by decide +kernel, okX0_fillIn⟩
set_option maxRecDepth 100000 in
theorem lkMX0_pourInto : mLkM MX0_pourInto 2 := ⟨by rw [if_pos (show MX0_pourInto.2.2.2.2.1 = [] from rfl)]; exact m_in 368 (by decide +kernel) rfl, m_in 34 (by decide +kernel) rfl, by decide +kernel, ⟨by decide +kernel, by decide +kernel⟩, by decide +kernel, okX0_pourInto⟩
set_option maxRecDepth 100000 in
theorem lkMX0_drawDown : mLkM MX0_drawDown 2 := ⟨by rw [if_pos (show MX0_drawDown.2.2.2.2.1 = [] from rfl)]; exact m_in 383 (by decide +kernel) rfl, m_in 34 (by decide +kernel) rfl, by decide +kernel, ⟨by decide +kernel, by decide +kernel⟩, by decide +kernel, okX0_drawDown⟩
set_option maxRecDepth 100000 in
theorem lkMX0_berth : mLkM MX0_berth 3 := ⟨by rw [if_pos (show MX0_berth.2.2.2.2.1 = [] from rfl)]; exact m_in 402 (by decide +kernel) rfl, m_in 34 (by decide +kernel) rfl, by decide +kernel, ⟨by decide +kernel, by decide +kernel⟩, by decide +kernel, okX0_berth⟩
set_option maxRecDepth 100000 in
theorem lkMX0_levelGate : mLkM MX0_levelGate 1 := ⟨by rw [if_pos (show MX0_levelGate.2.2.2.2.1 = [] from rfl)]; exact m_in 426 (by decide +kernel) rfl, m_in 34 (by decide +kernel) rfl, by decide +kernel, ⟨by decide +kernel, by decide +kernel⟩, by decide +kernel, okX0_levelGate⟩
set_option maxRecDepth 100000 in
theorem lkMX0_moveUnit : mLkM MX0_moveUnit 2 := ⟨by rw [if_pos (show MX0_moveUnit.2.2.2.2.1 = [] from rfl)]; exact m_in 437 (by decide +kernel) rfl, m_in 34 (by decide +kernel) rfl, by decide +kernel, ⟨by decide +kernel, by decide +kernel⟩, by decide +kernel, okX0_moveUnit⟩
set_option maxRecDepth 100000 in
theorem lkMX0_passBoat : mLkM MX0_passBoat 2 := ⟨by rw [if_pos (show MX0_passBoat.2.2.2.2.1 = [] from rfl)]; exact m_in 453 (by decide +kernel) rfl, m_in 34 (by decide +kernel) rfl, by decide +kernel, ⟨by decide +kernel, by decide +kernel⟩, by decide +kernel, okX0_passBoat⟩
set_option maxRecDepth 100000 in
theorem lkMX0_passInConvoy : mLkM MX0_passInConvoy 2 := ⟨by rw [if_pos (show MX0_passInConvoy.2.2.2.2.1 = [] from rfl)]; exact m_in 486 (by decide +kernel) rfl, m_in 34 (by decide +kernel) rfl, by decide +kernel, ⟨by decide +kernel, by decide +kernel⟩, by decide +kernel, okX0_passInConvoy⟩
set_option maxRecDepth 100000 in
theorem lkMX0_fly : mLkM MX0_fly 2 := ⟨by rw [if_pos (show MX0_fly.2.2.2.2.1 = [] from rfl)]; exact m_in 464 (by decide +kernel) rfl, m_in 34 (by decide +kernel) rfl, by decide +kernel, ⟨by decide +kernel, by decide +kernel⟩, by decide +kernel, okX0_fly⟩
set_option maxRecDepth 100000 in
theorem lkMX0_shareOut : mLkM MX0_shareOut 2 := ⟨by rw [if_pos (show MX0_shareOut.2.2.2.2.1 = [] from rfl)]; exact m_in 498 (by decide +kernel) rfl, m_in 34 (by decide +kernel) rfl, by decide +kernel, ⟨by decide +kernel, by decide +kernel⟩, by decide +kernel, okX0_shareOut⟩
set_option maxRecDepth 100000 in
theorem lkMX0_portion : mLkM MX0_portion 3 := ⟨by rw [if_pos (show MX0_portion.2.2.2.2.1 = [] from rfl)]; exact m_in 501 (by decide +kernel) rfl, m_in 34 (by decide +kernel) rfl, by decide +kernel, ⟨by decide +kernel, by decide +kernel⟩, by decide +kernel, okX0_portion⟩
set_option maxRecDepth 100000 in
theorem lkMX0_sum : mLkM MX0_sum 3 := ⟨by rw [if_pos (show MX0_sum.2.2.2.2.1 = [] from rfl)]; exact m_in 129 (by decide +kernel) rfl, m_in 34 (by decide +kernel) rfl, by decide +kernel, ⟨by decide +kernel, by decide +kernel⟩, by decide +kernel, okX0_sum⟩
set_option maxRecDepth 100000 in
theorem lkMX0_isDug : mLkM MX0_isDug 1 := ⟨by rw [if_pos (show MX0_isDug.2.2.2.2.1 = [] from rfl)]; exact m_in 107 (by decide +kernel) rfl, m_in 34 (by decide +kernel) rfl, by decide +kernel, ⟨by decide +kernel, by decide +kernel⟩, by decide +kernel, okX0_isDug⟩
set_option maxRecDepth 100000 in
theorem lkMX0_heightOf : mLkM MX0_heightOf 1 := ⟨by rw [if_pos (show MX0_heightOf.2.2.2.2.1 = [] from rfl)]; exact m_in 114 (by decide +kernel) rfl, m_in 34 (by decide +kernel) rfl, by decide +kernel, ⟨by decide +kernel, by decide +kernel⟩, by decide +kernel, okX0_heightOf⟩
set_option maxRecDepth 100000 in
theorem lkMX0_boatsIn : mLkM MX0_boatsIn 1 := ⟨by rw [if_pos (show MX0_boatsIn.2.2.2.2.1 = [] from rfl)]; exact m_in 300 (by decide +kernel) rfl, m_in 34 (by decide +kernel) rfl, by decide +kernel, ⟨by decide +kernel, by decide +kernel⟩, by decide +kernel, okX0_boatsIn⟩
set_option maxRecDepth 100000 in
theorem lkMX0_countDug : mLkM MX0_countDug 0 := ⟨by rw [if_pos (show MX0_countDug.2.2.2.2.1 = [] from rfl)]; exact m_in 126 (by decide +kernel) rfl, m_in 34 (by decide +kernel) rfl, by decide +kernel, ⟨by decide +kernel, by decide +kernel⟩, by decide +kernel, okX0_countDug⟩
set_option maxRecDepth 100000 in
theorem lkMX0_canSetOut : mLkM MX0_canSetOut 2 := ⟨by rw [if_pos (show MX0_canSetOut.2.2.2.2.1 = [] from rfl)]; exact m_in 482 (by decide +kernel) rfl, m_in 34 (by decide +kernel) rfl, by decide +kernel, ⟨by decide +kernel, by decide +kernel⟩, by decide +kernel, okX0_canSetOut⟩
set_option maxRecDepth 100000 in
theorem lkMX0_hasGate : mLkM MX0_hasGate 2 := ⟨by rw [if_pos (show MX0_hasGate.2.2.2.2.1 = [] from rfl)]; exact m_in 448 (by decide +kernel) rfl, m_in 34 (by decide +kernel) rfl, by decide +kernel, ⟨by decide +kernel, by decide +kernel⟩, by decide +kernel, okX0_hasGate⟩
set_option maxRecDepth 100000 in
theorem lkMX1_init : mLkM MX1_init 0 := ⟨by rw [if_pos (show MX1_init.2.2.2.2.1 = [] from rfl)]; exact m_in 521 (by decide +kernel) rfl, m_in 36 (by decide +kernel) rfl, by decide +kernel, ⟨by decide +kernel, by decide +kernel⟩, by decide +kernel, okX1_init⟩
set_option maxRecDepth 100000 in
theorem lkMX1_thrown : mLkM MX1_thrown 0 := ⟨by rw [if_pos (show MX1_thrown.2.2.2.2.1 = [] from rfl)]; exact m_in 577 (by decide +kernel) rfl, m_in 36 (by decide +kernel) rfl, by decide +kernel, ⟨by decide +kernel, by decide +kernel⟩, by decide +kernel, okX1_thrown⟩
set_option maxRecDepth 100000 in
theorem lkMX1_begin : mLkM MX1_begin 0 := ⟨by rw [if_pos (show MX1_begin.2.2.2.2.1 = [] from rfl)]; exact m_in 526 (by decide +kernel) rfl, m_in 36 (by decide +kernel) rfl, by decide +kernel, ⟨by decide +kernel, by decide +kernel⟩, by decide +kernel, okX1_begin⟩
set_option maxRecDepth 100000 in
theorem lkMX1_in : mLkM MX1_in 3 := ⟨by rw [if_pos (show MX1_in.2.2.2.2.1 = [] from rfl)]; exact m_in 587 (by decide +kernel) rfl, m_in 36 (by decide +kernel) rfl, by decide +kernel, ⟨by decide +kernel, by decide +kernel⟩, by decide +kernel, okX1_in⟩
set_option maxRecDepth 100000 in
theorem lkMX1_isPool : mLkM MX1_isPool 1 := ⟨by rw [if_pos (show MX1_isPool.2.2.2.2.1 = [] from rfl)]; exact m_in 584 (by decide +kernel) rfl, m_in 36 (by decide +kernel) rfl, by decide +kernel, ⟨by decide +kernel, by decide +kernel⟩, by decide +kernel, okX1_isPool⟩
set_option maxRecDepth 100000 in
theorem lkMX1_isBoat : mLkM MX1_isBoat 1 := ⟨by rw [if_pos (show MX1_isBoat.2.2.2.2.1 = [] from rfl)]; exact m_in 626 (by decide +kernel) rfl, m_in 36 (by decide +kernel) rfl, by decide +kernel, ⟨by decide +kernel, by decide +kernel⟩, by decide +kernel, okX1_isBoat⟩
set_option maxRecDepth 100000 in
theorem lkMX1_heightOf : mLkM MX1_heightOf 1 := ⟨by rw [if_pos (show MX1_heightOf.2.2.2.2.1 = [] from rfl)]; exact m_in 619 (by decide +kernel) rfl, m_in 36 (by decide +kernel) rfl, by decide +kernel, ⟨by decide +kernel, by decide +kernel⟩, by decide +kernel, okX1_heightOf⟩
set_option maxRecDepth 100000 in
theorem lkMX1_lieIn : mLkM MX1_lieIn 1 := ⟨by rw [if_pos (show MX1_lieIn.2.2.2.2.1 = [] from rfl)]; exact m_in 630 (by decide +kernel) rfl, m_in 36 (by decide +kernel) rfl, by decide +kernel, ⟨by decide +kernel, by decide +kernel⟩, by decide +kernel, okX1_lieIn⟩
set_option maxRecDepth 100000 in
theorem lkMX1_fail : mLkM MX1_fail 1 := ⟨by rw [if_pos (show MX1_fail.2.2.2.2.1 = [] from rfl)]; exact m_in 599 (by decide +kernel) rfl, m_in 36 (by decide +kernel) rfl, by decide +kernel, ⟨by decide +kernel, by decide +kernel⟩, by decide +kernel, okX1_fail⟩
set_option maxRecDepth 100000 in
theorem lkMX1_hold : mLkM MX1_hold 1 := ⟨by rw [if_pos (show MX1_hold.2.2.2.2.1 = [] from rfl)]; exact m_in 595 (by decide +kernel) rfl, m_in 36 (by decide +kernel) rfl, by decide +kernel, ⟨by decide +kernel, by decide +kernel⟩, by decide +kernel, okX1_hold⟩
set_option maxRecDepth 100000 in
theorem lkMX1_leave : mLkM MX1_leave 1 := ⟨by rw [if_pos (show MX1_leave.2.2.2.2.1 = [] from rfl)]; exact m_in 607 (by decide +kernel) rfl, m_in 36 (by decide +kernel) rfl, by decide +kernel, ⟨by decide +kernel, by decide +kernel⟩, by decide +kernel, okX1_leave⟩
set_option maxRecDepth 100000 in
theorem lkMX1_told : mLkM MX1_told 4 := ⟨by rw [if_pos (show MX1_told.2.2.2.2.1 = [] from rfl)]; exact m_in 603 (by decide +kernel) rfl, m_in 36 (by decide +kernel) rfl, by decide +kernel, ⟨by decide +kernel, by decide +kernel⟩, by decide +kernel, okX1_told⟩
set_option maxRecDepth 100000 in
theorem lkMX1_dig : mLkM MX1_dig 2 := ⟨by rw [if_pos (show MX1_dig.2.2.2.2.1 = [] from rfl)]; exact m_in 581 (by decide +kernel) rfl, m_in 36 (by decide +kernel) rfl, by decide +kernel, ⟨by decide +kernel, by decide +kernel⟩, by decide +kernel, okX1_dig⟩
set_option maxRecDepth 100000 in
theorem lkMX1_fill : mLkM MX1_fill 1 := ⟨by rw [if_pos (show MX1_fill.2.2.2.2.1 = [] from rfl)]; exact m_in 591 (by decide +kernel) rfl, m_in 36 (by decide +kernel) rfl, by decide +kernel, ⟨by decide +kernel, by decide +kernel⟩, by decide +kernel, okX1_fill⟩
set_option maxRecDepth 100000 in
theorem lkMX1_pour : mLkM MX1_pour 2 := ⟨by rw [if_pos (show MX1_pour.2.2.2.2.1 = [] from rfl)]; exact m_in 611 (by decide +kernel) rfl, m_in 36 (by decide +kernel) rfl, by decide +kernel, ⟨by decide +kernel, by decide +kernel⟩, by decide +kernel, okX1_pour⟩
set_option maxRecDepth 100000 in
theorem lkMX1_draw : mLkM MX1_draw 2 := ⟨by rw [if_pos (show MX1_draw.2.2.2.2.1 = [] from rfl)]; exact m_in 615 (by decide +kernel) rfl, m_in 36 (by decide +kernel) rfl, by decide +kernel, ⟨by decide +kernel, by decide +kernel⟩, by decide +kernel, okX1_draw⟩
set_option maxRecDepth 100000 in
theorem lkMX1_boat : mLkM MX1_boat 3 := ⟨by rw [if_pos (show MX1_boat.2.2.2.2.1 = [] from rfl)]; exact m_in 623 (by decide +kernel) rfl, m_in 36 (by decide +kernel) rfl, by decide +kernel, ⟨by decide +kernel, by decide +kernel⟩, by decide +kernel, okX1_boat⟩
set_option maxRecDepth 100000 in
theorem lkMX1_gate : mLkM MX1_gate 2 := ⟨by rw [if_pos (show MX1_gate.2.2.2.2.1 = [] from rfl)]; exact m_in 634 (by decide +kernel) rfl, m_in 36 (by decide +kernel) rfl, by decide +kernel, ⟨by decide +kernel, by decide +kernel⟩, by decide +kernel, okX1_gate⟩
set_option maxRecDepth 100000 in
theorem lkMX1_levels : mLkM MX1_levels 1 := ⟨by rw [if_pos (show MX1_levels.2.2.2.2.1 = [] from rfl)]; exact m_in 642 (by decide +kernel) rfl, m_in 36 (by decide +kernel) rfl, by decide +kernel, ⟨by decide +kernel, by decide +kernel⟩, by decide +kernel, okX1_levels⟩
set_option maxRecDepth 100000 in
theorem lkMX1_passes : mLkM MX1_passes 2 := ⟨by rw [if_pos (show MX1_passes.2.2.2.2.1 = [] from rfl)]; exact m_in 650 (by decide +kernel) rfl, m_in 36 (by decide +kernel) rfl, by decide +kernel, ⟨by decide +kernel, by decide +kernel⟩, by decide +kernel, okX1_passes⟩
set_option maxRecDepth 100000 in
theorem lkMX1_level : mLkM MX1_level 1 := ⟨by rw [if_pos (show MX1_level.2.2.2.2.1 = [] from rfl)]; exact m_in 638 (by decide +kernel) rfl, m_in 36 (by decide +kernel) rfl, by decide +kernel, ⟨by decide +kernel, by decide +kernel⟩, by decide +kernel, okX1_level⟩
set_option maxRecDepth 100000 in
theorem lkMX1_pass : mLkM MX1_pass 2 := ⟨by rw [if_pos (show MX1_pass.2.2.2.2.1 = [] from rfl)]; exact m_in 646 (by decide +kernel) rfl, m_in 36 (by decide +kernel) rfl, by decide +kernel, ⟨by decide +kernel, by decide +kernel⟩, by decide +kernel, okX1_pass⟩
set_option maxRecDepth 100000 in
theorem lkMX1_flies : mLkM MX1_flies 2 := ⟨by rw [if_pos (show MX1_flies.2.2.2.2.1 = [] from rfl)]; exact m_in 658 (by decide +kernel) rfl, m_in 36 (by decide +kernel) rfl, by decide +kernel, ⟨by decide +kernel, by decide +kernel⟩, by decide +kernel, okX1_flies⟩
set_option maxRecDepth 100000 in
theorem lkMX1_flight : mLkM MX1_flight 2 := ⟨by rw [if_pos (show MX1_flight.2.2.2.2.1 = [] from rfl)]; exact m_in 654 (by decide +kernel) rfl, m_in 36 (by decide +kernel) rfl, by decide +kernel, ⟨by decide +kernel, by decide +kernel⟩, by decide +kernel, okX1_flight⟩
set_option maxRecDepth 100000 in
theorem lkMX1_trip : mLkM MX1_trip 2 := ⟨by rw [if_pos (show MX1_trip.2.2.2.2.1 = [] from rfl)]; exact m_in 662 (by decide +kernel) rfl, m_in 36 (by decide +kernel) rfl, by decide +kernel, ⟨by decide +kernel, by decide +kernel⟩, by decide +kernel, okX1_trip⟩
set_option maxRecDepth 100000 in
theorem lkMX1_convoy : mLkM MX1_convoy 2 := ⟨by rw [if_pos (show MX1_convoy.2.2.2.2.1 = [] from rfl)]; exact m_in 666 (by decide +kernel) rfl, m_in 36 (by decide +kernel) rfl, by decide +kernel, ⟨by decide +kernel, by decide +kernel⟩, by decide +kernel, okX1_convoy⟩
set_option maxRecDepth 100000 in
theorem lkMX1_share : mLkM MX1_share 2 := ⟨by rw [if_pos (show MX1_share.2.2.2.2.1 = [] from rfl)]; exact m_in 670 (by decide +kernel) rfl, m_in 36 (by decide +kernel) rfl, by decide +kernel, ⟨by decide +kernel, by decide +kernel⟩, by decide +kernel, okX1_share⟩
set_option maxRecDepth 100000 in
theorem lkMX1_first : mLkM MX1_first 1 := ⟨by rw [if_pos (show MX1_first.2.2.2.2.1 = [] from rfl)]; exact m_in 674 (by decide +kernel) rfl, m_in 36 (by decide +kernel) rfl, by decide +kernel, ⟨by decide +kernel, by decide +kernel⟩, by decide +kernel, okX1_first⟩
set_option maxRecDepth 100000 in
theorem lkMX1_pool : mLkM MX1_pool 2 := ⟨by rw [if_pos (show MX1_pool.2.2.2.2.1 = [] from rfl)]; exact m_in 678 (by decide +kernel) rfl, m_in 36 (by decide +kernel) rfl, by decide +kernel, ⟨by decide +kernel, by decide +kernel⟩, by decide +kernel, okX1_pool⟩
set_option maxRecDepth 100000 in
theorem lkMX1_where : mLkM MX1_where 1 := ⟨by rw [if_pos (show MX1_where.2.2.2.2.1 = [] from rfl)]; exact m_in 682 (by decide +kernel) rfl, m_in 36 (by decide +kernel) rfl, by decide +kernel, ⟨by decide +kernel, by decide +kernel⟩, by decide +kernel, okX1_where⟩
set_option maxRecDepth 100000 in
theorem lkMX1_dug : mLkM MX1_dug 0 := ⟨by rw [if_pos (show MX1_dug.2.2.2.2.1 = [] from rfl)]; exact m_in 690 (by decide +kernel) rfl, m_in 36 (by decide +kernel) rfl, by decide +kernel, ⟨by decide +kernel, by decide +kernel⟩, by decide +kernel, okX1_dug⟩
set_option maxRecDepth 100000 in
theorem lkMX1_told_ : mLkM MX1_told_ 1 := ⟨by rw [if_pos (show MX1_told_.2.2.2.2.1 = [] from rfl)]; exact m_in 686 (by decide +kernel) rfl, m_in 36 (by decide +kernel) rfl, by decide +kernel, ⟨by decide +kernel, by decide +kernel⟩, by decide +kernel, okX1_told_⟩
set_option maxRecDepth 100000 in
theorem lkMX1_clear : mLkM MX1_clear 0 := ⟨by rw [if_pos (show MX1_clear.2.2.2.2.1 = [] from rfl)]; exact m_in 694 (by decide +kernel) rfl, m_in 36 (by decide +kernel) rfl, by decide +kernel, ⟨by decide +kernel, by decide +kernel⟩, by decide +kernel, okX1_clear⟩
set_option maxRecDepth 100000 in
theorem lkMJ7_fill_53178 : mLkM MJ7_fill_53178 2 := ⟨by rw [if_pos (show MJ7_fill_53178.2.2.2.2.1 = [] from rfl)]; exact m_in 63 (by decide +kernel) rfl, m_in 35 (by decide +kernel) rfl, by decide +kernel, ⟨by decide +kernel, by decide +kernel⟩, by decide +kernel, okJ7_fill_53178⟩
set_option maxRecDepth 100000 in
theorem lkML_dig : mLkM ML_dig 4 := ⟨by rw [if_neg (show ¬ ML_dig.2.2.2.2.1 = [] from List.cons_ne_nil _ _)]; exact m_in 136 (by decide +kernel) rfl, m_in 33 (by decide +kernel) rfl, by decide +kernel, ⟨by decide +kernel, by decide +kernel⟩, by decide +kernel, okL_dig⟩
set_option maxRecDepth 100000 in
theorem lkML_fill : mLkM ML_fill 3 := ⟨by rw [if_neg (show ¬ ML_fill.2.2.2.2.1 = [] from List.cons_ne_nil _ _)]; exact m_in 258 (by decide +kernel) rfl, m_in 33 (by decide +kernel) rfl, by decide +kernel, ⟨by decide +kernel, by decide +kernel⟩, by decide +kernel, okL_fill⟩
set_option maxRecDepth 100000 in
theorem lkML_pour : mLkM ML_pour 4 := ⟨by rw [if_neg (show ¬ ML_pour.2.2.2.2.1 = [] from List.cons_ne_nil _ _)]; exact m_in 360 (by decide +kernel) rfl, m_in 33 (by decide +kernel) rfl, by decide +kernel, ⟨by decide +kernel, by decide +kernel⟩, by decide +kernel, okL_pour⟩
set_option maxRecDepth 100000 in
theorem lkML_draw : mLkM ML_draw 4 := ⟨by rw [if_neg (show ¬ ML_draw.2.2.2.2.1 = [] from List.cons_ne_nil _ _)]; exact m_in 374 (by decide +kernel) rfl, m_in 33 (by decide +kernel) rfl, by decide +kernel, ⟨by decide +kernel, by decide +kernel⟩, by decide +kernel, okL_draw⟩
set_option maxRecDepth 100000 in
theorem lkML_boat : mLkM ML_boat 5 := ⟨by rw [if_neg (show ¬ ML_boat.2.2.2.2.1 = [] from List.cons_ne_nil _ _)]; exact m_in 389 (by decide +kernel) rfl, m_in 33 (by decide +kernel) rfl, by decide +kernel, ⟨by decide +kernel, by decide +kernel⟩, by decide +kernel, okL_boat⟩
set_option maxRecDepth 100000 in
theorem lkML_gate : mLkM ML_gate 4 := ⟨by rw [if_neg (show ¬ ML_gate.2.2.2.2.1 = [] from List.cons_ne_nil _ _)]; exact m_in 405 (by decide +kernel) rfl, m_in 33 (by decide +kernel) rfl, by decide +kernel, ⟨by decide +kernel, by decide +kernel⟩, by decide +kernel, okL_gate⟩
set_option maxRecDepth 100000 in
theorem lkML_level : mLkM ML_level 3 := ⟨by rw [if_neg (show ¬ ML_level.2.2.2.2.1 = [] from List.cons_ne_nil _ _)]; exact m_in 416 (by decide +kernel) rfl, m_in 33 (by decide +kernel) rfl, by decide +kernel, ⟨by decide +kernel, by decide +kernel⟩, by decide +kernel, okL_level⟩
set_option maxRecDepth 100000 in
theorem lkML_pass : mLkM ML_pass 4 := ⟨by rw [if_neg (show ¬ ML_pass.2.2.2.2.1 = [] from List.cons_ne_nil _ _)]; exact m_in 440 (by decide +kernel) rfl, m_in 33 (by decide +kernel) rfl, by decide +kernel, ⟨by decide +kernel, by decide +kernel⟩, by decide +kernel, okL_pass⟩
set_option maxRecDepth 100000 in
theorem lkML_flight : mLkM ML_flight 4 := ⟨by rw [if_neg (show ¬ ML_flight.2.2.2.2.1 = [] from List.cons_ne_nil _ _)]; exact m_in 456 (by decide +kernel) rfl, m_in 33 (by decide +kernel) rfl, by decide +kernel, ⟨by decide +kernel, by decide +kernel⟩, by decide +kernel, okL_flight⟩
set_option maxRecDepth 100000 in
theorem lkML_trip : mLkM ML_trip 4 := ⟨by rw [if_neg (show ¬ ML_trip.2.2.2.2.1 = [] from List.cons_ne_nil _ _)]; exact m_in 467 (by decide +kernel) rfl, m_in 33 (by decide +kernel) rfl, by decide +kernel, ⟨by decide +kernel, by decide +kernel⟩, by decide +kernel, okL_trip⟩
set_option maxRecDepth 100000 in
theorem lkML_convoy : mLkM ML_convoy 4 := ⟨by rw [if_neg (show ¬ ML_convoy.2.2.2.2.1 = [] from List.cons_ne_nil _ _)]; exact m_in 474 (by decide +kernel) rfl, m_in 33 (by decide +kernel) rfl, by decide +kernel, ⟨by decide +kernel, by decide +kernel⟩, by decide +kernel, okL_convoy⟩
set_option maxRecDepth 100000 in
theorem lkML_share : mLkM ML_share 4 := ⟨by rw [if_neg (show ¬ ML_share.2.2.2.2.1 = [] from List.cons_ne_nil _ _)]; exact m_in 489 (by decide +kernel) rfl, m_in 33 (by decide +kernel) rfl, by decide +kernel, ⟨by decide +kernel, by decide +kernel⟩, by decide +kernel, okL_share⟩
set_option maxRecDepth 100000 in
theorem lkML_pool : mLkM ML_pool 4 := ⟨by rw [if_neg (show ¬ ML_pool.2.2.2.2.1 = [] from List.cons_ne_nil _ _)]; exact m_in 504 (by decide +kernel) rfl, m_in 33 (by decide +kernel) rfl, by decide +kernel, ⟨by decide +kernel, by decide +kernel⟩, by decide +kernel, okL_pool⟩
set_option maxRecDepth 100000 in
theorem lkML_where : mLkM ML_where 3 := ⟨by rw [if_neg (show ¬ ML_where.2.2.2.2.1 = [] from List.cons_ne_nil _ _)]; exact m_in 512 (by decide +kernel) rfl, m_in 33 (by decide +kernel) rfl, by decide +kernel, ⟨by decide +kernel, by decide +kernel⟩, by decide +kernel, okL_where⟩
set_option maxRecDepth 100000 in
theorem lkRX0_31 : mLkV RX0 31 MX0_reset 0 := ⟨m_in 57 (by decide +kernel) rfl, m_in 59 (by decide +kernel) rfl, m_in 0 (by decide +kernel) rfl, rfl, lkMX0_reset⟩
set_option maxRecDepth 100000 in
theorem lkRX0_34 : mLkS RX0 34 MX0_checkPool 1 := ⟨m_in 231 (by decide +kernel) rfl, m_in 232 (by decide +kernel) rfl, lkMX0_checkPool⟩
set_option maxRecDepth 100000 in
theorem lkRX0_38 : mLkS RX0 38 MX0_checkRange 3 := ⟨m_in 237 (by decide +kernel) rfl, m_in 238 (by decide +kernel) rfl, lkMX0_checkRange⟩
set_option maxRecDepth 100000 in
theorem lkRX0_42 : mLkV RX0 42 MX0_isDug 1 := ⟨m_in 104 (by decide +kernel) rfl, m_in 106 (by decide +kernel) rfl, m_in 2 (by decide +kernel) rfl, rfl, lkMX0_isDug⟩
set_option maxRecDepth 100000 in
theorem lkRX0_46 : mLkV RX0 46 MX0_fillIn 1 := ⟨m_in 289 (by decide +kernel) rfl, m_in 291 (by decide +kernel) rfl, m_in 8 (by decide +kernel) rfl, rfl, lkMX0_fillIn⟩
set_option maxRecDepth 100000 in
theorem lkRX0_50 : mLkS RX0 50 MX0_answered 1 := ⟨m_in 301 (by decide +kernel) rfl, m_in 302 (by decide +kernel) rfl, lkMX0_answered⟩
set_option maxRecDepth 100000 in
theorem lkRX0_53 : mLkV RX0 53 MX0_pourInto 2 := ⟨m_in 365 (by decide +kernel) rfl, m_in 367 (by decide +kernel) rfl, m_in 11 (by decide +kernel) rfl, rfl, lkMX0_pourInto⟩
set_option maxRecDepth 100000 in
theorem lkRX0_60 : mLkV RX0 60 MX0_drawDown 2 := ⟨m_in 380 (by decide +kernel) rfl, m_in 382 (by decide +kernel) rfl, m_in 12 (by decide +kernel) rfl, rfl, lkMX0_drawDown⟩
set_option maxRecDepth 100000 in
theorem lkRX0_63 : mLkS RX0 63 MX0_checkBoat 1 := ⟨m_in 395 (by decide +kernel) rfl, m_in 396 (by decide +kernel) rfl, lkMX0_checkBoat⟩
set_option maxRecDepth 100000 in
theorem lkRX0_66 : mLkV RX0 66 MX0_berth 3 := ⟨m_in 399 (by decide +kernel) rfl, m_in 401 (by decide +kernel) rfl, m_in 13 (by decide +kernel) rfl, rfl, lkMX0_berth⟩
set_option maxRecDepth 100000 in
theorem lkRX0_70 : mLkS RX0 70 MX0_checkGate 1 := ⟨m_in 410 (by decide +kernel) rfl, m_in 411 (by decide +kernel) rfl, lkMX0_checkGate⟩
set_option maxRecDepth 100000 in
theorem lkRX0_73 : mLkV RX0 73 MX0_levelGate 1 := ⟨m_in 423 (by decide +kernel) rfl, m_in 425 (by decide +kernel) rfl, m_in 14 (by decide +kernel) rfl, rfl, lkMX0_levelGate⟩
set_option maxRecDepth 100000 in
theorem lkRX0_83 : mLkS RX0 83 MX0_hasGate 2 := ⟨m_in 446 (by decide +kernel) rfl, m_in 447 (by decide +kernel) rfl, lkMX0_hasGate⟩
set_option maxRecDepth 100000 in
theorem lkRX0_92 : mLkV RX0 92 MX0_passBoat 2 := ⟨m_in 450 (by decide +kernel) rfl, m_in 452 (by decide +kernel) rfl, m_in 17 (by decide +kernel) rfl, rfl, lkMX0_passBoat⟩
set_option maxRecDepth 100000 in
theorem lkRX0_96 : mLkV RX0 96 MX0_fly 2 := ⟨m_in 461 (by decide +kernel) rfl, m_in 463 (by decide +kernel) rfl, m_in 18 (by decide +kernel) rfl, rfl, lkMX0_fly⟩
set_option maxRecDepth 100000 in
theorem lkRX0_99 : mLkV RX0 99 MX0_canSetOut 2 := ⟨m_in 479 (by decide +kernel) rfl, m_in 481 (by decide +kernel) rfl, m_in 19 (by decide +kernel) rfl, rfl, lkMX0_canSetOut⟩
set_option maxRecDepth 100000 in
theorem lkRX0_102 : mLkV RX0 102 MX0_passInConvoy 2 := ⟨m_in 483 (by decide +kernel) rfl, m_in 485 (by decide +kernel) rfl, m_in 20 (by decide +kernel) rfl, rfl, lkMX0_passInConvoy⟩
set_option maxRecDepth 100000 in
theorem lkRX0_110 : mLkV RX0 110 MX0_shareOut 2 := ⟨m_in 495 (by decide +kernel) rfl, m_in 497 (by decide +kernel) rfl, m_in 21 (by decide +kernel) rfl, rfl, lkMX0_shareOut⟩
set_option maxRecDepth 100000 in
theorem lkRX0_113 : mLkV RX0 113 MX0_hold 1 := ⟨m_in 100 (by decide +kernel) rfl, m_in 102 (by decide +kernel) rfl, m_in 1 (by decide +kernel) rfl, rfl, lkMX0_hold⟩
set_option maxRecDepth 100000 in
theorem lkRX0_116 : mLkV RX0 116 MX0_heightOf 1 := ⟨m_in 111 (by decide +kernel) rfl, m_in 113 (by decide +kernel) rfl, m_in 3 (by decide +kernel) rfl, rfl, lkMX0_heightOf⟩
set_option maxRecDepth 100000 in
theorem lkRX0_119 : mLkV RX0 119 MX0_leave 1 := ⟨m_in 115 (by decide +kernel) rfl, m_in 117 (by decide +kernel) rfl, m_in 4 (by decide +kernel) rfl, rfl, lkMX0_leave⟩
set_option maxRecDepth 100000 in
theorem lkRX0_127 : mLkV RX0 127 MX0_boatsIn 1 := ⟨m_in 297 (by decide +kernel) rfl, m_in 299 (by decide +kernel) rfl, m_in 10 (by decide +kernel) rfl, rfl, lkMX0_boatsIn⟩
set_option maxRecDepth 100000 in
theorem lkRX0_137 : mLkV RX0 137 MX0_countDug 0 := ⟨m_in 123 (by decide +kernel) rfl, m_in 125 (by decide +kernel) rfl, m_in 5 (by decide +kernel) rfl, rfl, lkMX0_countDug⟩
set_option maxRecDepth 100000 in
theorem lkRX0_141 : mLkS RX0 141 MX0_sum 3 := ⟨m_in 127 (by decide +kernel) rfl, m_in 128 (by decide +kernel) rfl, lkMX0_sum⟩
set_option maxRecDepth 100000 in
theorem lkRX0_145 : mLkS RX0 145 MJ7_fill_53178 2 := ⟨m_in 61 (by decide +kernel) rfl, m_in 62 (by decide +kernel) rfl, lkMJ7_fill_53178⟩
set_option maxRecDepth 100000 in
theorem lkRX0_184 : mLkV RX0 184 MX0_failing 1 := ⟨m_in 293 (by decide +kernel) rfl, m_in 295 (by decide +kernel) rfl, m_in 9 (by decide +kernel) rfl, rfl, lkMX0_failing⟩
set_option maxRecDepth 100000 in
theorem lkRX0_193 : mLkV RX0 193 MX0_holdAll 2 := ⟨m_in 427 (by decide +kernel) rfl, m_in 429 (by decide +kernel) rfl, m_in 15 (by decide +kernel) rfl, rfl, lkMX0_holdAll⟩
set_option maxRecDepth 100000 in
theorem lkRX0_197 : mLkV RX0 197 MX0_moveUnit 2 := ⟨m_in 434 (by decide +kernel) rfl, m_in 436 (by decide +kernel) rfl, m_in 16 (by decide +kernel) rfl, rfl, lkMX0_moveUnit⟩
set_option maxRecDepth 100000 in
theorem lkRX0_201 : mLkS RX0 201 MX0_portion 3 := ⟨m_in 499 (by decide +kernel) rfl, m_in 500 (by decide +kernel) rfl, lkMX0_portion⟩
set_option maxRecDepth 100000 in
theorem lkRX1_35 : mLkV RX1 35 MX1_begin 0 := ⟨m_in 523 (by decide +kernel) rfl, m_in 525 (by decide +kernel) rfl, m_in 22 (by decide +kernel) rfl, rfl, lkMX1_begin⟩
set_option maxRecDepth 100000 in
theorem lkRX1_54 : mLkS RX1 54 MX1_in 3 := ⟨m_in 585 (by decide +kernel) rfl, m_in 586 (by decide +kernel) rfl, lkMX1_in⟩
set_option maxRecDepth 100000 in
theorem lkRX1_58 : mLkV RX1 58 MX1_fail 1 := ⟨m_in 596 (by decide +kernel) rfl, m_in 598 (by decide +kernel) rfl, m_in 24 (by decide +kernel) rfl, rfl, lkMX1_fail⟩
set_option maxRecDepth 100000 in
theorem lkRX1_62 : mLkS RX1 62 MX1_isPool 1 := ⟨m_in 582 (by decide +kernel) rfl, m_in 583 (by decide +kernel) rfl, lkMX1_isPool⟩
set_option maxRecDepth 100000 in
theorem lkRX1_65 : mLkV RX1 65 MX1_hold 1 := ⟨m_in 592 (by decide +kernel) rfl, m_in 594 (by decide +kernel) rfl, m_in 23 (by decide +kernel) rfl, rfl, lkMX1_hold⟩
set_option maxRecDepth 100000 in
theorem lkRX1_68 : mLkV RX1 68 MX1_told 4 := ⟨m_in 600 (by decide +kernel) rfl, m_in 602 (by decide +kernel) rfl, m_in 25 (by decide +kernel) rfl, rfl, lkMX1_told⟩
set_option maxRecDepth 100000 in
theorem lkRX1_72 : mLkV RX1 72 MX1_leave 1 := ⟨m_in 604 (by decide +kernel) rfl, m_in 606 (by decide +kernel) rfl, m_in 26 (by decide +kernel) rfl, rfl, lkMX1_leave⟩
set_option maxRecDepth 100000 in
theorem lkRX1_76 : mLkV RX1 76 MX1_heightOf 1 := ⟨m_in 616 (by decide +kernel) rfl, m_in 618 (by decide +kernel) rfl, m_in 27 (by decide +kernel) rfl, rfl, lkMX1_heightOf⟩
set_option maxRecDepth 100000 in
theorem lkRX1_80 : mLkS RX1 80 MX1_isBoat 1 := ⟨m_in 624 (by decide +kernel) rfl, m_in 625 (by decide +kernel) rfl, lkMX1_isBoat⟩
set_option maxRecDepth 100000 in
theorem lkRX1_83 : mLkV RX1 83 MX1_lieIn 1 := ⟨m_in 627 (by decide +kernel) rfl, m_in 629 (by decide +kernel) rfl, m_in 28 (by decide +kernel) rfl, rfl, lkMX1_lieIn⟩
set_option maxRecDepth 100000 in
theorem lkRX1_89 : mLkV RX1 89 MX1_levels 1 := ⟨m_in 639 (by decide +kernel) rfl, m_in 641 (by decide +kernel) rfl, m_in 29 (by decide +kernel) rfl, rfl, lkMX1_levels⟩
set_option maxRecDepth 100000 in
theorem lkRX1_92 : mLkV RX1 92 MX1_passes 2 := ⟨m_in 647 (by decide +kernel) rfl, m_in 649 (by decide +kernel) rfl, m_in 30 (by decide +kernel) rfl, rfl, lkMX1_passes⟩
set_option maxRecDepth 100000 in
theorem lkRX1_99 : mLkV RX1 99 MX1_flies 2 := ⟨m_in 655 (by decide +kernel) rfl, m_in 657 (by decide +kernel) rfl, m_in 31 (by decide +kernel) rfl, rfl, lkMX1_flies⟩
set_option maxRecDepth 100000 in
theorem lkRX1_103 : mLkV RX1 103 MX1_dug 0 := ⟨m_in 687 (by decide +kernel) rfl, m_in 689 (by decide +kernel) rfl, m_in 32 (by decide +kernel) rfl, rfl, lkMX1_dug⟩
set_option maxRecDepth 100000 in
theorem lkRL_7 : mLkV RL 7 MX0_dig 2 := ⟨m_in 227 (by decide +kernel) rfl, m_in 228 (by decide +kernel) rfl, m_in 229 (by decide +kernel) rfl, rfl, lkMX0_dig⟩
set_option maxRecDepth 100000 in
theorem lkRL_17 : mLkV RL 17 MX0_fill 1 := ⟨m_in 285 (by decide +kernel) rfl, m_in 286 (by decide +kernel) rfl, m_in 287 (by decide +kernel) rfl, rfl, lkMX0_fill⟩
set_option maxRecDepth 100000 in
theorem lkRL_23 : mLkV RL 23 MX0_pour 2 := ⟨m_in 361 (by decide +kernel) rfl, m_in 362 (by decide +kernel) rfl, m_in 363 (by decide +kernel) rfl, rfl, lkMX0_pour⟩
set_option maxRecDepth 100000 in
theorem lkRL_26 : mLkV RL 26 MX0_draw 2 := ⟨m_in 375 (by decide +kernel) rfl, m_in 376 (by decide +kernel) rfl, m_in 377 (by decide +kernel) rfl, rfl, lkMX0_draw⟩
set_option maxRecDepth 100000 in
theorem lkRL_29 : mLkV RL 29 MX0_boat 3 := ⟨m_in 391 (by decide +kernel) rfl, m_in 392 (by decide +kernel) rfl, m_in 393 (by decide +kernel) rfl, rfl, lkMX0_boat⟩
set_option maxRecDepth 100000 in
theorem lkRL_35 : mLkV RL 35 MX0_gate 2 := ⟨m_in 406 (by decide +kernel) rfl, m_in 407 (by decide +kernel) rfl, m_in 408 (by decide +kernel) rfl, rfl, lkMX0_gate⟩
set_option maxRecDepth 100000 in
theorem lkRL_38 : mLkV RL 38 MX0_level 1 := ⟨m_in 419 (by decide +kernel) rfl, m_in 420 (by decide +kernel) rfl, m_in 421 (by decide +kernel) rfl, rfl, lkMX0_level⟩
set_option maxRecDepth 100000 in
theorem lkRL_45 : mLkV RL 45 MX0_pass 2 := ⟨m_in 441 (by decide +kernel) rfl, m_in 442 (by decide +kernel) rfl, m_in 443 (by decide +kernel) rfl, rfl, lkMX0_pass⟩
set_option maxRecDepth 100000 in
theorem lkRL_49 : mLkV RL 49 MX0_flight 2 := ⟨m_in 457 (by decide +kernel) rfl, m_in 458 (by decide +kernel) rfl, m_in 459 (by decide +kernel) rfl, rfl, lkMX0_flight⟩
set_option maxRecDepth 100000 in
theorem lkRL_52 : mLkV RL 52 MX0_trip 2 := ⟨m_in 468 (by decide +kernel) rfl, m_in 469 (by decide +kernel) rfl, m_in 470 (by decide +kernel) rfl, rfl, lkMX0_trip⟩
set_option maxRecDepth 100000 in
theorem lkRL_55 : mLkV RL 55 MX0_convoy 2 := ⟨m_in 475 (by decide +kernel) rfl, m_in 476 (by decide +kernel) rfl, m_in 477 (by decide +kernel) rfl, rfl, lkMX0_convoy⟩
set_option maxRecDepth 100000 in
theorem lkRL_58 : mLkV RL 58 MX0_share 2 := ⟨m_in 490 (by decide +kernel) rfl, m_in 491 (by decide +kernel) rfl, m_in 492 (by decide +kernel) rfl, rfl, lkMX0_share⟩
set_option maxRecDepth 100000 in
theorem lkRL_61 : mLkV RL 61 MX0_pool 2 := ⟨m_in 505 (by decide +kernel) rfl, m_in 506 (by decide +kernel) rfl, m_in 507 (by decide +kernel) rfl, rfl, lkMX0_pool⟩
set_option maxRecDepth 100000 in
theorem lkRL_64 : mLkV RL 64 MX0_where 1 := ⟨m_in 513 (by decide +kernel) rfl, m_in 514 (by decide +kernel) rfl, m_in 515 (by decide +kernel) rfl, rfl, lkMX0_where⟩
set_option maxRecDepth 100000 in
theorem lkRL_67 : mLkI RL 67 MX0_init 0 := ⟨m_in 51 (by decide +kernel) rfl, m_in 52 (by decide +kernel) rfl, rfl, rfl, rfl, lkMX0_init⟩
set_option maxRecDepth 100000 in
theorem lkRL_70 : mLkI RL 70 MX1_init 0 := ⟨m_in 519 (by decide +kernel) rfl, m_in 520 (by decide +kernel) rfl, rfl, rfl, rfl, lkMX1_init⟩
set_option maxRecDepth 100000 in
theorem lkRL_71 : mLkS RL 71 ML_dig 4 := ⟨m_in 134 (by decide +kernel) rfl, m_in 135 (by decide +kernel) rfl, lkML_dig⟩
set_option maxRecDepth 100000 in
theorem lkRL_76 : mLkV RL 76 MX1_dig 2 := ⟨m_in 578 (by decide +kernel) rfl, m_in 579 (by decide +kernel) rfl, m_in 580 (by decide +kernel) rfl, rfl, lkMX1_dig⟩
set_option maxRecDepth 100000 in
theorem lkRL_77 : mLkV RL 77 MX1_thrown 0 := ⟨m_in 574 (by decide +kernel) rfl, m_in 575 (by decide +kernel) rfl, m_in 576 (by decide +kernel) rfl, rfl, lkMX1_thrown⟩
set_option maxRecDepth 100000 in
theorem lkRL_81 : mLkS RL 81 ML_fill 3 := ⟨m_in 256 (by decide +kernel) rfl, m_in 257 (by decide +kernel) rfl, lkML_fill⟩
set_option maxRecDepth 100000 in
theorem lkRL_84 : mLkV RL 84 MX1_fill 1 := ⟨m_in 588 (by decide +kernel) rfl, m_in 589 (by decide +kernel) rfl, m_in 590 (by decide +kernel) rfl, rfl, lkMX1_fill⟩
set_option maxRecDepth 100000 in
theorem lkRL_85 : mLkS RL 85 ML_pour 4 := ⟨m_in 358 (by decide +kernel) rfl, m_in 359 (by decide +kernel) rfl, lkML_pour⟩
set_option maxRecDepth 100000 in
theorem lkRL_87 : mLkV RL 87 MX1_pour 2 := ⟨m_in 608 (by decide +kernel) rfl, m_in 609 (by decide +kernel) rfl, m_in 610 (by decide +kernel) rfl, rfl, lkMX1_pour⟩
set_option maxRecDepth 100000 in
theorem lkRL_88 : mLkS RL 88 ML_draw 4 := ⟨m_in 372 (by decide +kernel) rfl, m_in 373 (by decide +kernel) rfl, lkML_draw⟩
set_option maxRecDepth 100000 in
theorem lkRL_90 : mLkV RL 90 MX1_draw 2 := ⟨m_in 612 (by decide +kernel) rfl, m_in 613 (by decide +kernel) rfl, m_in 614 (by decide +kernel) rfl, rfl, lkMX1_draw⟩
set_option maxRecDepth 100000 in
theorem lkRL_91 : mLkS RL 91 ML_boat 5 := ⟨m_in 387 (by decide +kernel) rfl, m_in 388 (by decide +kernel) rfl, lkML_boat⟩
set_option maxRecDepth 100000 in
theorem lkRL_94 : mLkV RL 94 MX1_boat 3 := ⟨m_in 620 (by decide +kernel) rfl, m_in 621 (by decide +kernel) rfl, m_in 622 (by decide +kernel) rfl, rfl, lkMX1_boat⟩
set_option maxRecDepth 100000 in
theorem lkRL_95 : mLkS RL 95 ML_gate 4 := ⟨m_in 403 (by decide +kernel) rfl, m_in 404 (by decide +kernel) rfl, lkML_gate⟩
set_option maxRecDepth 100000 in
theorem lkRL_97 : mLkV RL 97 MX1_gate 2 := ⟨m_in 631 (by decide +kernel) rfl, m_in 632 (by decide +kernel) rfl, m_in 633 (by decide +kernel) rfl, rfl, lkMX1_gate⟩
set_option maxRecDepth 100000 in
theorem lkRL_98 : mLkS RL 98 ML_level 3 := ⟨m_in 414 (by decide +kernel) rfl, m_in 415 (by decide +kernel) rfl, lkML_level⟩
set_option maxRecDepth 100000 in
theorem lkRL_100 : mLkV RL 100 MX1_level 1 := ⟨m_in 635 (by decide +kernel) rfl, m_in 636 (by decide +kernel) rfl, m_in 637 (by decide +kernel) rfl, rfl, lkMX1_level⟩
set_option maxRecDepth 100000 in
theorem lkRL_101 : mLkS RL 101 ML_pass 4 := ⟨m_in 438 (by decide +kernel) rfl, m_in 439 (by decide +kernel) rfl, lkML_pass⟩
set_option maxRecDepth 100000 in
theorem lkRL_104 : mLkV RL 104 MX1_pass 2 := ⟨m_in 643 (by decide +kernel) rfl, m_in 644 (by decide +kernel) rfl, m_in 645 (by decide +kernel) rfl, rfl, lkMX1_pass⟩
set_option maxRecDepth 100000 in
theorem lkRL_105 : mLkS RL 105 ML_flight 4 := ⟨m_in 454 (by decide +kernel) rfl, m_in 455 (by decide +kernel) rfl, lkML_flight⟩
set_option maxRecDepth 100000 in
theorem lkRL_107 : mLkV RL 107 MX1_flight 2 := ⟨m_in 651 (by decide +kernel) rfl, m_in 652 (by decide +kernel) rfl, m_in 653 (by decide +kernel) rfl, rfl, lkMX1_flight⟩
set_option maxRecDepth 100000 in
theorem lkRL_108 : mLkS RL 108 ML_trip 4 := ⟨m_in 465 (by decide +kernel) rfl, m_in 466 (by decide +kernel) rfl, lkML_trip⟩
set_option maxRecDepth 100000 in
theorem lkRL_110 : mLkV RL 110 MX1_trip 2 := ⟨m_in 659 (by decide +kernel) rfl, m_in 660 (by decide +kernel) rfl, m_in 661 (by decide +kernel) rfl, rfl, lkMX1_trip⟩
set_option maxRecDepth 100000 in
theorem lkRL_111 : mLkS RL 111 ML_convoy 4 := ⟨m_in 472 (by decide +kernel) rfl, m_in 473 (by decide +kernel) rfl, lkML_convoy⟩
set_option maxRecDepth 100000 in
theorem lkRL_113 : mLkV RL 113 MX1_convoy 2 := ⟨m_in 663 (by decide +kernel) rfl, m_in 664 (by decide +kernel) rfl, m_in 665 (by decide +kernel) rfl, rfl, lkMX1_convoy⟩
set_option maxRecDepth 100000 in
theorem lkRL_114 : mLkS RL 114 ML_share 4 := ⟨m_in 487 (by decide +kernel) rfl, m_in 488 (by decide +kernel) rfl, lkML_share⟩
set_option maxRecDepth 100000 in
theorem lkRL_116 : mLkV RL 116 MX1_share 2 := ⟨m_in 667 (by decide +kernel) rfl, m_in 668 (by decide +kernel) rfl, m_in 669 (by decide +kernel) rfl, rfl, lkMX1_share⟩
set_option maxRecDepth 100000 in
theorem lkRL_117 : mLkV RL 117 MX0_first 1 := ⟨m_in 96 (by decide +kernel) rfl, m_in 97 (by decide +kernel) rfl, m_in 98 (by decide +kernel) rfl, rfl, lkMX0_first⟩
set_option maxRecDepth 100000 in
theorem lkRL_120 : mLkV RL 120 MX1_first 1 := ⟨m_in 671 (by decide +kernel) rfl, m_in 672 (by decide +kernel) rfl, m_in 673 (by decide +kernel) rfl, rfl, lkMX1_first⟩
set_option maxRecDepth 100000 in
theorem lkRL_121 : mLkS RL 121 ML_pool 4 := ⟨m_in 502 (by decide +kernel) rfl, m_in 503 (by decide +kernel) rfl, lkML_pool⟩
set_option maxRecDepth 100000 in
theorem lkRL_123 : mLkV RL 123 MX1_pool 2 := ⟨m_in 675 (by decide +kernel) rfl, m_in 676 (by decide +kernel) rfl, m_in 677 (by decide +kernel) rfl, rfl, lkMX1_pool⟩
set_option maxRecDepth 100000 in
theorem lkRL_124 : mLkS RL 124 ML_where 3 := ⟨m_in 510 (by decide +kernel) rfl, m_in 511 (by decide +kernel) rfl, lkML_where⟩
set_option maxRecDepth 100000 in
theorem lkRL_126 : mLkV RL 126 MX1_where 1 := ⟨m_in 679 (by decide +kernel) rfl, m_in 680 (by decide +kernel) rfl, m_in 681 (by decide +kernel) rfl, rfl, lkMX1_where⟩
set_option maxRecDepth 100000 in
theorem lkRL_127 : mLkV RL 127 MX0_told 1 := ⟨m_in 119 (by decide +kernel) rfl, m_in 120 (by decide +kernel) rfl, m_in 121 (by decide +kernel) rfl, rfl, lkMX0_told⟩
set_option maxRecDepth 100000 in
theorem lkRL_130 : mLkV RL 130 MX1_told_ 1 := ⟨m_in 683 (by decide +kernel) rfl, m_in 684 (by decide +kernel) rfl, m_in 685 (by decide +kernel) rfl, rfl, lkMX1_told_⟩
set_option maxRecDepth 100000 in
theorem lkRL_131 : mLkV RL 131 MX0_clear 0 := ⟨m_in 130 (by decide +kernel) rfl, m_in 131 (by decide +kernel) rfl, m_in 132 (by decide +kernel) rfl, rfl, lkMX0_clear⟩
set_option maxRecDepth 100000 in
theorem lkRL_134 : mLkV RL 134 MX1_clear 0 := ⟨m_in 691 (by decide +kernel) rfl, m_in 692 (by decide +kernel) rfl, m_in 693 (by decide +kernel) rfl, rfl, lkMX1_clear⟩
set_option maxRecDepth 100000 in
theorem inRX0 : ∀ w ∈ u_ws RX0 TX0 10, w ∈ mTW := by
  have h : u_ws RX0 TX0 10 = [74, 76, 78, 80, 82, 84, 86, 88, 90, 92].filterMap (fun i => lw_tbl[i]?) := by decide +kernel
  have hg : (u_ws RX0 TX0 10).all goodWord = true := by decide +kernel
  intro w hw
  have hg9 := List.all_eq_true.mp hg w hw
  rw [h] at hw
  obtain ⟨i, -, hi⟩ := List.mem_filterMap.mp hw
  exact List.mem_filter.mpr ⟨List.mem_of_getElem? hi, hg9⟩
set_option maxRecDepth 100000 in
theorem inRX1 : ∀ w ∈ u_ws RX1 TX1 15, w ∈ mTW := by
  have h : u_ws RX1 TX1 15 = [542, 544, 546, 548, 550, 552, 554, 556, 558, 560, 562, 564, 566, 568, 570].filterMap (fun i => lw_tbl[i]?) := by decide +kernel
  have hg : (u_ws RX1 TX1 15).all goodWord = true := by decide +kernel
  intro w hw
  have hg9 := List.all_eq_true.mp hg w hw
  rw [h] at hw
  obtain ⟨i, -, hi⟩ := List.mem_filterMap.mp hw
  exact List.mem_filter.mpr ⟨List.mem_of_getElem? hi, hg9⟩
theorem lfRX0_9 : mLkF RX0 9 0 0 := ⟨RX0, TX0, 10, tyX0, rfl, by decide, m_in 64 (by decide +kernel) rfl, inRX0, tyX0_ok, nmX0, rfl⟩
theorem lfRX0_13 : mLkF RX0 13 0 1 := ⟨RX0, TX0, 10, tyX0, rfl, by decide, m_in 65 (by decide +kernel) rfl, inRX0, tyX0_ok, nmX0, rfl⟩
theorem lfRX0_16 : mLkF RX0 16 0 2 := ⟨RX0, TX0, 10, tyX0, rfl, by decide, m_in 66 (by decide +kernel) rfl, inRX0, tyX0_ok, nmX0, rfl⟩
theorem lfRX0_19 : mLkF RX0 19 0 3 := ⟨RX0, TX0, 10, tyX0, rfl, by decide, m_in 67 (by decide +kernel) rfl, inRX0, tyX0_ok, nmX0, rfl⟩
theorem lfRX0_22 : mLkF RX0 22 0 4 := ⟨RX0, TX0, 10, tyX0, rfl, by decide, m_in 68 (by decide +kernel) rfl, inRX0, tyX0_ok, nmX0, rfl⟩
theorem lfRX0_25 : mLkF RX0 25 0 5 := ⟨RX0, TX0, 10, tyX0, rfl, by decide, m_in 69 (by decide +kernel) rfl, inRX0, tyX0_ok, nmX0, rfl⟩
theorem lfRX0_28 : mLkF RX0 28 0 6 := ⟨RX0, TX0, 10, tyX0, rfl, by decide, m_in 70 (by decide +kernel) rfl, inRX0, tyX0_ok, nmX0, rfl⟩
theorem lfRX0_130 : mLkF RX0 130 0 9 := ⟨RX0, TX0, 10, tyX0, rfl, by decide, m_in 73 (by decide +kernel) rfl, inRX0, tyX0_ok, nmX0, rfl⟩
theorem lfRX0_134 : mLkF RX0 134 0 8 := ⟨RX0, TX0, 10, tyX0, rfl, by decide, m_in 72 (by decide +kernel) rfl, inRX0, tyX0_ok, nmX0, rfl⟩
theorem lfRX0_173 : mLkF RX0 173 0 7 := ⟨RX0, TX0, 10, tyX0, rfl, by decide, m_in 71 (by decide +kernel) rfl, inRX0, tyX0_ok, nmX0, rfl⟩
theorem lfRX1_7 : mLkF RX1 7 1 1 := ⟨RX1, TX1, 15, tyX1, rfl, by decide, m_in 528 (by decide +kernel) rfl, inRX1, tyX1_ok, nmX1, rfl⟩
theorem lfRX1_13 : mLkF RX1 13 1 2 := ⟨RX1, TX1, 15, tyX1, rfl, by decide, m_in 529 (by decide +kernel) rfl, inRX1, tyX1_ok, nmX1, rfl⟩
theorem lfRX1_17 : mLkF RX1 17 1 3 := ⟨RX1, TX1, 15, tyX1, rfl, by decide, m_in 530 (by decide +kernel) rfl, inRX1, tyX1_ok, nmX1, rfl⟩
theorem lfRX1_20 : mLkF RX1 20 1 4 := ⟨RX1, TX1, 15, tyX1, rfl, by decide, m_in 531 (by decide +kernel) rfl, inRX1, tyX1_ok, nmX1, rfl⟩
theorem lfRX1_23 : mLkF RX1 23 1 5 := ⟨RX1, TX1, 15, tyX1, rfl, by decide, m_in 532 (by decide +kernel) rfl, inRX1, tyX1_ok, nmX1, rfl⟩
theorem lfRX1_26 : mLkF RX1 26 1 6 := ⟨RX1, TX1, 15, tyX1, rfl, by decide, m_in 533 (by decide +kernel) rfl, inRX1, tyX1_ok, nmX1, rfl⟩
theorem lfRX1_29 : mLkF RX1 29 1 7 := ⟨RX1, TX1, 15, tyX1, rfl, by decide, m_in 534 (by decide +kernel) rfl, inRX1, tyX1_ok, nmX1, rfl⟩
theorem lfRX1_32 : mLkF RX1 32 1 8 := ⟨RX1, TX1, 15, tyX1, rfl, by decide, m_in 535 (by decide +kernel) rfl, inRX1, tyX1_ok, nmX1, rfl⟩
theorem lfRX1_38 : mLkF RX1 38 1 0 := ⟨RX1, TX1, 15, tyX1, rfl, by decide, m_in 527 (by decide +kernel) rfl, inRX1, tyX1_ok, nmX1, rfl⟩
theorem lfRX1_42 : mLkF RX1 42 1 9 := ⟨RX1, TX1, 15, tyX1, rfl, by decide, m_in 536 (by decide +kernel) rfl, inRX1, tyX1_ok, nmX1, rfl⟩
theorem lfRX1_45 : mLkF RX1 45 1 10 := ⟨RX1, TX1, 15, tyX1, rfl, by decide, m_in 537 (by decide +kernel) rfl, inRX1, tyX1_ok, nmX1, rfl⟩
theorem lfRX1_48 : mLkF RX1 48 1 11 := ⟨RX1, TX1, 15, tyX1, rfl, by decide, m_in 538 (by decide +kernel) rfl, inRX1, tyX1_ok, nmX1, rfl⟩
theorem lfRX1_51 : mLkF RX1 51 1 12 := ⟨RX1, TX1, 15, tyX1, rfl, by decide, m_in 539 (by decide +kernel) rfl, inRX1, tyX1_ok, nmX1, rfl⟩
theorem lfRX1_86 : mLkF RX1 86 1 13 := ⟨RX1, TX1, 15, tyX1, rfl, by decide, m_in 540 (by decide +kernel) rfl, inRX1, tyX1_ok, nmX1, rfl⟩
theorem lfRX1_96 : mLkF RX1 96 1 14 := ⟨RX1, TX1, 15, tyX1, rfl, by decide, m_in 541 (by decide +kernel) rfl, inRX1, tyX1_ok, nmX1, rfl⟩
theorem lnRX0 : mLkN RL 8 0 [.null, .null, .null, .null, .null, .null, .null, .int 0, .int 0, .int 0] 10 := ⟨RX0, TX0, tyX0, rfl, inRX0, tyX0_ok, m_in 49 (by decide +kernel) rfl, m_in 50 (by decide +kernel) rfl, m_in 34 (by decide +kernel) rfl, by decide +kernel, fun _ => rfl⟩
theorem lnRX1 : mLkN RL 68 1 [.int 0, .null, .null, .null, .null, .null, .null, .null, .null, .int 0, .int 0, .int 0, .int 0, .int 0, .int 0] 15 := ⟨RX1, TX1, tyX1, rfl, inRX1, tyX1_ok, m_in 517 (by decide +kernel) rfl, m_in 518 (by decide +kernel) rfl, m_in 36 (by decide +kernel) rfl, by decide +kernel, fun _ => rfl⟩
theorem loRX0 : Cond.methodLink RX0 3 objectInit ∈ mTW := m_in 54 (by decide +kernel) rfl
theorem loRX1 : Cond.methodLink RX1 1 objectInit ∈ mTW := m_in 522 (by decide +kernel) rfl
theorem loI : Cond.instanceMethod objectInit ∈ mTW := m_in 55 (by decide +kernel) rfl
theorem loC : Cond.code objectInit ⟨#[0xb1]⟩ 1 none ∈ mTW := m_in 56 (by decide +kernel) rfl
theorem la_int : Cond.arrayClass .int ∈ mTW := m_in 95 (by decide +kernel) rfl
theorem la_byte : Cond.arrayClass .byte ∈ mTW := m_in 221 (by decide +kernel) rfl
theorem la_boolean : Cond.arrayClass .boolean ∈ mTW := m_in 573 (by decide +kernel) rfl
theorem la_long : Cond.arrayClass .long ∈ mTW := m_in 695 (by decide +kernel) rfl
theorem lm176 : Cond.methodLink RX0 176 Lib.Math.max.name ∈ mTW ∧ Cond.static Lib.Math.max.name ∈ mTW ∧ Cond.initialized "java/lang/Math" ∈ mTW ∧ Cond.code Lib.Math.max.name Lib.Math.max.code 2 (some .int) ∈ mTW := ⟨m_in 108 (by decide +kernel) rfl, m_in 109 (by decide +kernel) rfl, m_in 45 (by decide +kernel) rfl, m_in 110 (by decide +kernel) rfl⟩
theorem lm187 : Cond.methodLink RX0 187 Lib.Math.min.name ∈ mTW ∧ Cond.static Lib.Math.min.name ∈ mTW ∧ Cond.initialized "java/lang/Math" ∈ mTW ∧ Cond.code Lib.Math.min.name Lib.Math.min.code 2 (some .int) ∈ mTW := ⟨m_in 369 (by decide +kernel) rfl, m_in 370 (by decide +kernel) rfl, m_in 45 (by decide +kernel) rfl, m_in 371 (by decide +kernel) rfl⟩
theorem lm181 : Cond.methodLink RX0 181 Lib.Math.abs.name ∈ mTW ∧ Cond.static Lib.Math.abs.name ∈ mTW ∧ Cond.initialized "java/lang/Math" ∈ mTW ∧ Cond.code Lib.Math.abs.name Lib.Math.abs.code 1 (some .int) ∈ mTW := ⟨m_in 431 (by decide +kernel) rfl, m_in 432 (by decide +kernel) rfl, m_in 45 (by decide +kernel) rfl, m_in 433 (by decide +kernel) rfl⟩
theorem lm190 : Cond.methodLink RX0 190 Lib.MathLoose.min_long.x ∈ mTW ∧ Cond.static Lib.MathLoose.min_long.x ∈ mTW ∧ Cond.initialized "java/lang/Math" ∈ mTW ∧ Cond.code Lib.MathLoose.min_long.x Lib.MathLoose.min_long.code 4 (some .long) ∈ mTW := ⟨m_in 384 (by decide +kernel) rfl, m_in 385 (by decide +kernel) rfl, m_in 45 (by decide +kernel) rfl, m_in 386 (by decide +kernel) rfl⟩
theorem lc59 : Cond.constant RX0 59 2147483647 ∈ mTW := m_in 379 (by decide +kernel) rfl
end
section
/-! ROWS OF THE SMALL MACHINE: Math -/
section MRM
variable {S : Nat × (Nat → Int32)} {M : mM} {pc k n : Nat} {L : List (Option Value)} {st : List Value} {h : mH} {r : mR}
theorem mr_mmax {x y : Int32} (hf : mAt M pc = some (.invokestatic 176, 3)) (ho : M.1.cls = RX0) (hfr : 1 ≤ M.2.2.2.2.2.1) (hlo : (st.map fun v => v.category).sum + 15 ≤ M.2.2.2.2.2.2.1) (hk' : k ≤ r.2.2.1) (hn' : n ≤ r.2.2.2) (k9 : mF S M (pc + 3) L (.int (if x < y then y else x) :: st) h k n r) : mF S M pc L (.int y :: .int x :: st) h k n r := by
  intro N0 b sa D cy a0 z0 p l e R s m args below meth c C hk hn ad H locs ls X
  refine va_mmax C.1 C.2.1 (C.2.2.2.2.2.1.trans X.2.2.2.1.1.symm) (own := RX0) (by rw [← ho]; exact C.own) (C.ts _ lm176.1) (C.ts _ lm176.2.1) (C.ts _ lm176.2.2.1) (C.ts _ lm176.2.2.2) (Nat.le_trans hfr C.2.2.2.2.2.2.2.2.2.2.2.2.2.1) ?_ (Nat.le_trans hk' hk) (Nat.le_trans hn' hn) (mAt_dec C.2.2.1 hf) (k9 N0 b sa D cy a0 z0 p l e R s m args below meth c C hk hn ad H locs ls X)
  rw [m_sum]
  have := C.2.2.2.2.2.2.2.2.2.2.2.2.2.2
  omega
theorem mr_mmin {x y : Int32} (hf : mAt M pc = some (.invokestatic 187, 3)) (ho : M.1.cls = RX0) (hfr : 1 ≤ M.2.2.2.2.2.1) (hlo : (st.map fun v => v.category).sum + 15 ≤ M.2.2.2.2.2.2.1) (hk' : k ≤ r.2.2.1) (hn' : n ≤ r.2.2.2) (k9 : mF S M (pc + 3) L (.int (if y < x then y else x) :: st) h k n r) : mF S M pc L (.int y :: .int x :: st) h k n r := by
  intro N0 b sa D cy a0 z0 p l e R s m args below meth c C hk hn ad H locs ls X
  refine va_mmin C.1 C.2.1 (C.2.2.2.2.2.1.trans X.2.2.2.1.1.symm) (own := RX0) (by rw [← ho]; exact C.own) (C.ts _ lm187.1) (C.ts _ lm187.2.1) (C.ts _ lm187.2.2.1) (C.ts _ lm187.2.2.2) (Nat.le_trans hfr C.2.2.2.2.2.2.2.2.2.2.2.2.2.1) ?_ (Nat.le_trans hk' hk) (Nat.le_trans hn' hn) (mAt_dec C.2.2.1 hf) (k9 N0 b sa D cy a0 z0 p l e R s m args below meth c C hk hn ad H locs ls X)
  rw [m_sum]
  have := C.2.2.2.2.2.2.2.2.2.2.2.2.2.2
  omega
theorem mr_mabs {x : Int32} (hf : mAt M pc = some (.invokestatic 181, 3)) (ho : M.1.cls = RX0) (hfr : 1 ≤ M.2.2.2.2.2.1) (hlo : (st.map fun v => v.category).sum + 15 ≤ M.2.2.2.2.2.2.1) (hk' : k ≤ r.2.2.1) (hn' : n ≤ r.2.2.2) (k9 : mF S M (pc + 3) L (.int (if 0 ≤ x then x else 0 - x) :: st) h k n r) : mF S M pc L (.int x :: st) h k n r := by
  intro N0 b sa D cy a0 z0 p l e R s m args below meth c C hk hn ad H locs ls X
  refine va_mabs C.1 C.2.1 (C.2.2.2.2.2.1.trans X.2.2.2.1.1.symm) (own := RX0) (by rw [← ho]; exact C.own) (C.ts _ lm181.1) (C.ts _ lm181.2.1) (C.ts _ lm181.2.2.1) (C.ts _ lm181.2.2.2) (Nat.le_trans hfr C.2.2.2.2.2.2.2.2.2.2.2.2.2.1) ?_ (Nat.le_trans hk' hk) (Nat.le_trans hn' hn) (mAt_dec C.2.2.1 hf) (k9 N0 b sa D cy a0 z0 p l e R s m args below meth c C hk hn ad H locs ls X)
  rw [m_sum]
  have := C.2.2.2.2.2.2.2.2.2.2.2.2.2.2
  omega
theorem mr_lmin {x y : Int64} (hf : mAt M pc = some (.invokestatic 190, 3)) (ho : M.1.cls = RX0) (hfr : 1 ≤ M.2.2.2.2.2.1) (hlo : (st.map fun v => v.category).sum + 15 ≤ M.2.2.2.2.2.2.1) (hk' : k ≤ r.2.2.1) (hn' : n ≤ r.2.2.2) (k9 : mF S M (pc + 3) L (.long (if y < x then y else x) :: st) h k n r) : mF S M pc L (.long y :: .long x :: st) h k n r := by
  intro N0 b sa D cy a0 z0 p l e R s m args below meth c C hk hn ad H locs ls X
  refine va_mmin_long C.1 C.2.1 (C.2.2.2.2.2.1.trans X.2.2.2.1.1.symm) (own := RX0) (by rw [← ho]; exact C.own) (C.ts _ lm190.1) (C.ts _ lm190.2.1) (C.ts _ lm190.2.2.1) (C.ts _ lm190.2.2.2) (Nat.le_trans hfr C.2.2.2.2.2.2.2.2.2.2.2.2.2.1) ?_ (Nat.le_trans hk' hk) (Nat.le_trans hn' hn) (mAt_dec C.2.2.1 hf) (k9 N0 b sa D cy a0 z0 p l e R s m args below meth c C hk hn ad H locs ls X)
  rw [m_sum]
  have := C.2.2.2.2.2.2.2.2.2.2.2.2.2.2
  omega
end MRM
end
section
/-! THE WORDS OF THE THROWS -/
theorem m_thr {own : String} {ic : Nat} {E : String} {names : List String} (h : ((vx_atS own ic E names).all (fun w => decide (w = .castable E E) || (mDecl.any (fun q => decide (w = .declares q)) || (decide (w ∈ lw_tbl) && goodWord w)))) = true) : ∀ w ∈ vx_atS own ic E names, w = .castable E E ∨ (∃ q ∈ mDecl, w = .declares q) ∨ w ∈ mTW := by
  intro w hw
  have h1 := List.all_eq_true.mp h w hw
  simp only [Bool.or_eq_true, Bool.and_eq_true, decide_eq_true_eq, List.any_eq_true] at h1
  rcases h1 with h1 | h1 | h1
  · exact Or.inl h1
  · exact Or.inr (Or.inl h1)
  · exact Or.inr (Or.inr (List.mem_filter.mpr ⟨h1.1, h1.2⟩))
set_option maxRecDepth 100000 in
theorem atA : ∀ w ∈ vx_atS RX0 91 xA ["java/lang/IndexOutOfBoundsException", "java/lang/RuntimeException", "java/lang/Exception"], w = .castable xA xA ∨ (∃ q ∈ mDecl, w = .declares q) ∨ w ∈ mTW := m_thr (by decide +kernel)
set_option maxRecDepth 100000 in
theorem atI : ∀ w ∈ vx_atS RX0 109 xI ["java/lang/RuntimeException", "java/lang/Exception"], w = .castable xI xI ∨ (∃ q ∈ mDecl, w = .declares q) ∨ w ∈ mTW := m_thr (by decide +kernel)
set_option maxRecDepth 100000 in
theorem atSt : ∀ w ∈ vx_atS RX0 80 xS ["java/lang/RuntimeException", "java/lang/Exception"], w = .castable xS xS ∨ (∃ q ∈ mDecl, w = .declares q) ∨ w ∈ mTW := m_thr (by decide +kernel)
set_option maxRecDepth 100000 in
theorem atU : ∀ w ∈ vx_atS RX0 167 xU ["java/lang/RuntimeException", "java/lang/Exception"], w = .castable xU xU ∨ (∃ q ∈ mDecl, w = .declares q) ∨ w ∈ mTW := m_thr (by decide +kernel)
set_option maxRecDepth 100000 in
theorem atD : ∀ w ∈ vx_atS RX0 172 xD ["java/lang/RuntimeException", "java/lang/Exception"], w = .castable xD xD ∨ (∃ q ∈ mDecl, w = .declares q) ∨ w ∈ mTW := m_thr (by decide +kernel)
end
section
/-! 'throw new NullPointerException("..")': its own fillInStackTrace within Throwable's constructor with a message. The library has both, apart (ColdNpeFill, ColdFillAny, ColdInitSV, ColdChainS); here they are joined. -/
section NX
variable {self : Addr}
/-- room for NullPointerException's fillInStackTrace, Throwable's within it, the native one within that -/
theorem nx_rooms {e : Env} {X : State} {g : JFrame} (htop : X.topJava?.isSome) (T : ThrowableC) (N : NpeC) (cell : Cell) (t : ThreadId)
    {lim : Nat × Nat} (hlim : e.platform.stackLimits X.me = lim) (hframes : X.frames.length + 2 < lim.1) (hwords : (stackUse (.java g :: X.frames.tail)).2 + 43 ≤ lim.2) :
    e.platform.stackFull (((X.setTop g).threads[(X.setTop g).cur]?).getD { frames := [] }) (X.setTop g).frames (1 + 2) = false ∧
    e.platform.stackFull ((((npeInside X g N.toNpeT self cell).setTop (fillJ N.fill self 37 [])).threads[((npeInside X g N.toNpeT self cell).setTop (fillJ N.fill self 37 [])).cur]?).getD { frames := [] }) ((npeInside X g N.toNpeT self cell).setTop (fillJ N.fill self 37 [])).frames (1 + 2) = false ∧
    e.platform.stackFull ((((fillInside (npeInside X g N.toNpeT self cell) (fillJ N.fill self 37 []) T.fill self (npeCell N.toNpeT cell t)).setTop (fillJ T.fill self 16 [])).threads[((fillInside (npeInside X g N.toNpeT self cell) (fillJ N.fill self 37 []) T.fill self (npeCell N.toNpeT cell t)).setTop (fillJ T.fill self 16 [])).cur]?).getD { frames := [] }) ((fillInside (npeInside X g N.toNpeT self cell) (fillJ N.fill self 37 []) T.fill self (npeCell N.toNpeT cell t)).setTop (fillJ T.fill self 16 [])).frames (nativeFrameWords "java/lang/Throwable" "fillInStackTrace" 2) = false := by
  obtain ⟨g₀, hg⟩ := Option.isSome_iff_exists.mp htop
  obtain ⟨tl, htl⟩ := State.topJava?_eq_some.mp hg
  have hlen : X.frames.length = (Frame.java g :: X.frames.tail).length := by rw [htl]; rfl
  have hfg : (X.setTop g).frames = .java g :: X.frames.tail := by rw [State.frames_setTop _ htl, htl]; rfl
  have hlimg : e.platform.stackLimits (X.setTop g).me = lim := by rw [State.stackLimits_setTop _ htop]; exact hlim
  have htopE : (X.setCell self (cell.withEntry X.cur)).topJava?.isSome := htop
  have hfN : (npeInside X g N.toNpeT self cell).frames = .java (entryFrameSync N.fill #[.ref self] 1 self) :: .java g :: X.frames.tail := frames_entered (g := g) htopE _
  have htopN : (npeInside X g N.toNpeT self cell).topJava?.isSome := by rw [State.topJava?_of_frames hfN]; rfl
  have hlimN : e.platform.stackLimits (npeInside X g N.toNpeT self cell).me = lim := by
    show e.platform.stackLimits (fillInside X g N.fill self cell).me = lim
    rw [State.stackLimits_pushFrame, State.stackLimits_setTop _ htopE]; exact hlim
  have hw1 : (stackUse [Frame.java (fillJ N.fill self 37 [])]).2 = 14 := by
    rw [stackUse_java, stackUse_nil]; simp [operandWords]
  have htopE2 : ((npeInside X g N.toNpeT self cell).setCell self ((npeCell N.toNpeT cell t).withEntry (npeInside X g N.toNpeT self cell).cur)).topJava?.isSome := by rw [State.topJava?_setCell]; exact htopN
  have hfF : (fillInside (npeInside X g N.toNpeT self cell) (fillJ N.fill self 37 []) T.fill self (npeCell N.toNpeT cell t)).frames = .java (entryFrameSync T.fill #[.ref self] 1 self) :: .java (fillJ N.fill self 37 []) :: .java g :: X.frames.tail := by
    rw [show (fillInside (npeInside X g N.toNpeT self cell) (fillJ N.fill self 37 []) T.fill self (npeCell N.toNpeT cell t)).frames = _ from frames_entered (g := fillJ N.fill self 37 []) htopE2 _]
    show _ :: _ :: ((npeInside X g N.toNpeT self cell).frames).tail = _
    rw [hfN]; rfl
  have htopF : (fillInside (npeInside X g N.toNpeT self cell) (fillJ N.fill self 37 []) T.fill self (npeCell N.toNpeT cell t)).topJava?.isSome := by rw [State.topJava?_of_frames hfF]; rfl
  have hlimF : e.platform.stackLimits (fillInside (npeInside X g N.toNpeT self cell) (fillJ N.fill self 37 []) T.fill self (npeCell N.toNpeT cell t)).me = lim := by
    rw [State.stackLimits_pushFrame, State.stackLimits_setTop _ htopE2]; exact hlimN
  have hw2 : (stackUse [Frame.java (fillJ T.fill self 16 []), Frame.java (fillJ N.fill self 37 [])]).2 = 28 := by
    rw [stackUse_java, hw1]; simp [operandWords]
  refine ⟨roomAbove (pushed := []) (base := .java g :: X.frames.tail) (free := 43) (lim := lim) hfg hlimg (by rw [← hlen]; simp only [List.length_nil]; omega) hwords (by simp only [stackUse_nil]; omega), ?_, ?_⟩
  · exact roomAbove (pushed := [.java (fillJ N.fill self 37 [])]) (base := .java g :: X.frames.tail) (free := 43) (lim := lim) (State.frames_setTop _ hfN) (by rw [State.stackLimits_setTop _ htopN]; exact hlimN)
      (by rw [← hlen]; simp only [List.length_cons, List.length_nil]; omega) hwords (by rw [hw1]; omega)
  · exact roomAbove (pushed := [.java (fillJ T.fill self 16 []), .java (fillJ N.fill self 37 [])]) (base := .java g :: X.frames.tail) (free := 43) (lim := lim) (State.frames_setTop _ hfF) (by rw [State.stackLimits_setTop _ htopF]; exact hlimF)
      (by rw [← hlen]; simp only [List.length_cons, List.length_nil]; omega) hwords (by rw [hw2]; decide)
/-- NullPointerException's fillInStackTrace, its first call, no traces: in and out -/
theorem nx_fill (p : Program) {e : Env} {below : List Frame} {s₀ X : State} {g : JFrame} {c : Code} (h : At X g.method c below) (hexec : p.tables.exec = Jvm.exec) (htr : e.platform.stackTraces = false)
    (T : ThrowableC) (L : T.Links e.platform s₀) (N : NpeC) (LN : N.Links T e.platform s₀) (hW : s₀.WarmedH X.vm) {t : ThreadId} (ht : X.cur = t)
    {u0 : RefV} {cell cellS : Cell} {kcell : Class}
    (hcell : X.heap[self]? = some cell) (hobj : ∀ k, cell.vm ≠ .statics k) (hknown : cell.vm ≠ .unknown) (hfree : cell.monitor.owner = none)
    (hkcell : s₀.vm.classes[cell.cls]? = some kcell) (hsel0 : selectMethod e.platform s₀.vm cell.cls T.fill0 = .method T.fill0)
    (hcellS : X.heap[T.aS]? = some cellS) (hneS : T.aS ≠ self) (hknownS : cellS.vm ≠ .unknown) (hvU : cellS.slots[T.fUnassigned.slot]? = some u0.v)
    (hv0 : cell.slots[N.fState.slot]? = some (.int 0)) (hvS : cell.slots[T.fStack.slot]? = some u0.v) (hneSt : T.fStack.slot ≠ N.fState.slot)
    (htS : Takes s₀ cell T.fStack u0.v) (ht1 : Takes s₀ cell N.fState (.int 1))
    (hskip : SkipFacts T e.platform s₀ (fun u => u) u0 ((npeCell N.toNpeT cell t).withEntry t))
    {lim : Nat × Nat} (hlim : e.platform.stackLimits X.me = lim) (hframes : X.frames.length + 2 < lim.1) (hwords : (stackUse (.java g :: X.frames.tail)).2 + 43 ≤ lim.2)
    {ig : Instr} {len : Nat} (hdg : decode c.code g.pc = .ok (ig, len)) :
    ∃ vm', s₀.WarmedH vm' ∧ ∀ target, Steps p.tables e below (((X.setVm vm').setCell self ((((npeCell N.toNpeT cell t).withEntry t).setSlot T.fStack.slot u0.v).left).left).setTop { g with pc := g.pc + len, stack := .ref self :: g.stack }) target →
      Steps p.tables e below (doInvoke e (X.setTop g) [] N.fill #[.ref self]).1 target := by
  have hlt : self < X.heap.size := (Array.getElem?_eq_some_iff.mp hcell).1
  have hheld : ((npeCell N.toNpeT cell t).withEntry t).left = npeCell N.toNpeT cell t := Cell.left_withEntry_held _ rfl (by show 0 < cell.monitor.count + 1; omega)
  have hFmon : ((((npeCell N.toNpeT cell t).withEntry t).setSlot T.fStack.slot u0.v).left).monitor = (npeCell N.toNpeT cell t).monitor := by
    rw [Cell.left_monitor_congr (y := (npeCell N.toNpeT cell t).withEntry t) (show (((npeCell N.toNpeT cell t).withEntry t).setSlot T.fStack.slot u0.v).monitor = _ from rfl), hheld]
  have hvSN : (npeCell N.toNpeT cell t).slots[T.fStack.slot]? = some u0.v := by
    simp [npeCell, Cell.setSlot, Cell.withEntry, Ne.symm hneSt, hvS]
  have htSN : Takes s₀ (npeCell N.toNpeT cell t) T.fStack u0.v := ⟨by simpa [npeCell, Cell.setSlot, Cell.withEntry] using htS.1, htS.2⟩
  have hinner : ∀ vm1, s₀.WarmedH vm1 → At (npeInside (X.setVm vm1) g N.toNpeT self cell) N.fill N.codeFill below → ∃ vm2, s₀.WarmedH vm2 ∧ ∀ t' : State,
      Steps p.tables e below (((npeInside (X.setVm vm2) g N.toNpeT self cell).setCell self ((((npeCell N.toNpeT cell t).withEntry t).setSlot T.fStack.slot u0.v).left)).setTop (fillJ N.fill self 40 [.ref self])) t' →
      Steps p.tables e below (doInvoke e ((npeInside (X.setVm vm1) g N.toNpeT self cell).setTop (fillJ N.fill self 37 [])) [] T.fill #[.ref self]).1 t' := by
    intro vm1 hW1 hB
    have hc1 : (npeInside (X.setVm vm1) g N.toNpeT self cell).heap[self]? = some (npeCell N.toNpeT cell t) := by
      rw [← ht]
      exact heapAt_setCell_self _ (by show self < (X.heap.setIfInBounds self _).size; simpa using hlt)
    have hc2 : (npeInside (X.setVm vm1) g N.toNpeT self cell).heap[T.aS]? = some cellS := by
      show ((X.heap.setIfInBounds self _).setIfInBounds self _)[T.aS]? = _
      simp [Ne.symm hneS, hcellS]
    have hcur : (npeInside (X.setVm vm1) g N.toNpeT self cell).cur = t := ht
    have hlt2 : self < (npeInside (X.setVm vm1) g N.toNpeT self cell).heap.size := (Array.getElem?_eq_some_iff.mp hc1).1
    have r2 := (nx_rooms (e := e) (X := X.setVm vm1) (g := g) (self := self) h.top T N cell t hlim hframes hwords).2.1
    have r3 : ∀ vm, _ := fun vm => (nx_rooms (e := e) (X := X.setVm vm) (g := g) (self := self) h.top T N cell t hlim hframes hwords).2.2
    obtain ⟨vm2, hW2, st⟩ := Steps.fillColdAnyV p (V := npeInside (X.setVm vm1) g N.toNpeT self cell) (g := fillJ N.fill self 37 []) (c := N.codeFill) (self := self) hB hexec T L hW1 (Nn := fun u => u) heapOnly_id (fun _ _ => rfl) (fun _ => rfl) (fun u x y => setCell_twice _ _ _ _)
      (cell := npeCell N.toNpeT cell t) (cellS := cellS) (cN := (npeCell N.toNpeT cell t).withEntry t) (u0 := u0) (ig := .invokespecial 24) (len := 3) [] hc1 hobj hknown (Or.inr (by rw [hcur]; rfl)) hvSN hsel0 hc2 hneS hknownS hvU
      (by rw [hcur]; exact fun _ hu => hu) (fun _ hu => hu) rfl rfl (by rw [hcur]) (by simp [Cell.withEntry]) htSN (by rw [LN.fillBytes]; exact LibCode.NullPointerException.Fill.at_37)
      (fun _ vm3 hW3 hAt t' hs => L.nativeOff p htr hAt hW3 (r3 vm3) hs) r2 (by rw [hcur]; exact hskip)
    exact ⟨vm2, hW2, fun t' hs => st t' hs⟩
  obtain ⟨vm', hW', st⟩ := Steps.npeFillColdBy p (V := X) (g := g) (c := c) (self := self) h hexec T L N LN hW (Fi := fun u => u.setCell self ((((npeCell N.toNpeT cell t).withEntry t).setSlot T.fStack.slot u0.v).left)) (heapOnly_id.thenSetCell self _)
    (fun _ => rfl) (fun u x y => by rw [setCell_twice, setCell_twice, setCell_twice]) (cell := cell) (cFi := (((npeCell N.toNpeT cell t).withEntry t).setSlot T.fStack.slot u0.v).left) (kcell := kcell) (ig := ig) (len := len) []
    hcell hobj hknown hfree hkcell hv0 ht1 (by rw [ht]; exact fun u hu => heapAt_setCell_self _ (Array.getElem?_eq_some_iff.mp hu).1) (by rw [ht]; exact hFmon) hdg hinner
    (nx_rooms (e := e) (X := X) (g := g) (self := self) h.top T N cell t hlim hframes hwords).1
  refine ⟨vm', hW', fun target hrest => st target ?_⟩
  show Steps p.tables e below ((((X.setVm vm').setCell self _).setCell self _).setTop _) target
  rw [setCell_twice]
  exact hrest
/-- the cell as it then is -/
abbrev nxCell (T : ThrowableT) (N : NpeT) (cell : Cell) (self : Addr) (u0 sen : RefV) (msg : Value) : Cell := (npeBareV T N cell self u0 sen).setSlot T.fMsg.slot msg
/-- Throwable's constructor with a message, on a NullPointerException -/
theorem nx_initS (p : Program) {e : Env} {below : List Frame} {s₀ V : State} {g : JFrame} {c : Code} (h : At V g.method c below) (hexec : p.tables.exec = Jvm.exec) (htr : e.platform.stackTraces = false)
    (T : ThrowableC) (L : T.Links e.platform s₀) (Z : Init0T) (LZ : Z.LaidS T.toThrowableT) (M : MsgC) (LM : M.Links T e.platform s₀) (N : NpeC) (LN : N.Links T e.platform s₀) (hW : s₀.WarmedH V.vm) {t : ThreadId} (ht : V.cur = t)
    {u0 sen : RefV} {msg : Value} (hmsg : msg.isRef = true) {cell cellS : Cell} {kcell : Class}
    (hcell : V.heap[self]? = some cell) (hobj : ∀ k, cell.vm ≠ .statics k) (hknown : cell.vm ≠ .unknown) (hfree : cell.monitor.owner = none) (hcount : cell.monitor.count = 0)
    (hkcell : s₀.vm.classes[cell.cls]? = some kcell) (hsel0 : selectMethod e.platform s₀.vm cell.cls T.fill0 = .method T.fill0) (hselF : selectMethod e.platform s₀.vm cell.cls T.fill = .method N.fill)
    (hcellS : V.heap[T.aS]? = some cellS) (hneS : T.aS ≠ self) (hknownS : cellS.vm ≠ .unknown) (hvU : cellS.slots[T.fUnassigned.slot]? = some u0.v) (hvSen : cellS.slots[T.fSentinel.slot]? = some sen.v)
    (hv0 : cell.slots[N.fState.slot]? = some (.int 0)) (hneC : T.fCause.slot ≠ N.fState.slot) (hneSt : T.fStack.slot ≠ N.fState.slot) (hneP : T.fSupp.slot ≠ N.fState.slot)
    (htC : Takes s₀ cell T.fCause (.ref self)) (htS : Takes s₀ cell T.fStack u0.v) (htP : Takes s₀ cell T.fSupp sen.v) (htM : Takes s₀ cell T.fMsg msg) (ht1 : Takes s₀ cell N.fState (.int 1)) (hobjLocals : T.codeObj.maxLocals = 1)
    (hskip : SkipFacts T e.platform s₀ (fun u => u) u0 ((npeCell N.toNpeT (preparedCellV T.toThrowableT cell self u0 sen) t).withEntry t))
    {lim : Nat × Nat} (hlim : e.platform.stackLimits V.me = lim) (hframes : V.frames.length + 3 < lim.1) (hwords : (stackUse (.java g :: V.frames.tail)).2 + 56 ≤ lim.2)
    {ig : Instr} {len : Nat} (acts : List Action) (hdg : decode c.code g.pc = .ok (ig, len)) :
    ∃ vm', s₀.WarmedH vm' ∧ ∀ target, Steps p.tables e below (((V.setVm vm').setCell self (nxCell T.toThrowableT N.toNpeT cell self u0 sen msg)).setTop { g with pc := g.pc + len }) target →
      Steps p.tables e below (doInvoke e (V.setTop g) acts (Z.m T.toThrowableT) #[.ref self, msg]).1 target := by
  have hlt : self < V.heap.size := (Array.getElem?_eq_some_iff.mp hcell).1
  obtain ⟨g₀, hg⟩ := Option.isSome_iff_exists.mp h.top
  obtain ⟨tl, htl⟩ := State.topJava?_eq_some.mp hg
  have hlen : V.frames.length = (Frame.java g :: V.frames.tail).length := by rw [htl]; rfl
  have hfg : (V.setTop g).frames = .java g :: V.frames.tail := by rw [State.frames_setTop _ htl, htl]; rfl
  have hlimg : e.platform.stackLimits (V.setTop g).me = lim := by rw [State.stackLimits_setTop _ h.top]; exact hlim
  have hfU : ∀ vm, (initSInside (V.setVm vm) g T.toThrowableT Z self msg).frames = .java (initSJ T.toThrowableT Z self msg 0 []) :: .java g :: V.frames.tail := fun vm => frames_entered (s := V.setVm vm) h.top _
  have htopU : (initSInside V g T.toThrowableT Z self msg).topJava?.isSome := by
    have := hfU V.vm
    rw [State.setVm_self] at this
    rw [State.topJava?_of_frames this]; rfl
  have hlimU : ∀ vm, e.platform.stackLimits (initSInside (V.setVm vm) g T.toThrowableT Z self msg).me = lim := fun vm => by
    rw [State.stackLimits_pushFrame]; exact hlimg
  have hw13 : ∀ pc, (stackUse [Frame.java (initSJ T.toThrowableT Z self msg pc [])]).2 = 13 := by
    intro pc
    rw [stackUse_java, stackUse_nil]
    simp [operandWords]
  have hroom : e.platform.stackFull (((V.setTop g).threads[(V.setTop g).cur]?).getD { frames := [] }) (V.setTop g).frames 2 = false :=
    roomAbove (pushed := []) (base := .java g :: V.frames.tail) (free := 56) (lim := lim) hfg hlimg (by rw [← hlen]; simp only [List.length_nil]; omega) hwords (by simp only [stackUse_nil]; omega)
  have hroomO : e.platform.stackFull ((((initSInside V g T.toThrowableT Z self msg).setTop (initSJ T.toThrowableT Z self msg 1 [])).threads[((initSInside V g T.toThrowableT Z self msg).setTop (initSJ T.toThrowableT Z self msg 1 [])).cur]?).getD { frames := [] }) ((initSInside V g T.toThrowableT Z self msg).setTop (initSJ T.toThrowableT Z self msg 1 [])).frames T.codeObj.maxLocals = false := by
    have f0 := hfU V.vm
    have l0 := hlimU V.vm
    rw [State.setVm_self] at f0 l0
    exact roomAbove (pushed := [.java (initSJ T.toThrowableT Z self msg 1 [])]) (base := .java g :: V.frames.tail) (free := 56) (lim := lim) (State.frames_setTop _ f0) (by rw [State.stackLimits_setTop _ htopU]; exact l0)
      (by rw [← hlen]; simp only [List.length_cons, List.length_nil]; omega) hwords (by rw [hw13, hobjLocals]; omega)
  have hpS : (preparedCellV T.toThrowableT cell self u0 sen).slots[T.fStack.slot]? = some u0.v := by
    have h1 : T.fStack.slot < cell.slots.size := htS.1
    simp [preparedCellV, Cell.setSlot, Ne.symm L.stackApartSupp, h1]
  have hpX : (preparedCellV T.toThrowableT cell self u0 sen).slots[N.fState.slot]? = some (.int 0) := by
    simp [preparedCellV, Cell.setSlot, hneC, hneSt, hneP, hv0]
  have tk : ∀ {f : Field} {v : Value}, Takes s₀ cell f v → Takes s₀ (preparedCellV T.toThrowableT cell self u0 sen) f v := fun h' => ⟨by simpa [preparedCellV, Cell.setSlot] using h'.1, h'.2⟩
  have hfill : ∀ vm1, s₀.WarmedH vm1 → At ((initSInside (V.setVm vm1) g T.toThrowableT Z self msg).setCell self (preparedCellV T.toThrowableT cell self u0 sen)) (Z.m T.toThrowableT) Z.code below → ∃ vm2, s₀.WarmedH vm2 ∧ ∀ t' : State,
      Steps p.tables e below ((((initSInside (V.setVm vm2) g T.toThrowableT Z self msg).setCell self (preparedCellV T.toThrowableT cell self u0 sen)).setCell self (npeBareV T.toThrowableT N.toNpeT cell self u0 sen)).setTop (initSJ T.toThrowableT Z self msg 27 [.ref self])) t' →
      Steps p.tables e below (doInvoke e (((initSInside (V.setVm vm1) g T.toThrowableT Z self msg).setCell self (preparedCellV T.toThrowableT cell self u0 sen)).setTop (initSJ T.toThrowableT Z self msg 24 [])) [] N.fill #[.ref self]).1 t' := by
    intro vm1 hW1 hA
    have hcX : ((initSInside (V.setVm vm1) g T.toThrowableT Z self msg).setCell self (preparedCellV T.toThrowableT cell self u0 sen)).heap[self]? = some (preparedCellV T.toThrowableT cell self u0 sen) := heapAt_setCell_self (s := initSInside (V.setVm vm1) g T.toThrowableT Z self msg) _ hlt
    have hcS : ((initSInside (V.setVm vm1) g T.toThrowableT Z self msg).setCell self (preparedCellV T.toThrowableT cell self u0 sen)).heap[T.aS]? = some cellS := by
      rw [heapAt_setCell_ne _ (Ne.symm hneS)]; exact hcellS
    have hfX : ((initSInside (V.setVm vm1) g T.toThrowableT Z self msg).setCell self (preparedCellV T.toThrowableT cell self u0 sen)).frames = .java (initSJ T.toThrowableT Z self msg 0 []) :: .java g :: V.frames.tail := hfU vm1
    obtain ⟨vm2, hW2, st⟩ := nx_fill p (X := (initSInside (V.setVm vm1) g T.toThrowableT Z self msg).setCell self (preparedCellV T.toThrowableT cell self u0 sen)) (g := initSJ T.toThrowableT Z self msg 24 []) (c := Z.code) (self := self) hA hexec htr T L N LN hW1 (t := t) ht
      hcX hobj hknown hfree hkcell hsel0 hcS hneS hknownS hvU hpX hpS hneSt (tk htS) (tk ht1) hskip (lim := lim) (hlimU vm1) (by rw [hfX]; simp only [List.length_cons] at hlen ⊢; omega)
      (by
        rw [hfX, List.tail_cons, stackUse_java]
        show (stackUse (Frame.java g :: V.frames.tail)).2 + (2 + 11 + 2 * 0 + operandWords []) + 43 ≤ lim.2
        simp only [operandWords, List.foldl_nil]
        omega) (ig := .invokevirtual 27) (len := 3) (by rw [LZ.bytes]; exact LibCode.Throwable.InitS.at_24)
    rw [npeBareV_eq T.toThrowableT N.toNpeT self u0 sen t hfree hcount] at st
    exact ⟨vm2, hW2, fun t' hs => st t' hs⟩
  obtain ⟨vm', hW', st⟩ := Steps.throwableInitSColdByV p h hexec T L Z LZ M LM hW (F := fun u => u.setCell self (npeBareV T.toThrowableT N.toNpeT cell self u0 sen)) (heapOnly_id.thenSetCell self _) (fun _ _ => rfl)
    hmsg (cF := npeBareV T.toThrowableT N.toNpeT cell self u0 sen) hcell hknown (fun u hu => heapAt_setCell_self _ (Array.getElem?_eq_some_iff.mp hu).1) rfl rfl (by simp [npeBareV, preparedCellV, Cell.setSlot]) htM hdg (mSel := N.fill) (methSel := N.methFill) (kSel := N.kN) hobj hselF LN.method LN.fillAbstract LN.cls LN.notInterface hfill acts
    hcellS hneS hknownS hvU hvSen htC htS htP hroom hroomO
  refine ⟨vm', hW', fun target hrest => st target ?_⟩
  show Steps p.tables e below (((((V.setVm vm').setCell self _).setCell self _).setCell self _).setTop _) target
  rw [setCell_twice, setCell_twice]
  exact hrest
/-- the chain of constructors that pass a message on, down to Throwable's, on a NullPointerException -/
theorem nx_chain (p : Program) {e : Env} {below : List Frame} {s₀ V : State} {g : JFrame} {c : Code} (h : At V g.method c below) (hexec : p.tables.exec = Jvm.exec) (htr : e.platform.stackTraces = false)
    (T : ThrowableC) (L : T.Links e.platform s₀) (Z : Init0T) (LZ : Z.LaidS T.toThrowableT) (M : MsgC) (LM : M.Links T e.platform s₀) (N : NpeC) (LN : N.Links T e.platform s₀) (hW : s₀.WarmedH V.vm) {t : ThreadId} (ht : V.cur = t)
    {u0 sen : RefV} {msg : Value} (hmsg : msg.isRef = true) {cell cellS : Cell} {kcell : Class}
    (hcell : V.heap[self]? = some cell) (hobj : ∀ k, cell.vm ≠ .statics k) (hknown : cell.vm ≠ .unknown) (hfree : cell.monitor.owner = none) (hcount : cell.monitor.count = 0)
    (hkcell : s₀.vm.classes[cell.cls]? = some kcell) (hsel0 : selectMethod e.platform s₀.vm cell.cls T.fill0 = .method T.fill0) (hselF : selectMethod e.platform s₀.vm cell.cls T.fill = .method N.fill)
    (hcellS : V.heap[T.aS]? = some cellS) (hneS : T.aS ≠ self) (hknownS : cellS.vm ≠ .unknown) (hvU : cellS.slots[T.fUnassigned.slot]? = some u0.v) (hvSen : cellS.slots[T.fSentinel.slot]? = some sen.v)
    (hv0 : cell.slots[N.fState.slot]? = some (.int 0)) (hneC : T.fCause.slot ≠ N.fState.slot) (hneSt : T.fStack.slot ≠ N.fState.slot) (hneP : T.fSupp.slot ≠ N.fState.slot)
    (htC : Takes s₀ cell T.fCause (.ref self)) (htS : Takes s₀ cell T.fStack u0.v) (htP : Takes s₀ cell T.fSupp sen.v) (htM : Takes s₀ cell T.fMsg msg) (ht1 : Takes s₀ cell N.fState (.int 1)) (hobjLocals : T.codeObj.maxLocals = 1)
    (hskip : SkipFacts T e.platform s₀ (fun u => u) u0 ((npeCell N.toNpeT (preparedCellV T.toThrowableT cell self u0 sen) t).withEntry t))
    (Ps : List PassC) (hL : ∀ P, P ∈ Ps → P.LinksS e.platform s₀) (hlink : PassesOn (Z.m T.toThrowableT) (Ps.map (·.toPassT)))
    {lim : Nat × Nat} (hlim : e.platform.stackLimits V.me = lim) (hframes : V.frames.length + Ps.length + 3 < lim.1) (hwords : (stackUse (.java g :: V.frames.tail)).2 + 13 * Ps.length + 56 ≤ lim.2)
    {ig : Instr} {len : Nat} (acts : List Action) (hdg : decode c.code g.pc = .ok (ig, len)) :
    ∃ vm', s₀.WarmedH vm' ∧ ∀ target, Steps p.tables e below (((V.setVm vm').setCell self (nxCell T.toThrowableT N.toNpeT cell self u0 sen msg)).setTop { g with pc := g.pc + len }) target →
      Steps p.tables e below (doInvoke e (V.setTop g) acts (firstOf (Z.m T.toThrowableT) (Ps.map (·.toPassT))) #[.ref self, msg]).1 target := by
  obtain ⟨f1, -, -, f4, f5, f6⟩ := chainEnd_facts e.platform self msg (Ps.map (·.toPassT)) V g h.top
  have fc := chainEnd_cur self msg (Ps.map (·.toPassT)) V g
  rw [List.length_map] at f5 f6
  refine Steps.initChainSCold hexec (H := fun u => u.setCell self (nxCell T.toThrowableT N.toNpeT cell self u0 sen msg)) (heapOnly_id.thenSetCell self _) (Z.m T.toThrowableT) hmsg lim Ps V g c ig len acts h hW hL hlink hdg hlim (by omega) (by omega) (fun vm1 hW1 c' ig' len' hA' hdg' => ?_)
  simp only [chainEnd_setVm] at hA' hdg' ⊢
  generalize chainEnd self msg V g (Ps.map (·.toPassT)) = E at f1 f4 f5 f6 fc hA' hdg' ⊢
  obtain ⟨vm2, hW2, st⟩ := nx_initS p (V := E.1.setVm vm1) (g := E.2) (self := self) hA' hexec htr T L Z LZ M LM N LN hW1 (t := t) (fc.trans ht) hmsg
    (by show E.1.heap[self]? = _; rw [f1]; exact hcell) hobj hknown hfree hcount hkcell hsel0 hselF (by show E.1.heap[T.aS]? = _; rw [f1]; exact hcellS) hneS hknownS hvU hvSen hv0 hneC hneSt hneP htC htS htP htM ht1 hobjLocals hskip
    (lim := lim) (by show e.platform.stackLimits E.1.me = lim; rw [f4]; exact hlim) (by show E.1.frames.length + 3 < lim.1; rw [f5]; omega) (by show (stackUse (.java E.2 :: E.1.frames.tail)).2 + 56 ≤ lim.2; rw [f6]; omega) [] hdg'
  exact ⟨vm2, hW2, fun t' hs => st t' (by rw [State.setVm_twice]; exact hs)⟩
end NX
end
section
/-! 'throw new NullPointerException("..")': from its constructor's call to its leaving the method; the rows' form of it. Follows the library's ctorThrowS and the printed row for other exceptions, with the two more fields and the own fillInStackTrace. -/
def nxAtoms (own : String) (ic : Nat) : List Cond :=
  Jvm.Bundle.throwableAtoms ++ Jvm.Bundle.throwableSAtoms ++ Jvm.Bundle.chainSAtoms Jvm.Bundle.nN [Jvm.Bundle.rN, Jvm.Bundle.eN] ++ Jvm.Bundle.npeAtoms ++
  [.methodLink own ic (Jvm.Bundle.initS Jvm.Bundle.nN), .instantiable Jvm.Bundle.nN 8, .castable Jvm.Bundle.nN Jvm.Bundle.nN, .selects Jvm.Bundle.nN Jvm.Bundle.tFill0 Jvm.Bundle.tFill0, .selects Jvm.Bundle.nN Jvm.Bundle.tFill Jvm.Bundle.nFill,
   .lays Jvm.Bundle.nN Jvm.Bundle.tN "cause" "Ljava/lang/Throwable;", .lays Jvm.Bundle.nN Jvm.Bundle.tN "stackTrace" Jvm.Bundle.steD, .lays Jvm.Bundle.nN Jvm.Bundle.tN "suppressedExceptions" Jvm.Bundle.listD, .lays Jvm.Bundle.nN Jvm.Bundle.tN "detailMessage" "Ljava/lang/String;",
   .isRef (.static Jvm.Bundle.tN "UNASSIGNED_STACK" Jvm.Bundle.steD), .isRef (.static Jvm.Bundle.tN "SUPPRESSED_SENTINEL" Jvm.Bundle.listD),
   .fieldLink Jvm.Bundle.tN 198 Jvm.Bundle.tN "backtrace" "Ljava/lang/Object;", .lays Jvm.Bundle.tN Jvm.Bundle.tN "backtrace" "Ljava/lang/Object;", .lays Jvm.Bundle.nN Jvm.Bundle.tN "backtrace" "Ljava/lang/Object;"]
section NY
variable {p : Program} {l : Launch} {e : Env} {R : Room} {s : State} {m₀ : MethodId} {args : Array Value} {below : List Frame} {meth : Method} {c : Code} {W₀ : State} {locs : List Loc} {cells slots : Nat}
set_option maxHeartbeats 2000000 in
theorem nx_ctorThrow (X : Stand p l e R s m₀ args below meth c W₀ locs cells slots) (hexec : p.tables.exec = Jvm.exec) (htr : e.platform.stackTraces = false) {own : String} {ic : Nat}
    (hown : s.vm.findClass own = some m₀.cls) (h : ∀ a ∈ nxAtoms own ic, a.before args s = true)
    (hlocs : ∀ x ∈ locs, ∀ cell, s.heap[x.base]? = some cell → cell.vm.isStatics = false)
    {a : Addr} {cX : ClassId} {kX : Class} (hfoundX : s.vm.findClass Jvm.Bundle.nN = some cX) (hkX : s.vm.classes[cX]? = some kX) (hcell : W₀.heap[a]? = some (freshCell cX kX)) (hnew : s.heap.size ≤ a)
    {msg : Value} (hmsg : msg.isRef = true)
    {g : JFrame} (hg : g.method = m₀) (hsize : g.locals.size = c.maxLocals) (hlocked : g.locked = none) (hentered : g.entered = []) {rest : List Value} (hstack : g.stack = msg :: .ref a :: .ref a :: rest)
    (hd6 : decode c.code g.pc = .ok (.invokespecial ic, 3)) (hd9 : decode c.code (g.pc + 3) = .ok (.athrow, 1)) (hout : ∀ x ∈ c.exceptionTable.toList, covers x (g.pc + 3) = false)
    (hRframes : 6 < R.frames) (hRlocals : 2 * g.monitorRoom + ((Value.ref a :: rest).map fun v => v.category).sum + 95 ≤ R.locals) (hlocks : meth.locks = false) :
    ∃ U : State, Steps p.tables e below (W₀.setTop g) U ∧ U.status = .running ∧ Ended U below (.threw a) ∧ s.WarmedH U.vm ∧ s.sameButNew ({ U with vm := s.vm } : State) locs cells slots ∧
      ∃ ce, U.heap[a]? = some ce ∧ ce.vm = .none ∧ s.vm.findClass Jvm.Bundle.nN = some ce.cls := by
  have howns : e.platform.frameOwnsMonitors = true := by rw [X.admits.platform]
  have hfin : e.platform.finalization = false := by rw [X.admits.platform]
  have hpl : e.platform.magicAccessors = ({} : Platform).magicAccessors := by rw [X.admits.platform]
  have hpl2 : e.platform.arrayCloneIsPublic = true := by rw [X.admits.platform]
  have a' : ∀ x, x ∈ nxAtoms own ic → x.holds args s none s [] = true := fun x hx => h x hx
  obtain ⟨T, Z0, L, -, Y⟩ := ThrowableC.of_atoms (args := args) howns hfin hpl (fun x hx => h x (by simp [nxAtoms, hx]))
  obtain ⟨Z, M, LZ, LM, hnZ⟩ := Init0T.ofS_atoms (args := args) hpl L Y (fun x hx => h x (by simp [nxAtoms, hx]))
  obtain ⟨P1, Ps, hlen, L1, hL, hP1m, hlink1, hlink⟩ := Jvm.Bundle.chainS (args := args) hpl hnZ [Jvm.Bundle.rN, Jvm.Bundle.eN] Jvm.Bundle.nN (by decide +kernel) (by decide +kernel) (fun x hx => h x (by simp [nxAtoms, hx]))
  obtain ⟨N, LN, hcN, hnNF, hordN, hffS⟩ := NpeC.of_atoms (args := args) hpl hpl2 L Y (fun x hx => h x (by simp [nxAtoms, hx]))
  have hfound : s.vm.findClass Jvm.Bundle.nN = some P1.m.cls := findClass_of_methodNamed hP1m
  cases Option.some.inj (hfoundX.symm.trans hfound)
  have ecls : N.cN = P1.m.cls := Option.some.inj (hcN.symm.trans hfound)
  have hk : s.vm.classes[P1.m.cls]? = some N.kN := by rw [← ecls]; exact LN.cls
  cases Option.some.inj (hkX.symm.trans hk)
  have hsel0 : selectMethod e.platform s.vm P1.m.cls T.fill0 = .method T.fill0 := by
    obtain ⟨c2, r2, m2, q1, q2, q3, q4, -⟩ := Cond.selects_spec (a' (.selects Jvm.Bundle.nN Jvm.Bundle.tFill0 Jvm.Bundle.tFill0) (by simp [nxAtoms]))
    cases Option.some.inj (q1.symm.trans hfound)
    cases Option.some.inj (q2.symm.trans (State.methodFound?_of_named Y.fill0 (by decide)))
    cases Option.some.inj (q3.symm.trans Y.fill0)
    rw [Launch.admits_selectMethod X.admits]; exact q4
  have hselF : selectMethod e.platform s.vm P1.m.cls T.fill = .method N.fill := by
    obtain ⟨c2, r2, m2, q1, q2, q3, q4, -⟩ := Cond.selects_spec (a' (.selects Jvm.Bundle.nN Jvm.Bundle.tFill Jvm.Bundle.nFill) (by simp [nxAtoms]))
    cases Option.some.inj (q1.symm.trans hfound)
    cases Option.some.inj (q2.symm.trans (State.methodFound?_of_named Y.fill (by decide)))
    cases Option.some.inj (q3.symm.trans hnNF)
    rw [Launch.admits_selectMethod X.admits]; exact q4
  obtain ⟨cellS0, hcS0, hiss⟩ := Y.statics
  obtain ⟨u0, hu0⟩ := Cond.staticRefV Y.unassigned L.unassignedStatic L.statics hcS0 hiss (a' (.isRef (.static Jvm.Bundle.tN "UNASSIGNED_STACK" Jvm.Bundle.steD)) (by simp [nxAtoms]))
  obtain ⟨sen, hsen⟩ := Cond.staticRefV Y.sentinel L.sentinelStatic L.statics hcS0 hiss (a' (.isRef (.static Jvm.Bundle.tN "SUPPRESSED_SENTINEL" Jvm.Bundle.listD)) (by simp [nxAtoms]))
  obtain ⟨ci198, i198, fB, hk198, hg198, ha198, hsB, -, hnB, htB, hffB⟩ := Cond.ownField (t := .object "java/lang/Object") Y.found L.cls (by decide +kernel) (a' (.fieldLink Jvm.Bundle.tN 198 Jvm.Bundle.tN "backtrace" "Ljava/lang/Object;") (by simp [nxAtoms])) (a' (.lays Jvm.Bundle.tN Jvm.Bundle.tN "backtrace" "Ljava/lang/Object;") (by simp [nxAtoms])) e.platform hpl
  obtain ⟨cellS, hcS', heS, -, hkeep⟩ := X.same.2.2.2.2.2 T.aS cellS0 hcS0
  have hcellS : W₀.heap[T.aS]? = some cellS := hcS'
  have hout' : ∀ i, (⟨T.aS, i⟩ : Loc) ∉ locs := fun i hmem => by
    have := hlocs _ hmem cellS0 hcS0
    rw [hiss] at this; cases this
  have hknownS : cellS.vm ≠ .unknown := by
    rw [heS]; intro hu
    rw [show cellS0.vm = .unknown from hu] at hiss
    cases hiss
  have hneS : T.aS ≠ a := Nat.ne_of_lt (Nat.lt_of_lt_of_le (Array.getElem?_eq_some_iff.mp hcS0).1 hnew)
  obtain ⟨iM, hffM⟩ := Y.msg
  obtain ⟨tyC, dC, hdC, hdnC⟩ := Cond.laysAt hfound hk Y.cause (a' (.lays Jvm.Bundle.nN Jvm.Bundle.tN "cause" "Ljava/lang/Throwable;") (by simp [nxAtoms]))
  obtain ⟨tyS, dS, hdS, hdnS⟩ := Cond.laysAt hfound hk Y.stack (a' (.lays Jvm.Bundle.nN Jvm.Bundle.tN "stackTrace" Jvm.Bundle.steD) (by simp [nxAtoms]))
  obtain ⟨tyP, dP, hdP, hdnP⟩ := Cond.laysAt hfound hk Y.supp (a' (.lays Jvm.Bundle.nN Jvm.Bundle.tN "suppressedExceptions" Jvm.Bundle.listD) (by simp [nxAtoms]))
  obtain ⟨tyM, dM, hdM, hdnM⟩ := Cond.laysAt hfound hk hffM (a' (.lays Jvm.Bundle.nN Jvm.Bundle.tN "detailMessage" "Ljava/lang/String;") (by simp [nxAtoms]))
  obtain ⟨tyX, dX, hdX, hdnX⟩ := Cond.laysAt hfound hk hffS (a' (.lays Jvm.Bundle.nN Jvm.Bundle.nN "extendedMessageState" "I") (by simp [nxAtoms, Jvm.Bundle.npeAtoms]))
  have hnX : N.fState.name = "extendedMessageState" := (State.fieldFound?_type hffS (t := .int) (by decide +kernel)).1
  obtain ⟨tyB, dB, hdB, hdnB⟩ := Cond.laysAt hfound hk hffB (a' (.lays Jvm.Bundle.nN Jvm.Bundle.tN "backtrace" "Ljava/lang/Object;") (by simp [nxAtoms]))
  have bC := Cond.laysApart hdB hdC hdnB hdnC (by rw [hnB, Y.causeName]; decide)
  have bS := Cond.laysApart hdB hdS hdnB hdnS (by rw [hnB, Y.stackName]; decide)
  have bP := Cond.laysApart hdB hdP hdnB hdnP (by rw [hnB, Y.suppName]; decide)
  have bX := Cond.laysApart hdB hdX hdnB hdnX (by rw [hnB, hnX]; decide)
  have hskip : SkipFacts T e.platform s (fun u => u) u0 ((npeCell N.toNpeT (preparedCellV T.toThrowableT (freshCell P1.m.cls N.kN) a u0 sen) W₀.cur).withEntry W₀.cur) :=
    ⟨{ ci198 := ci198, i198 := i198, fBack := fB }, ⟨hk198, hg198, ha198, hsB⟩, by
      have := fresh_default (c := P1.m.cls) tyB
      rw [htB] at this
      simpa [npeCell, preparedCellV, Cell.setSlot, Cell.withEntry, Array.getElem?_setIfInBounds, bC, bS, bP, bX, bC.symm, bS.symm, bP.symm, bX.symm, defaultValue] using this, fun _ _ => rfl⟩
  obtain ⟨tm, methC, cdC, kC, vm₁, hnC, -, -, -, -, -, -, -, hW₁, st1⟩ := Steps.initColdS (tb := p.tables) (e := e) (below := below) (s := s) (U := W₀) X.here hexec X.warmed hpl hown (t := Jvm.Bundle.initS Jvm.Bundle.nN) rfl rfl (by decide +kernel)
    (a' (.methodLink own ic (Jvm.Bundle.initS Jvm.Bundle.nN)) (by simp [nxAtoms])) (h (.instanceMethod (Jvm.Bundle.initS Jvm.Bundle.nN)) (by simp [nxAtoms, Jvm.Bundle.chainSAtoms, Jvm.Bundle.passSAtoms])) (bytes := Jvm.Bundle.six) (maxL := 2) (h (.code (Jvm.Bundle.initS Jvm.Bundle.nN) Jvm.Bundle.six 2 none) (by simp [nxAtoms, Jvm.Bundle.chainSAtoms, Jvm.Bundle.passSAtoms]))
    (f := g) hg (a := a) (msg := msg) (rest := .ref a :: rest) hstack hd6
  cases Option.some.inj (hnC.symm.trans hP1m)
  have X₁ := X.noted hW₁
  have hAt : At (W₀.setVm vm₁) ({ g with stack := .ref a :: rest } : JFrame).method c below := by
    show At (W₀.setVm vm₁) g.method c below
    rw [hg]; exact X₁.here
  have hlen3 : (P1 :: Ps).length = 3 := by simp only [List.length_cons, hlen]; rfl
  obtain ⟨vm₂, hW₂, st2⟩ := nx_chain p (V := W₀.setVm vm₁) (g := { g with stack := .ref a :: rest }) (self := a) hAt hexec htr T L Z LZ M LM N LN X₁.warmed (t := W₀.cur) rfl (u0 := u0) (sen := sen) hmsg (cell := freshCell P1.m.cls N.kN) (cellS := cellS) (kcell := N.kN)
    hcell (fun _ => by simp) (by simp) rfl rfl hk hsel0 hselF hcellS hneS hknownS (by rw [hkeep _ (hout' _)]; exact hu0) (by rw [hkeep _ (hout' _)]; exact hsen)
    (by rw [fresh_default tyX, LN.stateInt]; rfl)
    (Cond.laysApart hdC hdX hdnC hdnX (by rw [Y.causeName, hnX]; decide)) (Cond.laysApart hdS hdX hdnS hdnX (by rw [Y.stackName, hnX]; decide)) (Cond.laysApart hdP hdX hdnP hdnX (by rw [Y.suppName, hnX]; decide))
    (Takes.of_laid hk hordN tyC (by rw [Y.causeType]; rfl)) (Takes.of_laid hk hordN tyS (by rw [Y.stackType]; exact fits_refV_array _ u0)) (Takes.of_laid hk hordN tyP (by rw [Y.suppType]; exact fits_refV_object _ sen))
    (Takes.of_laid hk hordN tyM (by rw [Y.msgType]; exact fits_refV_object _ ⟨msg, hmsg⟩)) (Takes.of_laid hk hordN tyX (by rw [LN.stateInt]; rfl)) Y.objLocals hskip (P1 :: Ps)
    (fun P hP => by rcases List.mem_cons.mp hP with rfl | hP; exact L1; exact hL P hP) ⟨hlink1, hlink⟩ (lim := e.platform.stackLimits (W₀.setVm vm₁).me) rfl
    (by have := X₁.framesAbove (n := 6) hRframes; rw [hlen3]; omega) (by have := X₁.stackAbove (g := { g with stack := .ref a :: rest }) hsize (K := 95) hRlocals; rw [hlen3]; omega) [] hd6
  have ha : a < ((W₀.setVm vm₁).setVm vm₂).heap.size := (Array.getElem?_eq_some_iff.mp hcell).1
  have X₂ := ((((((X₁.noted hW₂).stored (a := a) hcell T.fCause.slot (.ref a)).storedAgain ha T.fStack.slot u0.v).storedAgain ha T.fSupp.slot sen.v).storedAgain ha N.fState.slot (.int 1)).storedAgain ha T.fStack.slot u0.v).storedAgain ha T.fMsg.slot msg
  obtain ⟨hwalk, hrun, hended, hWU, hsame⟩ := X₂.athrowLeaves hexec (g := { g with stack := .ref a :: rest, pc := g.pc + 3 }) hg hlocked hentered hout (a := a) (rest := rest) rfl hd9
  have hU := heapAt_setCell_self (s := (W₀.setVm vm₁).setVm vm₂) (nxCell T.toThrowableT N.toNpeT (freshCell P1.m.cls N.kN) a u0 sen msg) ha
  refine ⟨_, st1 _ (fun acts => ?_), hrun, hended, hWU, hsame.weaken (fun y hy hlt' => ?_) (Nat.le_refl _) (Nat.le_refl _), _, hU, rfl, hfound⟩
  · rw [doInvoke_state]
    exact st2 _ hwalk
  · simp only [List.append_assoc, List.cons_append, List.nil_append] at hy
    rcases List.mem_append.mp hy with h1 | h1
    · exact h1
    · exfalso
      have hb : y.base = a := by
        simp only [List.mem_cons, List.not_mem_nil, or_false] at h1
        rcases h1 with rfl | rfl | rfl | rfl | rfl | rfl <;> rfl
      rw [hb] at hlt'
      exact Nat.not_lt.mpr hnew hlt'
end NY
end
section
/-! THROWS, BY THEIR SITES -/
def nmA : List String := ["java/lang/IndexOutOfBoundsException", "java/lang/RuntimeException", "java/lang/Exception"]
def nmR : List String := ["java/lang/RuntimeException", "java/lang/Exception"]
theorem lt_151 : mLkT RX0 87 151 91 xA "no such boat" nmA := ⟨rfl, by decide +kernel, by decide +kernel, by decide +kernel, by decide +kernel, m_in 234 (by decide +kernel) rfl, m_in 41 (by decide +kernel) rfl, atA⟩
theorem lt_153 : mLkT RX0 87 153 91 xA "no such pool" nmA := ⟨rfl, by decide +kernel, by decide +kernel, by decide +kernel, by decide +kernel, m_in 234 (by decide +kernel) rfl, m_in 41 (by decide +kernel) rfl, atA⟩
theorem lt_155 : mLkT RX0 87 155 91 xA "no such gate" nmA := ⟨rfl, by decide +kernel, by decide +kernel, by decide +kernel, by decide +kernel, m_in 234 (by decide +kernel) rfl, m_in 41 (by decide +kernel) rfl, atA⟩
theorem lt_89 : mLkT RX0 87 89 91 xA "no gate that way" nmA := ⟨rfl, by decide +kernel, by decide +kernel, by decide +kernel, by decide +kernel, m_in 234 (by decide +kernel) rfl, m_in 41 (by decide +kernel) rfl, atA⟩
theorem lt_157 : mLkT RX0 105 157 109 xI "a number is out of its range" nmR := ⟨rfl, by decide +kernel, by decide +kernel, by decide +kernel, by decide +kernel, m_in 240 (by decide +kernel) rfl, m_in 43 (by decide +kernel) rfl, atI⟩
theorem lt_107 : mLkT RX0 105 107 109 xI "the first pool is above the last" nmR := ⟨rfl, by decide +kernel, by decide +kernel, by decide +kernel, by decide +kernel, m_in 240 (by decide +kernel) rfl, m_in 43 (by decide +kernel) rfl, atI⟩
theorem lt_161 : mLkT RX0 76 161 80 xS "a gate is worn, or the boat lies in no pool" nmR := ⟨rfl, by decide +kernel, by decide +kernel, by decide +kernel, by decide +kernel, m_in 310 (by decide +kernel) rfl, m_in 46 (by decide +kernel) rfl, atSt⟩
theorem lt_78 : mLkT RX0 76 78 80 xS "the boat lies in no pool" nmR := ⟨rfl, by decide +kernel, by decide +kernel, by decide +kernel, by decide +kernel, m_in 310 (by decide +kernel) rfl, m_in 46 (by decide +kernel) rfl, atSt⟩
theorem lt_165 : mLkT RX0 163 165 167 xU "the boat is stuck" nmR := ⟨rfl, by decide +kernel, by decide +kernel, by decide +kernel, by decide +kernel, m_in 326 (by decide +kernel) rfl, m_in 47 (by decide +kernel) rfl, atU⟩
theorem lt_170 : mLkT RX0 168 170 172 xD "levelling is slow" nmR := ⟨rfl, by decide +kernel, by decide +kernel, by decide +kernel, by decide +kernel, m_in 342 (by decide +kernel) rfl, m_in 48 (by decide +kernel) rfl, atD⟩
section MRW
variable {p : Program} {l : Launch} {e : Env} {R : Room} {s : State} {m : MethodId} {args : Array Value} {below : List Frame} {meth : Method} {c : Code} {H : Heap} {locs : List Loc} {cells slots : Nat}
variable {free : Addr → Prop} {ls : Array Slot} {rest : List Value} {Qc : Array Value → State → Outcome → State → Prop} {XC : String → State → State → Prop}
/-- 'throw new NullPointerException("text")': new; dup; ldc; invokespecial; athrow -/
theorem vx_throwN {cc : ByteArray} {pc : Nat} (hexec : p.tables.exec = Jvm.exec) (hb : c.code = cc) (hl : l.stackTraces = false) {own text : String} {ik is ic mc ms sa : Nat} {A : Nat → Prop}
    (hown : s.vm.findClass own = some m.cls)
    (hk : (Cond.classLink own ik Jvm.Bundle.nN).before args s = true) (hini : (Cond.initialized Jvm.Bundle.nN).before args s = true) (hstr : vk_R own is text sa s) (hat : ∀ w ∈ (nxAtoms own ic).filter vx_no, w.before args s = true)
    (hgood : ∀ w ∈ Cond.classLink own ik Jvm.Bundle.nN :: Cond.initialized Jvm.Bundle.nN :: (nxAtoms own ic).filter vx_no, vx_ot w = true)
    (hU : vx_Zq Jvm.Bundle.tN "UNASSIGNED_STACK" Jvm.Bundle.steD A s s.heap) (hN : vx_Zq Jvm.Bundle.tN "SUPPRESSED_SENTINEL" Jvm.Bundle.listD A s s.heap) (hS : va_S A s.heap H locs) (hsize : ls.size = c.maxLocals)
    (d0 : decode cc pc = .ok (.new ik, 3)) (d3 : decode cc (pc + 3) = .ok (.dup, 1)) (d4 : decode cc (pc + 4) = .ok (.ldc is, 2)) (d6 : decode cc (pc + 6) = .ok (.invokespecial ic, 3)) (d9 : decode cc (pc + 9) = .ok (.athrow, 1))
    (hout : ∀ x ∈ c.exceptionTable.toList, covers x (pc + 9) = false)
    (hRframes : 6 < R.frames) (hRlocals : (rest.map fun v => v.category).sum + 96 ≤ R.locals) (hRcells : cells + 1 ≤ R.cells) (hRslots : slots + 8 ≤ R.slots) (hlocks : meth.locks = false)
    (hx : ∀ t : State, s.vm.Alike t.vm → H.size ≤ t.heap.size → (∀ q : Nat, q < H.size → t.heap[q]? = H[q]?) → XC Jvm.Bundle.nN s t)
    (hf : ∀ z ∈ locs, free z.base) (hc : cells + 1 ≤ mc) (hs : slots + 8 ≤ ms) :
    W p l e R s m args below meth c H locs cells slots (vx_MQ below Qc XC args s mc ms free) (F0 m pc ls rest) := by
  intro T hT X
  have htr : e.platform.stackTraces = false := (show e.platform.stackTraces = l.stackTraces by rw [X.admits.platform]).trans hl
  have Y := vx_rebase X (R' := { frames := R.frames, locals := R.locals, cells := 1, slots := 8 }) (Nat.le_refl _) (Nat.le_refl _) hRcells hRslots
  obtain ⟨s', hA⟩ : ∃ z, z = (T.setVm s.vm).setFrames (.invoking m args :: below) := ⟨_, rfl⟩
  rw [← hA] at Y
  have hvm : s'.vm = s.vm := by rw [hA]; rfl
  have hhp : s'.heap = H := by rw [hA]; exact hT
  have hW0 : s.WarmedH s'.vm := by rw [hvm]; exact State.WarmedH.refl s
  have hat' : ∀ w ∈ (nxAtoms own ic).filter vx_no, w.before args s' = true := fun w hw => vx_ot_at hW0 hvm.symm (hgood w (List.mem_cons_of_mem _ (List.mem_cons_of_mem _ hw))) (hat w hw)
  have hk' : (Cond.classLink own ik Jvm.Bundle.nN).before args s' = true := vx_ot_at hW0 hvm.symm (hgood _ List.mem_cons_self) hk
  have hini' : (Cond.initialized Jvm.Bundle.nN).before args s' = true := vx_ot_at hW0 hvm.symm (hgood _ (List.mem_cons_of_mem _ List.mem_cons_self)) hini
  have hU' : vx_Zq Jvm.Bundle.tN "UNASSIGNED_STACK" Jvm.Bundle.steD A s' s'.heap := by rw [hhp]; exact vx_Zq.moved hW0.alike (hU.kept hS.2.1)
  have hN' : vx_Zq Jvm.Bundle.tN "SUPPRESSED_SENTINEL" Jvm.Bundle.listD A s' s'.heap := by rw [hhp]; exact vx_Zq.moved hW0.alike (hN.kept hS.2.1)
  have h : ∀ w ∈ nxAtoms own ic, w.before args s' = true := vx_own hat' (vx_isRefq hU'.1) (vx_isRefq hN'.1) hU'.2.word hN'.2.word
  have hown' : s'.vm.findClass own = some m.cls := by rw [hvm]; exact hown
  have hins : (Cond.instantiable Jvm.Bundle.nN 8).before args s' = true := h _ (by simp [nxAtoms])
  obtain ⟨vm₁, cX, kX, hfX, hkX, -, -, X₁, st1⟩ := Y.newCold hexec (own := own) (C := Jvm.Bundle.nN) (index := ik) (n := 8) hown' hk' hins hini'
    (g := F0 m pc ls rest) rfl (by rw [hb]; exact d0) (Nat.le_refl _) (Nat.le_refl _)
  generalize hT1 : (T.setVm vm₁).pushCell { cls := cX, slots := kX.instanceTypes.map defaultValue, vm := .none } = T1 at X₁ st1
  have hcat : (Value.ref T.heap.size).category = 1 := rfl
  have hcellA : T1.heap[T.heap.size]? = some (freshCell cX kX) := by rw [← hT1]; exact State.heap_pushCell_size _ _
  have d3' : decode c.code (pc + 3) = .ok (.dup, 1) := by rw [hb]; exact d3
  have d4' : decode c.code (pc + 4) = .ok (.ldc is, 2) := by rw [hb]; exact d4
  have hstr' : vk_R own is text sa s' := vk_R.warm hW0 hstr
  obtain ⟨U, hsteps, hrun, hend, hW, hsame, ce, hce, hcev, hcec⟩ := nx_ctorThrow X₁ hexec htr (own := own) (ic := ic) hown' h (fun x hx => nomatch hx) hfX hkX hcellA (by rw [hhp, hT]; exact Nat.le_refl _) (msg := .ref sa) rfl
    (g := { method := m, pc := pc + 6, locals := ls, stack := .ref sa :: .ref T.heap.size :: .ref T.heap.size :: rest, locked := none }) rfl hsize rfl rfl (rest := rest) rfl
    (by rw [hb]; exact d6) (by rw [hb]; exact d9) hout hRframes (by simp only [List.map_cons, List.sum_cons, hcat]; omega) hlocks
  obtain ⟨f1, f2⟩ := vx_frame hsame
  rw [hhp] at f1 f2
  have hWs : s.WarmedH U.vm := State.WarmedH.trans hW0 hW
  have hcl : s.vm.findClass Jvm.Bundle.nN = some ce.cls := by
    rw [hvm] at hcec
    exact hcec
  have hall : s.sameButNew ({ U with vm := s.vm } : State) locs mc ms := by
    subst hA
    obtain ⟨e1, e2⟩ := hsame
    rw [State.setFrames_setFrames] at e1
    have h2 : (T.setVm s.vm).sameButNew ({ U with vm := s.vm } : State) [] (0 + 1) (0 + 8) := ⟨e1, e2⟩
    have h3 := X.same.trans h2
    rw [List.append_nil] at h3
    exact h3.mono hc hs
  refine ⟨U, ?_, .threw T.heap.size, hrun, hend, Or.inr ⟨T.heap.size, rfl, Jvm.Bundle.nN, ce, locs, hx U hWs.alike f1 (fun q hq => f2 q hq (fun z hz => nomatch hz)), hce, hcev, hcl, hWs, hall, hf⟩⟩
  refine st1 _ ?_
  show Steps p.tables e below (T1.setTop { method := m, pc := pc + 3, locals := ls, stack := .ref T.heap.size :: rest, locked := none }) _
  jvm_step X₁.here [X₁.here.top, hexec, d3', Value.category]
  exact X₁.ldcString hexec (own := own) (text := text) (index := is) (a := sa) hown' hstr'.1 hstr'.2
    (g := { method := m, pc := pc + 4, locals := ls, stack := .ref T.heap.size :: .ref T.heap.size :: rest, locked := none }) rfl d4' _ hsteps
end MRW
theorem m_thrN {own : String} {ic : Nat} (h : (((nxAtoms own ic).filter vx_no).all (fun w => decide (w = .castable xN xN) || (decide (w = .castable "java/lang/RuntimeException" "java/lang/Throwable") || (mDecl.any (fun q => decide (w = .declares q)) || (decide (w ∈ lw_tbl) && goodWord w))))) = true) : ∀ w ∈ (nxAtoms own ic).filter vx_no, w = .castable xN xN ∨ w = .castable "java/lang/RuntimeException" "java/lang/Throwable" ∨ (∃ q ∈ mDecl, w = .declares q) ∨ w ∈ mTW := by
  intro w hw
  have h1 := List.all_eq_true.mp h w hw
  simp only [Bool.or_eq_true, Bool.and_eq_true, decide_eq_true_eq, List.any_eq_true] at h1
  rcases h1 with h1 | h1 | h1 | h1
  · exact Or.inl h1
  · exact Or.inr (Or.inl h1)
  · exact Or.inr (Or.inr (Or.inl h1))
  · exact Or.inr (Or.inr (Or.inr (List.mem_filter.mpr ⟨h1.1, h1.2⟩)))
set_option maxRecDepth 100000 in
theorem atNp : ∀ w ∈ (nxAtoms RX0 126).filter vx_no, w = .castable xN xN ∨ w = .castable "java/lang/RuntimeException" "java/lang/Throwable" ∨ (∃ q ∈ mDecl, w = .declares q) ∨ w ∈ mTW := m_thrN (by decide +kernel)
theorem lkNp : Cond.classLink RX0 122 xN ∈ lw_tbl ∧ Cond.initialized xN ∈ lw_tbl := by decide +kernel
section MRX
variable {S : Nat × (Nat → Int32)} {M : mM} {pc k n kf nf : Nat} {L : List (Option Value)} {st : List Value} {h : mH} {r : mR}
theorem mr_throwN {ik is ic : Nat} {text : String} (d0 : mAt M pc = some (.new ik, 3)) (d3 : mAt M (pc + 3) = some (.dup, 1)) (d4 : mAt M (pc + 4) = some (.ldc is, 2)) (d6 : mAt M (pc + 6) = some (.invokespecial ic, 3)) (d9 : mAt M (pc + 9) = some (.athrow, 1))
    (ho : M.1.cls = RX0) (hik : ik = 122) (hic : ic = 126) (hst : (is, text) ∈ mStrs) (htab : M.2.2.2.2.1 = []) (hfr : 11 < M.2.2.2.2.2.1) (hlo : (st.map fun v => v.category).sum + 200 ≤ M.2.2.2.2.2.2.1) (hk' : k + 1 ≤ kf) (hn' : n + 8 ≤ nf) : mF S M pc L st h k n (.inr xN, h, kf, nf) := by
  intro N0 b sa D cy a0 z0 p l e R s m args below meth c C hk hn ad H locs ls X
  subst hik
  subst hic
  obtain ⟨g1, g2, g3, g4, g5, g6, g7, g8, g9⟩ := C.G
  have hk : kf ≤ R.cells := hk
  have hn : nf ≤ R.slots := hn
  have hown : s.vm.findClass RX0 = some m.cls := by
    have := C.own
    rw [ho] at this
    exact this
  have w1 : Cond.classLink RX0 122 xN ∈ mTW := List.mem_filter.mpr ⟨lkNp.1, rfl⟩
  have w2 : Cond.initialized xN ∈ mTW := List.mem_filter.mpr ⟨lkNp.2, rfl⟩
  have hcast : (Cond.castable xN xN).before args s = true := va_Nw.use rfl (g2.1 xN (by decide +kernel))
  have hcast2 : (Cond.castable "java/lang/RuntimeException" "java/lang/Throwable").before args s = true := va_Nw.use rfl g3.2
  refine vx_throwN (own := RX0) (text := text) (ik := 122) (is := is) (ic := 126) (sa := sa is) (A := mA N0) C.1 C.2.1 C.2.2.2.2.2.2.2.2.2.2.1 hown (C.ts _ w1) (C.ts _ w2) (g4 (is, text) hst) ?_ ?_ g5 g6 X.2.2.1 (X.2.2.2.1.1.trans C.2.2.2.2.2.1.symm)
    (mAt_dec C.2.2.1 d0) (mAt_dec C.2.2.1 d3) (mAt_dec C.2.2.1 d4) (mAt_dec C.2.2.1 d6) (mAt_dec C.2.2.1 d9) ?_ (Nat.lt_of_lt_of_le (by omega) C.2.2.2.2.2.2.2.2.2.2.2.2.2.1) ?_ (Nat.le_trans hk' hk) (Nat.le_trans hn' hn) C.locks ?_ X.2.2.1.2.2 hk' hn'
  · intro w hw
    rcases atNp w hw with rfl | rfl | ⟨q, hq, rfl⟩ | h9
    · exact hcast
    · exact hcast2
    · exact va_Nw.use rfl (g2.2 q hq)
    · exact C.ts w h9
  · intro w hw
    rcases List.mem_cons.mp hw with rfl | hw
    · rfl
    · rcases List.mem_cons.mp hw with rfl | hw
      · rfl
      · rcases atNp w hw with rfl | rfl | ⟨q, hq, rfl⟩ | h9
        · rfl
        · rfl
        · rfl
        · unfold vx_ot
          rw [(m_good h9).2, Bool.or_true]
  · intro x hx
    rw [C.2.2.2.2.2.2.2.2.2.1, htab] at hx
    cases hx
  · rw [m_sum]
    exact Nat.le_trans (by omega) C.2.2.2.2.2.2.2.2.2.2.2.2.2.2
  · intro t al hz hq
    refine ⟨rfl, ad, X.2.2.2.2.1, X.2.2.2.2.2.1, X.2.2.2.2.2.2, ?_, X.2.1, ?_⟩
    · intro j q hj
      exact (X.1 j q hj).kept (hq q.1 (X.1 j q hj).lt)
    · exact ⟨Nat.le_trans X.2.2.1.1 hz, fun j hj hA => by rw [hq j (Nat.lt_of_lt_of_le hj X.2.2.1.1)]; exact X.2.2.1.2.1 j hj hA⟩
end MRX
end
