/-! THROWS, BY THEIR SITES -/
def nmA : List String := ["java/lang/IndexOutOfBoundsException", "java/lang/RuntimeException", "java/lang/Exception"]
def nmR : List String := ["java/lang/RuntimeException", "java/lang/Exception"]
theorem lt_59 : mLkT RX0 57 59 61 xI "the height is below 0" nmR := ⟨rfl, by decide +kernel, by decide +kernel, by decide +kernel, by decide +kernel, m_in 240 (by decide +kernel) rfl, m_in 43 (by decide +kernel) rfl, atI⟩
theorem lt_82 : mLkT RX0 80 82 84 xS "the boat lies in no pool" nmR := ⟨rfl, by decide +kernel, by decide +kernel, by decide +kernel, by decide +kernel, m_in 310 (by decide +kernel) rfl, m_in 46 (by decide +kernel) rfl, atSt⟩
theorem lt_91 : mLkT RX0 89 91 93 xA "no gate that way" nmA := ⟨rfl, by decide +kernel, by decide +kernel, by decide +kernel, by decide +kernel, m_in 234 (by decide +kernel) rfl, m_in 41 (by decide +kernel) rfl, atA⟩
theorem lt_107 : mLkT RX0 57 107 61 xI "the first pool is above the last" nmR := ⟨rfl, by decide +kernel, by decide +kernel, by decide +kernel, by decide +kernel, m_in 240 (by decide +kernel) rfl, m_in 43 (by decide +kernel) rfl, atI⟩
theorem lt_150 : mLkT RX0 89 150 93 xA "no such boat" nmA := ⟨rfl, by decide +kernel, by decide +kernel, by decide +kernel, by decide +kernel, m_in 234 (by decide +kernel) rfl, m_in 41 (by decide +kernel) rfl, atA⟩
theorem lt_152 : mLkT RX0 89 152 93 xA "no such pool" nmA := ⟨rfl, by decide +kernel, by decide +kernel, by decide +kernel, by decide +kernel, m_in 234 (by decide +kernel) rfl, m_in 41 (by decide +kernel) rfl, atA⟩
theorem lt_154 : mLkT RX0 89 154 93 xA "no such gate" nmA := ⟨rfl, by decide +kernel, by decide +kernel, by decide +kernel, by decide +kernel, m_in 234 (by decide +kernel) rfl, m_in 41 (by decide +kernel) rfl, atA⟩
theorem lt_156 : mLkT RX0 57 156 61 xI "a number is out of its range" nmR := ⟨rfl, by decide +kernel, by decide +kernel, by decide +kernel, by decide +kernel, m_in 240 (by decide +kernel) rfl, m_in 43 (by decide +kernel) rfl, atI⟩
theorem lt_160 : mLkT RX0 80 160 84 xS "a gate is worn, or the boat lies in no pool" nmR := ⟨rfl, by decide +kernel, by decide +kernel, by decide +kernel, by decide +kernel, m_in 310 (by decide +kernel) rfl, m_in 46 (by decide +kernel) rfl, atSt⟩
theorem lt_164 : mLkT RX0 162 164 166 xU "the boat is stuck" nmR := ⟨rfl, by decide +kernel, by decide +kernel, by decide +kernel, by decide +kernel, m_in 326 (by decide +kernel) rfl, m_in 47 (by decide +kernel) rfl, atU⟩
theorem lt_169 : mLkT RX0 167 169 171 xD "levelling is slow" nmR := ⟨rfl, by decide +kernel, by decide +kernel, by decide +kernel, by decide +kernel, m_in 342 (by decide +kernel) rfl, m_in 48 (by decide +kernel) rfl, atD⟩
section MRW
variable {p : Program} {l : Launch} {e : Env} {R : Room} {s : State} {m : MethodId} {args : Array Value} {below : List Frame} {meth : Method} {c : Code} {H : Heap} {locs : List Loc} {cells slots : Nat}
variable {free : Addr → Prop} {ls : Array Slot} {rest : List Value} {Qc : Array Value → State → Outcome → State → Prop} {XC : String → State → State → Prop}
/-- 'throw new NullPointerException("text")': new; dup; ldc; invokespecial; athrow -/
theorem vx_throwN {cc : ByteArray} {pc : Nat} (hexec : p.tables.exec = Jvm.exec) (hb : c.code = cc) (hl : l.stackTraces = false) {own text : String} {ik is ic mc ms sa : Nat} {A : Nat → Prop}
    (hown : s.vm.findClass own = some m.cls)
    (hk : (Cond.classLink own ik Jvm.Bundle.nN).before args s = true) (hini : (Cond.initialized Jvm.Bundle.nN).before args s = true) (hstr : vk_R own is text sa s) (hat : ∀ w ∈ (nxAtoms own ic).filter vx_no, w.before args s = true)
    (hgood : ∀ w ∈ Cond.classLink own ik Jvm.Bundle.nN :: Cond.initialized Jvm.Bundle.nN :: (nxAtoms own ic).filter vx_no, vx_ot w = true)
    (hU : vx_Zq Jvm.Bundle.tN "UNASSIGNED_STACK" Jvm.Bundle.steD A s s.heap) (hN : vx_Zq Jvm.Bundle.tN "SUPPRESSED_SENTINEL" Jvm.Bundle.listD A s s.heap) (hS : va_S A s.heap H locs) (hsize : ls.size = c.maxLocals)
    (d0 : decode cc pc = .ok (.new ik, 3)) (d3 : decode cc (pc + 3) = .ok (.dup, 1)) (d4 : decode cc (pc + 4) = .ok (.ldc is, 2)) (d6 : decode cc (pc + 6) = .ok (.invokespecial ic, 3)) (d9 : decode cc (pc + 9) = .ok (.athrow, 1))
    (hout : ∀ x ∈ c.exceptionTable.toList, covers x (pc + 9) = false)
    (hRframes : 6 < R.frames) (hRlocals : (rest.map fun v => v.category).sum + 96 ≤ R.locals) (hRcells : cells + 1 ≤ R.cells) (hRslots : slots + 8 ≤ R.slots) (hlocks : meth.locks = false)
    (hx : ∀ t : State, s.vm.Alike t.vm → H.size ≤ t.heap.size → (∀ q : Nat, q < H.size → t.heap[q]? = H[q]?) → XC Jvm.Bundle.nN s t)
    (hf : ∀ z ∈ locs, free z.base) (hc : cells + 1 ≤ mc) (hs : slots + 8 ≤ ms) :
    W p l e R s m args below meth c H locs cells slots (vx_MQ below Qc XC args s mc ms free) (F0 m pc ls rest) := by
  intro T hT X
  have htr : e.platform.stackTraces = false := (show e.platform.stackTraces = l.stackTraces by rw [X.admits.platform]).trans hl
  have Y := vx_rebase X (R' := { frames := R.frames, locals := R.locals, cells := 1, slots := 8 }) (Nat.le_refl _) (Nat.le_refl _) hRcells hRslots
  obtain ⟨s', hA⟩ : ∃ z, z = (T.setVm s.vm).setFrames (.invoking m args :: below) := ⟨_, rfl⟩
  rw [← hA] at Y
  have hvm : s'.vm = s.vm := by rw [hA]; rfl
  have hhp : s'.heap = H := by rw [hA]; exact hT
  have hW0 : s.WarmedH s'.vm := by rw [hvm]; exact State.WarmedH.refl s
  have hat' : ∀ w ∈ (nxAtoms own ic).filter vx_no, w.before args s' = true := fun w hw => vx_ot_at hW0 hvm.symm (hgood w (List.mem_cons_of_mem _ (List.mem_cons_of_mem _ hw))) (hat w hw)
  have hk' : (Cond.classLink own ik Jvm.Bundle.nN).before args s' = true := vx_ot_at hW0 hvm.symm (hgood _ List.mem_cons_self) hk
  have hini' : (Cond.initialized Jvm.Bundle.nN).before args s' = true := vx_ot_at hW0 hvm.symm (hgood _ (List.mem_cons_of_mem _ List.mem_cons_self)) hini
  have hU' : vx_Zq Jvm.Bundle.tN "UNASSIGNED_STACK" Jvm.Bundle.steD A s' s'.heap := by rw [hhp]; exact vx_Zq.moved hW0.alike (hU.kept hS.2.1)
  have hN' : vx_Zq Jvm.Bundle.tN "SUPPRESSED_SENTINEL" Jvm.Bundle.listD A s' s'.heap := by rw [hhp]; exact vx_Zq.moved hW0.alike (hN.kept hS.2.1)
  have h : ∀ w ∈ nxAtoms own ic, w.before args s' = true := vx_own hat' (vx_isRefq hU'.1) (vx_isRefq hN'.1) hU'.2.word hN'.2.word
  have hown' : s'.vm.findClass own = some m.cls := by rw [hvm]; exact hown
  have hins : (Cond.instantiable Jvm.Bundle.nN 8).before args s' = true := h _ (by simp [nxAtoms])
  obtain ⟨vm₁, cX, kX, hfX, hkX, -, -, X₁, st1⟩ := Y.newCold hexec (own := own) (C := Jvm.Bundle.nN) (index := ik) (n := 8) hown' hk' hins hini'
    (g := F0 m pc ls rest) rfl (by rw [hb]; exact d0) (Nat.le_refl _) (Nat.le_refl _)
  generalize hT1 : (T.setVm vm₁).pushCell { cls := cX, slots := kX.instanceTypes.map defaultValue, vm := .none } = T1 at X₁ st1
  have hcat : (Value.ref T.heap.size).category = 1 := rfl
  have hcellA : T1.heap[T.heap.size]? = some (freshCell cX kX) := by rw [← hT1]; exact State.heap_pushCell_size _ _
  have d3' : decode c.code (pc + 3) = .ok (.dup, 1) := by rw [hb]; exact d3
  have d4' : decode c.code (pc + 4) = .ok (.ldc is, 2) := by rw [hb]; exact d4
  have hstr' : vk_R own is text sa s' := vk_R.warm hW0 hstr
  obtain ⟨U, hsteps, hrun, hend, hW, hsame, ce, hce, hcev, hcec⟩ := nx_ctorThrow X₁ hexec htr (own := own) (ic := ic) hown' h (fun x hx => nomatch hx) hfX hkX hcellA (by rw [hhp, hT]; exact Nat.le_refl _) (msg := .ref sa) rfl
    (g := { method := m, pc := pc + 6, locals := ls, stack := .ref sa :: .ref T.heap.size :: .ref T.heap.size :: rest, locked := none }) rfl hsize rfl rfl (rest := rest) rfl
    (by rw [hb]; exact d6) (by rw [hb]; exact d9) hout hRframes (by simp only [List.map_cons, List.sum_cons, hcat]; omega) hlocks
  obtain ⟨f1, f2⟩ := vx_frame hsame
  rw [hhp] at f1 f2
  have hWs : s.WarmedH U.vm := State.WarmedH.trans hW0 hW
  have hcl : s.vm.findClass Jvm.Bundle.nN = some ce.cls := by
    rw [hvm] at hcec
    exact hcec
  have hall : s.sameButNew ({ U with vm := s.vm } : State) locs mc ms := by
    subst hA
    obtain ⟨e1, e2⟩ := hsame
    rw [State.setFrames_setFrames] at e1
    have h2 : (T.setVm s.vm).sameButNew ({ U with vm := s.vm } : State) [] (0 + 1) (0 + 8) := ⟨e1, e2⟩
    have h3 := X.same.trans h2
    rw [List.append_nil] at h3
    exact h3.mono hc hs
  refine ⟨U, ?_, .threw T.heap.size, hrun, hend, Or.inr ⟨T.heap.size, rfl, Jvm.Bundle.nN, ce, locs, hx U hWs.alike f1 (fun q hq => f2 q hq (fun z hz => nomatch hz)), hce, hcev, hcl, hWs, hall, hf⟩⟩
  refine st1 _ ?_
  show Steps p.tables e below (T1.setTop { method := m, pc := pc + 3, locals := ls, stack := .ref T.heap.size :: rest, locked := none }) _
  jvm_step X₁.here [X₁.here.top, hexec, d3', Value.category]
  exact X₁.ldcString hexec (own := own) (text := text) (index := is) (a := sa) hown' hstr'.1 hstr'.2
    (g := { method := m, pc := pc + 4, locals := ls, stack := .ref T.heap.size :: .ref T.heap.size :: rest, locked := none }) rfl d4' _ hsteps
end MRW
theorem m_thrN {own : String} {ic : Nat} (h : (((nxAtoms own ic).filter vx_no).all (fun w => decide (w = .castable xN xN) || (decide (w = .castable "java/lang/RuntimeException" "java/lang/Throwable") || (mDecl.any (fun q => decide (w = .declares q)) || (decide (w ∈ lw_tbl) && goodWord w))))) = true) : ∀ w ∈ (nxAtoms own ic).filter vx_no, w = .castable xN xN ∨ w = .castable "java/lang/RuntimeException" "java/lang/Throwable" ∨ (∃ q ∈ mDecl, w = .declares q) ∨ w ∈ mTW := by
  intro w hw
  have h1 := List.all_eq_true.mp h w hw
  simp only [Bool.or_eq_true, Bool.and_eq_true, decide_eq_true_eq, List.any_eq_true] at h1
  rcases h1 with h1 | h1 | h1 | h1
  · exact Or.inl h1
  · exact Or.inr (Or.inl h1)
  · exact Or.inr (Or.inr (Or.inl h1))
  · exact Or.inr (Or.inr (Or.inr (List.mem_filter.mpr ⟨h1.1, h1.2⟩)))
set_option maxRecDepth 100000 in
theorem atNp : ∀ w ∈ (nxAtoms RX0 125).filter vx_no, w = .castable xN xN ∨ w = .castable "java/lang/RuntimeException" "java/lang/Throwable" ∨ (∃ q ∈ mDecl, w = .declares q) ∨ w ∈ mTW := m_thrN (by decide +kernel)
theorem lkNp : Cond.classLink RX0 121 xN ∈ lw_tbl ∧ Cond.initialized xN ∈ lw_tbl := by decide +kernel
section MRX
variable {S : Nat × (Nat → Int32)} {M : mM} {pc k n kf nf : Nat} {L : List (Option Value)} {st : List Value} {h : mH} {r : mR}
theorem mr_throwN {ik is ic : Nat} {text : String} (d0 : mAt M pc = some (.new ik, 3)) (d3 : mAt M (pc + 3) = some (.dup, 1)) (d4 : mAt M (pc + 4) = some (.ldc is, 2)) (d6 : mAt M (pc + 6) = some (.invokespecial ic, 3)) (d9 : mAt M (pc + 9) = some (.athrow, 1))
    (ho : M.1.cls = RX0) (hik : ik = 121) (hic : ic = 125) (hst : (is, text) ∈ mStrs) (htab : M.2.2.2.2.1 = []) (hfr : 11 < M.2.2.2.2.2.1) (hlo : (st.map fun v => v.category).sum + 200 ≤ M.2.2.2.2.2.2.1) (hk' : k + 1 ≤ kf) (hn' : n + 8 ≤ nf) : mF S M pc L st h k n (.inr xN, h, kf, nf) := by
  intro N0 b sa D cy a0 z0 p l e R s m args below meth c C hk hn ad H locs ls X
  subst hik
  subst hic
  obtain ⟨g1, g2, g3, g4, g5, g6, g7, g8, g9⟩ := C.G
  have hk : kf ≤ R.cells := hk
  have hn : nf ≤ R.slots := hn
  have hown : s.vm.findClass RX0 = some m.cls := by
    have := C.own
    rw [ho] at this
    exact this
  have w1 : Cond.classLink RX0 121 xN ∈ mTW := List.mem_filter.mpr ⟨lkNp.1, rfl⟩
  have w2 : Cond.initialized xN ∈ mTW := List.mem_filter.mpr ⟨lkNp.2, rfl⟩
  have hcast : (Cond.castable xN xN).before args s = true := va_Nw.use rfl (g2.1 xN (by decide +kernel))
  have hcast2 : (Cond.castable "java/lang/RuntimeException" "java/lang/Throwable").before args s = true := va_Nw.use rfl g3.2
  refine vx_throwN (own := RX0) (text := text) (ik := 121) (is := is) (ic := 125) (sa := sa is) (A := mA N0) C.1 C.2.1 C.2.2.2.2.2.2.2.2.2.2.1 hown (C.ts _ w1) (C.ts _ w2) (g4 (is, text) hst) ?_ ?_ g5 g6 X.2.2.1 (X.2.2.2.1.1.trans C.2.2.2.2.2.1.symm)
    (mAt_dec C.2.2.1 d0) (mAt_dec C.2.2.1 d3) (mAt_dec C.2.2.1 d4) (mAt_dec C.2.2.1 d6) (mAt_dec C.2.2.1 d9) ?_ (Nat.lt_of_lt_of_le (by omega) C.2.2.2.2.2.2.2.2.2.2.2.2.2.1) ?_ (Nat.le_trans hk' hk) (Nat.le_trans hn' hn) C.locks ?_ X.2.2.1.2.2 hk' hn'
  · intro w hw
    rcases atNp w hw with rfl | rfl | ⟨q, hq, rfl⟩ | h9
    · exact hcast
    · exact hcast2
    · exact va_Nw.use rfl (g2.2 q hq)
    · exact C.ts w h9
  · intro w hw
    rcases List.mem_cons.mp hw with rfl | hw
    · rfl
    · rcases List.mem_cons.mp hw with rfl | hw
      · rfl
      · rcases atNp w hw with rfl | rfl | ⟨q, hq, rfl⟩ | h9
        · rfl
        · rfl
        · rfl
        · unfold vx_ot
          rw [(m_good h9).2, Bool.or_true]
  · intro x hx
    rw [C.2.2.2.2.2.2.2.2.2.1, htab] at hx
    cases hx
  · rw [m_sum]
    exact Nat.le_trans (by omega) C.2.2.2.2.2.2.2.2.2.2.2.2.2.2
  · intro t al hz hq
    refine ⟨rfl, ad, X.2.2.2.2.1, X.2.2.2.2.2.1, X.2.2.2.2.2.2, ?_, X.2.1, ?_⟩
    · intro j q hj
      exact (X.1 j q hj).kept (hq q.1 (X.1 j q hj).lt)
    · exact ⟨Nat.le_trans X.2.2.1.1 hz, fun j hj hA => by rw [hq j (Nat.lt_of_lt_of_le hj X.2.2.1.1)]; exact X.2.2.1.2.1 j hj hA⟩
end MRX
