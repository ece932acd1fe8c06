/-! THE WORDS OF THE THROWS -/
theorem m_thr {own : String} {ic : Nat} {E : String} {names : List String} (h : ((vx_atS own ic E names).all (fun w => decide (w = .castable E E) || (mDecl.any (fun q => decide (w = .declares q)) || (decide (w ∈ lw_tbl) && goodWord w)))) = true) : ∀ w ∈ vx_atS own ic E names, w = .castable E E ∨ (∃ q ∈ mDecl, w = .declares q) ∨ w ∈ mTW := by
  intro w hw
  have h1 := List.all_eq_true.mp h w hw
  simp only [Bool.or_eq_true, Bool.and_eq_true, decide_eq_true_eq, List.any_eq_true] at h1
  rcases h1 with h1 | h1 | h1
  · exact Or.inl h1
  · exact Or.inr (Or.inl h1)
  · exact Or.inr (Or.inr (List.mem_filter.mpr ⟨h1.1, h1.2⟩))
set_option maxRecDepth 100000 in
theorem atA : ∀ w ∈ vx_atS RX0 93 xA ["java/lang/IndexOutOfBoundsException", "java/lang/RuntimeException", "java/lang/Exception"], w = .castable xA xA ∨ (∃ q ∈ mDecl, w = .declares q) ∨ w ∈ mTW := m_thr (by decide +kernel)
set_option maxRecDepth 100000 in
theorem atI : ∀ w ∈ vx_atS RX0 61 xI ["java/lang/RuntimeException", "java/lang/Exception"], w = .castable xI xI ∨ (∃ q ∈ mDecl, w = .declares q) ∨ w ∈ mTW := m_thr (by decide +kernel)
set_option maxRecDepth 100000 in
theorem atSt : ∀ w ∈ vx_atS RX0 84 xS ["java/lang/RuntimeException", "java/lang/Exception"], w = .castable xS xS ∨ (∃ q ∈ mDecl, w = .declares q) ∨ w ∈ mTW := m_thr (by decide +kernel)
set_option maxRecDepth 100000 in
theorem atU : ∀ w ∈ vx_atS RX0 166 xU ["java/lang/RuntimeException", "java/lang/Exception"], w = .castable xU xU ∨ (∃ q ∈ mDecl, w = .declares q) ∨ w ∈ mTW := m_thr (by decide +kernel)
set_option maxRecDepth 100000 in
theorem atD : ∀ w ∈ vx_atS RX0 171 xD ["java/lang/RuntimeException", "java/lang/Exception"], w = .castable xD xD ∨ (∃ q ∈ mDecl, w = .declares q) ∨ w ∈ mTW := m_thr (by decide +kernel)
