/-! THE SMALL MACHINE: a state is a pc, locals and stack of values whose references are PLACES in a list of cells, and that list. mF: from there the method's run ends with a known outcome and a known list. -/
/-- a method: name, bytes, locals, result, exception table, frames and words for its callees, instructions -/
abbrev mM : Type := MethodName × ByteArray × Nat × Option FieldType × List (Nat × Nat × Nat × Nat) × Nat × Nat × List (Nat × Instr × Nat)
def mAt (M : mM) (pc : Nat) : Option (Instr × Nat) := M.2.2.2.2.2.2.2.lookup pc
def mOk (M : mM) : Prop := ∀ q ∈ M.2.2.2.2.2.2.2, decode M.2.1 q.1 = .ok q.2
theorem m_lookup {β : Type} (l : List (Nat × β)) (a : Nat) (b : β) (h : l.lookup a = some b) : (a, b) ∈ l := by
  induction l with
  | nil => cases h
  | cons q t ih =>
    obtain ⟨x, y⟩ := q
    by_cases hx : a = x
    · subst hx
      simp only [List.lookup, BEq.rfl] at h
      cases h
      exact List.mem_cons_self
    · have hx' : (a == x) = false := by simpa using hx
      simp only [List.lookup, hx'] at h
      exact List.mem_cons_of_mem _ (ih h)
theorem mAt_dec {M : mM} (h : mOk M) {pc : Nat} {x : Instr × Nat} (hx : mAt M pc = some x) : decode M.2.1 pc = .ok x := h (pc, x) (m_lookup _ _ _ hx)
/-- the words that every frame has -/
def mTW : List Cond := lw_tbl.filter goodWord
/-- a small value as a real one: a place becomes its address -/
def mv (ad : Nat → Nat) : Value → Value
  | .ref k => .ref (ad k)
  | v => v
theorem mv_cat (ad : Nat → Nat) (v : Value) : (mv ad v).category = v.category := by cases v <;> rfl
abbrev mE : Type := (Nat × vp_A) ⊕ (Nat × List Value)
abbrev mH : Type := List mE
def mvE (ad : Nat → Nat) (cy : Nat → ClassId) : mE → va_E
  | .inl q => .inl (cy q.1, q.2)
  | .inr q => .inr (q.1, q.2.map (mv ad))
def mw (ad : Nat → Nat) (cy : Nat → ClassId) (h : mH) : va_W := h.mapIdx (fun k e => (ad k, mvE ad cy e))
theorem mw_at {ad : Nat → Nat} {cy : Nat → ClassId} {h : mH} {k : Nat} {e : mE} (hk : h[k]? = some e) : (mw ad cy h)[k]? = some (ad k, mvE ad cy e) := by
  unfold mw
  rw [List.getElem?_mapIdx, hk]
  rfl
theorem mw_len {ad : Nat → Nat} {cy : Nat → ClassId} {h : mH} : (mw ad cy h).length = h.length := by simp [mw]
theorem mw_set {ad : Nat → Nat} {cy : Nat → ClassId} {h : mH} {k : Nat} {e : mE} : (mw ad cy h).set k (ad k, mvE ad cy e) = mw ad cy (h.set k e) := by
  apply List.ext_getElem?
  intro i
  unfold mw
  rw [List.getElem?_mapIdx, List.getElem?_set, List.getElem?_set, List.getElem?_mapIdx, List.length_mapIdx]
  by_cases hi : k = i
  · subst hi
    rw [if_pos rfl, if_pos rfl]
    by_cases hl : k < h.length
    · rw [if_pos hl, if_pos hl]; rfl
    · rw [if_neg hl, if_neg hl]; rfl
  · rw [if_neg hi, if_neg hi]
/-- the locals -/
def mL (ad : Nat → Nat) (ls : Array Slot) (nL : Nat) (L : List (Option Value)) : Prop := ls.size = nL ∧ lv_wf ls ∧ ∀ (i : Nat) (v : Value), L[i]? = some (some v) → ls[i]? = some (.val (mv ad v))
def mLs (ad : Nat → Nat) (L : List (Option Value)) : List (Nat × Value) := (List.range L.length).filterMap (fun i => (L[i]?.join).map (fun v => (i, mv ad v)))
theorem mLs_mem {ad : Nat → Nat} {L : List (Option Value)} {q : Nat × Value} : q ∈ mLs ad L ↔ ∃ v, L[q.1]? = some (some v) ∧ q.2 = mv ad v := by
  unfold mLs
  rw [List.mem_filterMap]
  constructor
  · rintro ⟨i, hi, h⟩
    cases hL : L[i]? with
    | none => simp [hL] at h
    | some o =>
      cases o with
      | none => simp [hL] at h
      | some v =>
        simp [hL] at h
        subst h
        exact ⟨v, hL, rfl⟩
  · rintro ⟨v, h1, h2⟩
    refine ⟨q.1, ?_, ?_⟩
    · rw [List.mem_range]
      exact (List.getElem?_eq_some_iff.mp h1).1
    · obtain ⟨i, w⟩ := q
      simp [h1] at h2 ⊢
      exact h2.symm
theorem mL.has {ad : Nat → Nat} {ls : Array Slot} {nL : Nat} {L : List (Option Value)} (h : mL ad ls nL L) : lv_has ls nL (mLs ad L) := by
  refine ⟨h.1, h.2.1, fun q hq => ?_⟩
  obtain ⟨v, h1, h2⟩ := mLs_mem.mp hq
  rw [h2]
  exact h.2.2 _ _ h1
/-- no long ends at the place before -/
def mOk1 (L : List (Option Value)) : Nat → Bool
  | 0 => true
  | j + 1 => match L[j]? with
    | some (some v) => v.category == 1
    | _ => true
theorem mL.set1 {ad : Nat → Nat} {ls' : Array Slot} {nL i : Nat} {L : List (Option Value)} {v w : Value} (hw : mv ad v = w) (hc : mOk1 L i = true)
    (h : lv_has ls' nL ((i, w) :: (mLs ad L).filter (fun q => !(q.1 == i) && !(q.1 + 1 == i && q.2.category == 2)))) : mL ad ls' nL (L.set i (some v)) := by
  refine ⟨h.1, h.2.1, fun j x hx => ?_⟩
  by_cases hj : i = j
  · subst hj
    rw [List.getElem?_set] at hx
    simp only [if_true] at hx
    split at hx
    · cases hx
      rw [hw]
      exact h.2.2 (i, w) List.mem_cons_self
    · cases hx
  · rw [List.getElem?_set, if_neg hj] at hx
    refine h.2.2 (j, mv ad x) (List.mem_cons_of_mem _ (List.mem_filter.mpr ⟨mLs_mem.mpr ⟨x, hx, rfl⟩, ?_⟩))
    have h1 : (j == i) = false := by simpa using fun q => hj q.symm
    simp only [h1, Bool.not_false, Bool.true_and, Bool.not_eq_true', Bool.and_eq_false_iff]
    by_cases h2 : j + 1 = i
    · right
      subst h2
      simp only [mOk1, hx] at hc
      rw [mv_cat]
      have h3 : x.category = 1 := by simpa using hc
      rw [h3]; rfl
    · left
      simpa using h2
/-- any value stored: nothing is known of the place -/
theorem mL.set0 {ad : Nat → Nat} {ls' : Array Slot} {nL i : Nat} {L : List (Option Value)} {w : Value} (hc : mOk1 L i = true)
    (h : lv_has ls' nL ((i, w) :: (mLs ad L).filter (fun q => !(q.1 == i) && !(q.1 + 1 == i && q.2.category == 2)))) : mL ad ls' nL (L.set i none) := by
  refine ⟨h.1, h.2.1, fun j x hx => ?_⟩
  by_cases hj : i = j
  · subst hj
    rw [List.getElem?_set] at hx
    simp only [if_true] at hx
    split at hx
    · cases hx
    · cases hx
  · rw [List.getElem?_set, if_neg hj] at hx
    refine h.2.2 (j, mv ad x) (List.mem_cons_of_mem _ (List.mem_filter.mpr ⟨mLs_mem.mpr ⟨x, hx, rfl⟩, ?_⟩))
    have h1 : (j == i) = false := by simpa using fun q => hj q.symm
    simp only [h1, Bool.not_false, Bool.true_and, Bool.not_eq_true', Bool.and_eq_false_iff]
    by_cases h2 : j + 1 = i
    · right
      subst h2
      simp only [mOk1, hx] at hc
      rw [mv_cat]
      have h3 : x.category = 1 := by simpa using hc
      rw [h3]; rfl
    · left
      simpa using h2
theorem mL.set2 {ad : Nat → Nat} {ls' : Array Slot} {nL i : Nat} {L : List (Option Value)} {v w : Value} (hw : mv ad v = w) (hc : mOk1 L i = true)
    (h : lv_has ls' nL ((i, w) :: (mLs ad L).filter (fun q => !(q.1 == i) && (!(q.1 == i + 1) && !(q.1 + 1 == i && q.2.category == 2))))) : mL ad ls' nL ((L.set i (some v)).set (i + 1) none) := by
  refine ⟨h.1, h.2.1, fun j x hx => ?_⟩
  by_cases hk : i + 1 = j
  · subst hk
    rw [List.getElem?_set] at hx
    simp only [if_true] at hx
    split at hx
    · cases hx
    · cases hx
  rw [List.getElem?_set, if_neg hk] at hx
  by_cases hj : i = j
  · subst hj
    rw [List.getElem?_set] at hx
    simp only [if_true] at hx
    split at hx
    · cases hx
      rw [hw]
      exact h.2.2 (i, w) List.mem_cons_self
    · cases hx
  · rw [List.getElem?_set, if_neg hj] at hx
    refine h.2.2 (j, mv ad x) (List.mem_cons_of_mem _ (List.mem_filter.mpr ⟨mLs_mem.mpr ⟨x, hx, rfl⟩, ?_⟩))
    have h1 : (j == i) = false := by simpa using fun q => hj q.symm
    have h1' : (j == i + 1) = false := by simpa using fun q => hk q.symm
    simp only [h1, h1', Bool.not_false, Bool.true_and, Bool.not_eq_true', Bool.and_eq_false_iff]
    by_cases h2 : j + 1 = i
    · right
      subst h2
      simp only [mOk1, hx] at hc
      rw [mv_cat]
      have h3 : x.category = 1 := by simpa using hc
      rw [h3]; rfl
    · left
      simpa using h2
/-- a call's arguments as locals -/
def mA0 : List Value → List (Option Value)
  | [] => []
  | v :: vs => if v.category = 2 then some v :: none :: mA0 vs else some v :: mA0 vs
def mEnt (As : List Value) (n : Nat) : List (Option Value) := mA0 As ++ List.replicate (n - (mA0 As).length) none
theorem mA0_mem (ad : Nat → Nat) : ∀ (As : List Value) (o i : Nat) (v : Value), (mA0 As)[i]? = some (some v) → (o + i, mv ad v) ∈ lv_args o (As.map (mv ad)) := by
  intro As
  induction As with
  | nil => intro o i v h; simp [mA0] at h
  | cons a t ih =>
    intro o i v h
    unfold mA0 at h
    simp only [List.map_cons, lv_args]
    by_cases hc : a.category = 2
    · rw [if_pos hc] at h
      rw [if_pos (by rw [mv_cat]; exact hc)]
      match i, h with
      | 0, h => simp at h; subst h; exact List.mem_cons_self
      | 1, h => simp at h
      | i + 2, h =>
        have h9 : (mA0 t)[i]? = some (some v) := by simpa using h
        have := ih (o + 2) i v h9
        rw [show o + (i + 2) = o + 2 + i by omega]
        exact List.mem_cons_of_mem _ this
    · rw [if_neg hc] at h
      rw [if_neg (by rw [mv_cat]; exact hc)]
      match i, h with
      | 0, h => simp at h; subst h; exact List.mem_cons_self
      | i + 1, h =>
        have h9 : (mA0 t)[i]? = some (some v) := by simpa using h
        have := ih (o + 1) i v h9
        rw [show o + (i + 1) = o + 1 + i by omega]
        exact List.mem_cons_of_mem _ this
theorem mA0_len (ad : Nat → Nat) : ∀ As : List Value, (lg_sl (As.map (mv ad))).length = (mA0 As).length := by
  intro As
  induction As with
  | nil => rfl
  | cons a t ih =>
    have e : lg_sl ((a :: t).map (mv ad)) = (if (mv ad a).category = 2 then [.val (mv ad a), .second] else [.val (mv ad a)]) ++ lg_sl (t.map (mv ad)) := by simp [lg_sl]
    have e2 : mA0 (a :: t) = if a.category = 2 then some a :: none :: mA0 t else some a :: mA0 t := rfl
    rw [e, List.length_append, ih, e2, mv_cat]
    by_cases hc : a.category = 2
    · rw [if_pos hc, if_pos hc]; simp only [List.length_cons, List.length_nil]; omega
    · rw [if_neg hc, if_neg hc]; simp only [List.length_cons, List.length_nil]; omega
theorem mL_entry (ad : Nat → Nat) (As : List Value) {n : Nat} (h : (mA0 As).length ≤ n) : mL ad ((lg_sl (As.map (mv ad)) ++ List.replicate (n - (lg_sl (As.map (mv ad))).length) Slot.unset).toArray) n (mEnt As n) := by
  have h1 := lv_entry (As.map (mv ad)) (n := n) (by rw [mA0_len]; exact h)
  refine ⟨h1.1, h1.2.1, fun i v hv => ?_⟩
  unfold mEnt at hv
  rw [List.getElem?_append] at hv
  split at hv
  · have := h1.2.2 _ (mA0_mem ad As 0 i v hv)
    rw [Nat.zero_add] at this
    exact this
  · rw [List.getElem?_replicate] at hv
    split at hv
    · cases hv
    · cases hv
