/-! THE TWO OBJECTS' STATES, AND THEIR WORLDS -/
/-- the class: areas, waters, lefts, uses, draughts, places, open; depth, deepest, holds -/
abbrev cS : Type := (Nat → Int32) × (Nat → Int32) × (Nat → Int32) × (Nat → Int32) × (Nat → Int32) × (Nat → Int32) × (Nat → Int32) × Int32 × Int32 × Int32
def xw (X : cS) (T : mH) : mH := .inr (0, [.ref 1, .ref 2, .ref 3, .ref 4, .ref 5, .ref 6, .ref 7, .int X.2.2.2.2.2.2.2.1, .int X.2.2.2.2.2.2.2.2.1, .int X.2.2.2.2.2.2.2.2.2]) ::
  .inl (0, 8, .inl X.1) :: .inl (0, 8, .inl X.2.1) :: .inl (0, 8, .inl X.2.2.1) :: .inl (0, 7, .inl X.2.2.2.1) :: .inl (0, 10, .inl X.2.2.2.2.1) :: .inl (0, 10, .inl X.2.2.2.2.2.1) :: .inl (0, 11, .inl X.2.2.2.2.2.2.1) :: T
/-- the reference: isDug, area, water, left, where, draught, uses, held; thrown, open, holds, most, fails, went, passed -/
abbrev rS : Type := (Nat → Int32) × (Nat → Int32) × (Nat → Int32) × (Nat → Int32) × (Nat → Int32) × (Nat → Int32) × (Nat → Int32) × (Nat → Int32) × Int32 × Int32 × Int32 × Int32 × Int32 × Int32 × Int32
def yw (Y : rS) (T : mH) : mH := .inr (1, [.int Y.2.2.2.2.2.2.2.2.1, .ref 9, .ref 10, .ref 11, .ref 12, .ref 13, .ref 14, .ref 15, .ref 16, .int Y.2.2.2.2.2.2.2.2.2.1, .int Y.2.2.2.2.2.2.2.2.2.2.1, .int Y.2.2.2.2.2.2.2.2.2.2.2.1, .int Y.2.2.2.2.2.2.2.2.2.2.2.2.1, .int Y.2.2.2.2.2.2.2.2.2.2.2.2.2.1, .int Y.2.2.2.2.2.2.2.2.2.2.2.2.2.2]) ::
  .inl (1, 8, .inl Y.1) :: .inl (0, 8, .inl Y.2.1) :: .inl (0, 8, .inl Y.2.2.1) :: .inl (0, 8, .inl Y.2.2.2.1) :: .inl (0, 10, .inl Y.2.2.2.2.1) :: .inl (0, 10, .inl Y.2.2.2.2.2.1) :: .inl (0, 7, .inl Y.2.2.2.2.2.2.1) :: .inl (0, 32, .inl Y.2.2.2.2.2.2.2.1) :: T
abbrev mO : Type := Option Value ⊕ String
/-- a call that answers an int; a throw goes on -/
def bI {σ : Type} (m : Option (mO × σ)) (k : Int32 → σ → Option (mO × σ)) : Option (mO × σ) := match m with
  | some (.inl (some (.int v)), s) => k v s
  | some (.inr E, s) => some (.inr E, s)
  | _ => none
theorem bI_inv {σ : Type} {m : Option (mO × σ)} {k : Int32 → σ → Option (mO × σ)} {r : mO × σ} (h : bI m k = some r) : (∃ v s, m = some (.inl (some (.int v)), s) ∧ k v s = some r) ∨ ∃ E s, m = some (.inr E, s) ∧ r = (.inr E, s) := by
  unfold bI at h
  split at h
  · exact Or.inl ⟨_, _, rfl, h⟩
  · cases h; exact Or.inr ⟨_, _, rfl, rfl⟩
  · cases h
def bV {σ : Type} (m : Option (mO × σ)) (k : σ → Option (mO × σ)) : Option (mO × σ) := match m with
  | some (.inl none, s) => k s
  | some (.inr E, s) => some (.inr E, s)
  | _ => none
theorem bV_inv {σ : Type} {m : Option (mO × σ)} {k : σ → Option (mO × σ)} {r : mO × σ} (h : bV m k = some r) : (∃ s, m = some (.inl none, s) ∧ k s = some r) ∨ ∃ E s, m = some (.inr E, s) ∧ r = (.inr E, s) := by
  unfold bV at h
  split at h
  · exact Or.inl ⟨_, rfl, h⟩
  · cases h; exact Or.inr ⟨_, _, rfl, rfl⟩
  · cases h
/-- a call of a method that has no world of its own -/
def cI {σ : Type} (m : Option mO) (s : σ) (k : Int32 → Option (mO × σ)) : Option (mO × σ) := match m with
  | some (.inl (some (.int v))) => k v
  | some (.inr E) => some (.inr E, s)
  | _ => none
theorem cI_inv {σ : Type} {m : Option mO} {s : σ} {k : Int32 → Option (mO × σ)} {r : mO × σ} (h : cI m s k = some r) : (∃ v, m = some (.inl (some (.int v))) ∧ k v = some r) ∨ ∃ E, m = some (.inr E) ∧ r = (.inr E, s) := by
  unfold cI at h
  split at h
  · exact Or.inl ⟨_, rfl, h⟩
  · cases h; exact Or.inr ⟨_, rfl, rfl⟩
  · cases h
def cV {σ : Type} (m : Option mO) (s : σ) (k : Option (mO × σ)) : Option (mO × σ) := match m with
  | some (.inl none) => k
  | some (.inr E) => some (.inr E, s)
  | _ => none
theorem cV_inv {σ : Type} {m : Option mO} {s : σ} {k : Option (mO × σ)} {r : mO × σ} (h : cV m s k = some r) : (m = some (.inl none) ∧ k = some r) ∨ ∃ E, m = some (.inr E) ∧ r = (.inr E, s) := by
  unfold cV at h
  split at h
  · exact Or.inl ⟨rfl, h⟩
  · cases h; exact Or.inr ⟨_, rfl, rfl⟩
  · cases h
def dI (m : Option mO) (k : Int32 → Option mO) : Option mO := match m with
  | some (.inl (some (.int v))) => k v
  | some (.inr E) => some (.inr E)
  | _ => none
theorem dI_inv {m : Option mO} {k : Int32 → Option mO} {r : mO} (h : dI m k = some r) : (∃ v, m = some (.inl (some (.int v))) ∧ k v = some r) ∨ ∃ E, m = some (.inr E) ∧ r = .inr E := by
  unfold dI at h
  split at h
  · exact Or.inl ⟨_, rfl, h⟩
  · cases h; exact Or.inr ⟨_, rfl, rfl⟩
  · cases h
/-- an index within its row -/
abbrev vpb (i : Int32) (n : Nat) : Prop := 0 ≤ i ∧ i.toNatClampNeg < n
theorem vpb_in {i : Int32} {n : Nat} (h : vpb i n) : vp_in i n := by
  unfold vp_in
  rintro (h1 | h1)
  · have h2 := h.1
    rw [Int32.lt_iff_toInt_lt] at h1
    rw [Int32.le_iff_toInt_le] at h2
    omega
  · exact absurd h.2 (Nat.not_lt.mpr h1)
theorem m_tabOut (lo hi : Int) (x : Int32) (h : ∀ c : Int, lo ≤ c → c ≤ hi → ¬ x = Int32.ofInt c) : x.toInt < lo ∨ hi < x.toInt := by
  by_cases h1 : x.toInt < lo
  · exact Or.inl h1
  · by_cases h2 : hi < x.toInt
    · exact Or.inr h2
    · exact absurd (Int32.ofInt_toInt x).symm (h x.toInt (by omega) (by omega))
section MRE
variable {S : Nat × (Nat → Int32)} {M : mM} {pc k n kf nf : Nat} {L L' : List (Option Value)} {st : List Value} {h h' : mH} {r : mR}
theorem ms_istore_n {j : Fin 4} {x : Int32} (hf : mAt M pc = some (.istore_n j, 1)) (hi : (j : Nat) < M.2.2.1) (hc : mOk1 L (j : Nat) = true) (hL : L.set (j : Nat) (some (.int x)) = L') (k9 : mF S M (pc + 1) L' st h k n r) : mF S M pc L (.int x :: st) h k n r := mr_istore_n hf hi hc (hL ▸ k9)
theorem ms_istore {i : Nat} {x : Int32} (hf : mAt M pc = some (.istore i, 2)) (hi : i < M.2.2.1) (hc : mOk1 L i = true) (hL : L.set i (some (.int x)) = L') (k9 : mF S M (pc + 2) L' st h k n r) : mF S M pc L (.int x :: st) h k n r := mr_istore hf hi hc (hL ▸ k9)
theorem ms_astore_n {j : Fin 4} {x : Nat} (hf : mAt M pc = some (.astore_n j, 1)) (hi : (j : Nat) < M.2.2.1) (hc : mOk1 L (j : Nat) = true) (hL : L.set (j : Nat) (some (.ref x)) = L') (k9 : mF S M (pc + 1) L' st h k n r) : mF S M pc L (.ref x :: st) h k n r := mr_astore_n hf hi hc (hL ▸ k9)
theorem ms_astore {i : Nat} {x : Nat} (hf : mAt M pc = some (.astore i, 2)) (hi : i < M.2.2.1) (hc : mOk1 L i = true) (hL : L.set i (some (.ref x)) = L') (k9 : mF S M (pc + 2) L' st h k n r) : mF S M pc L (.ref x :: st) h k n r := mr_astore hf hi hc (hL ▸ k9)
theorem ms_lstore_n {j : Fin 4} {x : Int64} (hf : mAt M pc = some (.lstore_n j, 1)) (hi : (j : Nat) + 1 < M.2.2.1) (hc : mOk1 L (j : Nat) = true) (hL : (L.set (j : Nat) (some (.long x))).set ((j : Nat) + 1) none = L') (k9 : mF S M (pc + 1) L' st h k n r) : mF S M pc L (.long x :: st) h k n r := mr_lstore_n hf hi hc (hL ▸ k9)
theorem ms_iinc {i : Nat} {d : Int} {x v : Int32} (hf : mAt M pc = some (.iinc i d, 3)) (hx0 : L[i]? = some (some (.int x))) (hv : Int32.ofInt d = v) (hi : i < M.2.2.1) (hc : mOk1 L i = true) (hL : L.set i (some (.int (x + v))) = L') (k9 : mF S M (pc + 3) L' st h k n r) : mF S M pc L st h k n r := mr_iinc (v := x + v) hf hx0 (by rw [hv]) hi hc (hL ▸ k9)
theorem ms_putfield {idx ci j q : Nat} {fs : List Value} {x : Int32} (hf : mAt M pc = some (.putfield idx, 3)) (lk : mLkF M.1.cls idx ci j) (hq : h[q]? = some (.inr (ci, fs))) (hl : j < fs.length) (hfin : ∀ q : vw_C, mCl[ci]? = some q → (q.2.1 j).2.2 = ("I", false)) (hh : h.set q (.inr (ci, fs.set j (.int x))) = h')
    (k9 : mF S M (pc + 3) L st h' k n r) : mF S M pc L (.int x :: .ref q :: st) h k n r := mr_putfield hf lk hq hl hfin (hh ▸ k9)
theorem ms_iastore {q N : Nat} {f : Nat → Int32} {i x : Int32} (hf : mAt M pc = some (.iastore, 1)) (hq : h[q]? = some (.inl (0, N, .inl f))) (hin : vpb i N) (hh : h.set q (.inl (0, N, .inl (upd f i.toNatClampNeg x))) = h') (k9 : mF S M (pc + 1) L st h' k n r) : mF S M pc L (.int x :: .int i :: .ref q :: st) h k n r := mr_iastore hf hq (vpb_in hin) (hh ▸ k9)
theorem ms_bastore {q N : Nat} {f : Nat → Int32} {i x : Int32} (hf : mAt M pc = some (.bastore, 1)) (hq : h[q]? = some (.inl (1, N, .inl f))) (hin : vpb i N) (hh : h.set q (.inl (1, N, .inl (upd f i.toNatClampNeg (vp_nar .boolean x)))) = h') (k9 : mF S M (pc + 1) L st h' k n r) : mF S M pc L (.int x :: .int i :: .ref q :: st) h k n r := mr_bastore hf hq (vpb_in hin) (hh ▸ k9)
theorem ms_lastore {q N : Nat} {f : Nat → Int64} {i : Int32} {x : Int64} (hf : mAt M pc = some (.lastore, 1)) (hq : h[q]? = some (.inl (2, N, .inr (.inl f)))) (hin : vpb i N) (hh : h.set q (.inl (2, N, .inr (.inl (vp_updL f i.toNatClampNeg x)))) = h') (k9 : mF S M (pc + 1) L st h' k n r) : mF S M pc L (.long x :: .int i :: .ref q :: st) h k n r := mr_lastore hf hq (vpb_in hin) (hh ▸ k9)
end MRE
