/-! THE TWO SIDES, PIECE BY PIECE: numbers, counts, holds (source: wip/whole/src, made by wip/whole/pp.py) -/
theorem mK_gt : 9000000 < mK := by unfold mK; omega
section BO
variable {σ : Type} {m : Option (mO × σ)} {m1 : Option mO} {v : Int32} {s : σ} {E : String}
theorem bI_of (h : m = some (.inl (some (.int v)), s)) (k : Int32 → σ → Option (mO × σ)) : bI m k = k v s := by rw [h]; rfl
theorem bI_ex (h : m = some (.inr E, s)) (k : Int32 → σ → Option (mO × σ)) : bI m k = some (.inr E, s) := by rw [h]; rfl
theorem bV_of (h : m = some (.inl none, s)) (k : σ → Option (mO × σ)) : bV m k = k s := by rw [h]; rfl
theorem cI_of (h : m1 = some (.inl (some (.int v)))) (s : σ) (k : Int32 → Option (mO × σ)) : cI m1 s k = k v := by rw [h]; rfl
theorem cI_ex (h : m1 = some (.inr E)) (s : σ) (k : Int32 → Option (mO × σ)) : cI m1 s k = some (.inr E, s) := by rw [h]; rfl
theorem cV_of (h : m1 = some (.inl none)) (s : σ) (k : Option (mO × σ)) : cV m1 s k = k := by rw [h]; rfl
theorem cV_ex (h : m1 = some (.inr E)) (s : σ) (k : Option (mO × σ)) : cV m1 s k = some (.inr E, s) := by rw [h]; rfl
theorem dI_of (h : m1 = some (.inl (some (.int v)))) (k : Int32 → Option mO) : dI m1 k = k v := by rw [h]; rfl
end BO
theorem q_le {x y : Int32} (a b : Nat) (h : a ≤ b) (hb : b < 2 ^ 31 := by omega) (hx : x = nI a := by rfl) (hy : y = nI b := by rfl) : x ≤ y := by subst hx; subst hy; exact nI_le h hb
theorem q_nle {x y : Int32} (a b : Nat) (h : b < a) (ha : a < 2 ^ 31 := by omega) (hx : x = nI a := by rfl) (hy : y = nI b := by rfl) : ¬ x ≤ y := by subst hx; subst hy; exact nI_ge h ha
theorem q_lt {x y : Int32} (a b : Nat) (h : a < b) (hb : b < 2 ^ 31 := by omega) (hx : x = nI a := by rfl) (hy : y = nI b := by rfl) : x < y := by subst hx; subst hy; exact nI_lt h hb
theorem q_nlt {x y : Int32} (a b : Nat) (h : b ≤ a) (ha : a < 2 ^ 31 := by omega) (hx : x = nI a := by rfl) (hy : y = nI b := by rfl) : ¬ x < y := by subst hx; subst hy; exact nI_nlt h ha
theorem q_ne {x y : Int32} (a b : Nat) (h : a ≠ b) (ha : a < 2 ^ 31 := by omega) (hb : b < 2 ^ 31 := by omega) (hx : x = nI a := by rfl) (hy : y = nI b := by rfl) : ¬ x = y := by subst hx; subst hy; exact fun e => h ((nI_eq ha hb).mp e)
theorem vpb_nI {j N : Nat} (h : j < N) (hN : N < 2 ^ 31 := by omega) : vpb (nI j) N := ⟨nI_pos' (by omega), by rw [nI_clamp (by omega)]; exact h⟩
theorem cl_nI {j : Nat} (h : j < 2 ^ 31 := by omega) : (nI j).toNatClampNeg = j := nI_clamp h
theorem e10 : ¬ (1 : Int32) = 0 := by decide
theorem nI_neg1 (j : Nat) (h : j < 2 ^ 31) : ¬ nI j = -1 := by
  intro e
  have := congrArg Int32.toInt e
  rw [nI_toInt h] at this
  have h2 : (-1 : Int32).toInt = -1 := by decide
  omega
/-- an index within 0 .. N - 1, or outside -/
theorem q_ix (x : Int32) (N : Nat) (hN : N < 2 ^ 31) : (∃ j, j < N ∧ x = nI j) ∨ (x < 0 ∨ ¬ x < nI N) := by
  rcases pk_ix x hN with h | h | h
  · exact Or.inr (Or.inl h)
  · refine Or.inr (Or.inr fun c => ?_)
    rw [Int32.lt_iff_toInt_lt] at c
    rw [Int32.le_iff_toInt_le] at h
    omega
  · exact Or.inl h
theorem nle_of {x y : Int32} (h : ¬ x < y) : y ≤ x := by
  rw [Int32.lt_iff_toInt_lt] at h
  rw [Int32.le_iff_toInt_le]
  omega
theorem nlt_of {x y : Int32} (h : ¬ x ≤ y) : y < x := by
  rw [Int32.le_iff_toInt_le] at h
  rw [Int32.lt_iff_toInt_lt]
  omega
theorem nle_iff {x y : Int32} : ¬ x ≤ y ↔ y < x := by
  rw [Int32.le_iff_toInt_le, Int32.lt_iff_toInt_lt]
  omega
/-- the ranges, on both sides -/
theorem ck_in (a lo hi : Int32) : (¬ a < lo ∧ a ≤ hi ∧ g_X0_checkRange a lo hi = some (.inl none) ∧ g_X1_in a lo hi = some (.inl (some (.int 1)))) ∨ (g_X0_checkRange a lo hi = some (.inr xI) ∧ g_X1_in a lo hi = some (.inl (some (.int 0)))) := by
  unfold g_X0_checkRange g_X1_in
  by_cases h : a < lo
  · rw [if_pos h, if_pos h]; exact Or.inr ⟨rfl, rfl⟩
  · rw [if_neg h, if_neg h]
    by_cases h2 : a ≤ hi
    · rw [if_pos h2, if_neg (by rw [Int32.lt_iff_toInt_lt]; rw [Int32.le_iff_toInt_le] at h2; omega)]; exact Or.inl ⟨h, h2, rfl, rfl⟩
    · rw [if_neg h2, if_pos (nle_iff.mp h2)]; exact Or.inr ⟨rfl, rfl⟩
theorem in_ix (a hi : Int32) (N : Nat) (hN : N < 1000) (hh : hi = nI N) : (∃ j, j < N + 1 ∧ a = nI j ∧ ¬ a < 0 ∧ a < nI (N + 1) ∧ g_X1_in a 0 hi = some (.inl (some (.int 1)))) ∨ ((a < 0 ∨ ¬ a < 0 ∧ ¬ a < nI (N + 1)) ∧ g_X1_in a 0 hi = some (.inl (some (.int 0)))) := by
  subst hh
  unfold g_X1_in
  by_cases h : a < 0
  · rw [if_pos h]; exact Or.inr ⟨Or.inl h, rfl⟩
  · rw [if_neg h]
    rcases q_ix a (N + 1) (by omega) with ⟨j, hj, rfl⟩ | h2 | h2
    · rw [if_neg (nI_nlt (by omega) (by omega))]; exact Or.inl ⟨j, hj, rfl, h, nI_lt hj (by omega), rfl⟩
    · exact absurd h2 h
    · rw [if_pos]
      · exact Or.inr ⟨Or.inr ⟨h, h2⟩, rfl⟩
      · have h3 := nle_of h2
        rw [Int32.le_iff_toInt_le, nI_toInt (by omega)] at h3
        rw [Int32.lt_iff_toInt_lt, nI_toInt (by omega)]
        omega
theorem isB_of {v : Int32} {m : Option mO} (h : m = some (.inl (some (.int v)))) (hv : v = 0 ∨ v = 1) : dI m (fun v4 => if ((v4) : Int32) = 0 ∨ ((v4) : Int32) = 1 then (some (.inl (some (.int (v4))))) else none) = some (.inl (some (.int v))) := by
  rw [dI_of h]; exact if_pos hv
theorem ck_pool (a : Int32) : (∃ j, j < 8 ∧ a = nI j ∧ g_X0_checkPool a = some (.inl none) ∧ g_X1_isPool a = some (.inl (some (.int 1)))) ∨ (g_X0_checkPool a = some (.inr xA) ∧ g_X1_isPool a = some (.inl (some (.int 0)))) := by
  unfold g_X0_checkPool g_X1_isPool
  rcases in_ix a 7 7 (by omega) rfl with ⟨j, hj, e, h1, h2, h3⟩ | ⟨h1 | ⟨h1, h2⟩, h3⟩
  · rw [if_neg h1, if_pos (show a < 8 from h2), isB_of h3 (Or.inr rfl)]; exact Or.inl ⟨j, hj, e, rfl, rfl⟩
  · rw [if_pos h1, isB_of h3 (Or.inl rfl)]; exact Or.inr ⟨rfl, rfl⟩
  · rw [if_neg h1, if_neg (show ¬ a < 8 from h2), isB_of h3 (Or.inl rfl)]; exact Or.inr ⟨rfl, rfl⟩
theorem ck_boat (a : Int32) : (∃ j, j < 10 ∧ a = nI j ∧ g_X0_checkBoat a = some (.inl none) ∧ g_X1_isBoat a = some (.inl (some (.int 1)))) ∨ (g_X0_checkBoat a = some (.inr xA) ∧ g_X1_isBoat a = some (.inl (some (.int 0)))) := by
  unfold g_X0_checkBoat g_X1_isBoat
  rcases in_ix a 9 9 (by omega) rfl with ⟨j, hj, e, h1, h2, h3⟩ | ⟨h1 | ⟨h1, h2⟩, h3⟩
  · rw [if_neg h1, if_pos (show a < 10 from h2), isB_of h3 (Or.inr rfl)]; exact Or.inl ⟨j, hj, e, rfl, rfl⟩
  · rw [if_pos h1, isB_of h3 (Or.inl rfl)]; exact Or.inr ⟨rfl, rfl⟩
  · rw [if_neg h1, if_neg (show ¬ a < 10 from h2), isB_of h3 (Or.inl rfl)]; exact Or.inr ⟨rfl, rfl⟩
theorem ck_gate (a : Int32) : (∃ j, j < 7 ∧ a = nI j ∧ g_X0_checkGate a = some (.inl none) ∧ g_X1_in a 0 6 = some (.inl (some (.int 1)))) ∨ (g_X0_checkGate a = some (.inr xA) ∧ g_X1_in a 0 6 = some (.inl (some (.int 0)))) := by
  unfold g_X0_checkGate
  rcases in_ix a 6 6 (by omega) rfl with ⟨j, hj, e, h1, h2, h3⟩ | ⟨h1 | ⟨h1, h2⟩, h3⟩
  · rw [if_neg h1, if_pos (show a < 7 from h2)]; exact Or.inl ⟨j, hj, e, rfl, h3⟩
  · rw [if_pos h1]; exact Or.inr ⟨rfl, h3⟩
  · rw [if_neg h1, if_neg (show ¬ a < 7 from h2)]; exact Or.inr ⟨rfl, h3⟩
/-- the counts of boats -/
theorem l_boatsIn (X : cS) (p : Int32) : ∀ (m f i : Nat), i + m = 10 → m < f → g_X0_boatsIn_4 f X p (nI (cB (xq X) p i)) (nI i) = some (.inl (some (.int (nI (cB (xq X) p 10)))), X) := by
  intro m
  induction m with
  | zero =>
    intro f i hi hf
    obtain ⟨f, rfl⟩ : ∃ g, f = g + 1 := ⟨f - 1, by omega⟩
    obtain rfl : i = 10 := by omega
    rw [g_X0_boatsIn_4, if_pos (show (10 : Int32) ≤ nI 10 from q_le 10 10 (by omega))]
  | succ m ih =>
    intro f i hi hf
    obtain ⟨f, rfl⟩ : ∃ g, f = g + 1 := ⟨f - 1, by omega⟩
    rw [g_X0_boatsIn_4, if_neg (show ¬ (10 : Int32) ≤ nI i from q_nle 10 i (by omega)), if_pos (vpb_nI (show i < 10 by omega)), cl_nI (show i < 2 ^ 31 by omega)]
    have h9 := ih f (i + 1) (by omega) (by omega)
    rw [cB] at h9
    by_cases c : xq X i = p
    · rw [if_pos c] at h9
      rw [if_pos (show X.2.2.2.2.2.1 i = p from c), nI_1, nI_1]; exact h9
    · rw [if_neg c] at h9
      rw [if_neg (show ¬ X.2.2.2.2.2.1 i = p from c), nI_1]; exact h9
theorem s_boatsIn (X : cS) (p : Int32) : g_X0_boatsIn X p = some (.inl (some (.int (nI (cB (xq X) p 10)))), X) := by
  have := mK_gt
  exact l_boatsIn X p 10 mK 0 (by omega) (by omega)
theorem l_lieIn (Y : rS) (p : Int32) : ∀ (m f i : Nat), i + m = 10 → m < f → g_X1_lieIn_4 f Y p (nI (cB (yq Y) p i)) (nI i) = some (.inl (some (.int (nI (cB (yq Y) p 10)))), Y) := by
  intro m
  induction m with
  | zero =>
    intro f i hi hf
    obtain ⟨f, rfl⟩ : ∃ g, f = g + 1 := ⟨f - 1, by omega⟩
    obtain rfl : i = 10 := by omega
    rw [g_X1_lieIn_4, if_pos (show (10 : Int32) ≤ nI 10 from q_le 10 10 (by omega))]
  | succ m ih =>
    intro f i hi hf
    obtain ⟨f, rfl⟩ : ∃ g, f = g + 1 := ⟨f - 1, by omega⟩
    rw [g_X1_lieIn_4, if_neg (show ¬ (10 : Int32) ≤ nI i from q_nle 10 i (by omega)), if_pos (vpb_nI (show i < 10 by omega)), cl_nI (show i < 2 ^ 31 by omega)]
    have h9 := ih f (i + 1) (by omega) (by omega)
    rw [cB] at h9
    by_cases c : yq Y i = p
    · rw [if_pos c] at h9
      rw [if_pos (show Y.2.2.2.2.1 i = p from c), nI_1, nI_1]; exact h9
    · rw [if_neg c] at h9
      rw [if_neg (show ¬ Y.2.2.2.2.1 i = p from c), nI_1, Int32.add_zero]; exact h9
theorem cB_congr {q q' : Nat → Int32} (p : Int32) : ∀ (k : Nat), (∀ b, b < k → q' b = q b) → cB q' p k = cB q p k := by
  intro k
  induction k with
  | zero => intro _; rfl
  | succ k ih => intro h; rw [cB, cB, ih (fun b hb => h b (by omega)), h k (by omega)]
theorem s_lieIn {X : cS} {Y : rS} (hq : ∀ b, b < 10 → yq Y b = xq X b) (p : Int32) : g_X1_lieIn Y p = some (.inl (some (.int (nI (cB (xq X) p 10)))), Y) := by
  have := mK_gt
  rw [← cB_congr (q := xq X) (q' := yq Y) p 10 hq]
  exact l_lieIn Y p 10 mK 0 (by omega) (by omega)
theorem cB_le (q : Nat → Int32) (p : Int32) : ∀ k, cB q p k ≤ k := by
  intro k
  induction k with
  | zero => exact Nat.le_refl _
  | succ k ih => rw [cB]; split <;> omega
/-- a boat put elsewhere -/
theorem cB_upd (q : Nat → Int32) (p x : Int32) (b : Nat) : ∀ k, cB (upd q b x) p k + (if b < k ∧ q b = p then 1 else 0) = cB q p k + (if b < k ∧ x = p then 1 else 0) := by
  intro k
  induction k with
  | zero => simp [cB]
  | succ k ih =>
    rw [cB, cB]
    by_cases e : k = b
    · subst e
      have h1 : cB (upd q k x) p k = cB q p k := cB_congr p k (fun j hj => pk_un (by omega))
      rw [pk_us, h1]
      simp only [Nat.lt_succ_self, true_and]
      omega
    · rw [pk_un e]
      have e2 : (b < k + 1 ∧ q b = p) ↔ (b < k ∧ q b = p) := ⟨fun h => ⟨by omega, h.2⟩, fun h => ⟨by omega, h.2⟩⟩
      have e3 : (b < k + 1 ∧ x = p) ↔ (b < k ∧ x = p) := ⟨fun h => ⟨by omega, h.2⟩, fun h => ⟨by omega, h.2⟩⟩
      simp only [e2, e3]
      omega
/-- sums -/
theorem nsum_congr {f g : Nat → Nat} : ∀ k, (∀ j, j < k → f j = g j) → nsum f k = nsum g k := by
  intro k
  induction k with
  | zero => intro _; rfl
  | succ k ih => intro h; rw [nsum, nsum, ih (fun j hj => h j (by omega)), h k (by omega)]
def updN (f : Nat → Nat) (k x : Nat) : Nat → Nat := fun j => if j = k then x else f j
theorem nsum_upd (f : Nat → Nat) (b x : Nat) : ∀ k, nsum (updN f b x) k + (if b < k then f b else 0) = nsum f k + (if b < k then x else 0) := by
  intro k
  induction k with
  | zero => simp [nsum]
  | succ k ih =>
    rw [nsum, nsum]
    by_cases e : k = b
    · subst e
      have h1 : nsum (updN f k x) k = nsum f k := nsum_congr k (fun j hj => if_neg (by omega))
      rw [h1]
      simp only [Nat.lt_succ_self, if_true, updN]
      omega
    · have h1 : updN f b x k = f k := if_neg e
      rw [h1]
      by_cases c : b < k
      · rw [if_pos c, if_pos c] at ih; rw [if_pos (by omega), if_pos (by omega)]; omega
      · rw [if_neg c, if_neg c] at ih; rw [if_neg (by omega), if_neg (by omega)]; omega
theorem nsum_le {f : Nat → Nat} : ∀ k j, j < k → f j ≤ nsum f k := by
  intro k
  induction k with
  | zero => intro j hj; omega
  | succ k ih =>
    intro j hj
    rw [nsum]
    by_cases e : j = k
    · subst e; omega
    · have := ih j (by omega); omega
theorem wat_upd {f : Nat → Int32} {g : Nat → Nat} {k x : Nat} (h : ∀ j, j < 8 → f j = nI (g j)) : ∀ j, j < 8 → upd f k (nI x) j = nI (updN g k x j) := by
  intro j hj
  unfold upd updN
  split
  · rfl
  · exact h j hj
