/-! WHAT THE PRINTED FUNCTIONS USE; TWO METHODS BY HAND -/
def mK : Nat := 10000000
theorem m_gd {c : Prop} [Decidable c] {α : Type} {x : Option α} {r : α} (h : (if c then x else none) = some r) : c ∧ x = some r := by
  split at h
  · rename_i hc; exact ⟨hc, h⟩
  · cases h
section MRD
variable {S : Nat × (Nat → Int32)} {M : mM} {pc k n kf nf : Nat} {L L' : List (Option Value)} {st : List Value} {h h' : mH} {r : mR}
theorem ms_drop {i : Nat} (hL : L.set i none = L') (k9 : mF S M pc L' st h k n r) : mF S M pc L st h k n r := by
  intro N0 b sa D cy a0 z0 p l e R s m args below meth c C hk hn ad H locs ls X
  refine k9 N0 b sa D cy a0 z0 p l e R s m args below meth c C hk hn ad H locs ls ⟨X.1, X.2.1, X.2.2.1, ⟨X.2.2.2.1.1, X.2.2.2.1.2.1, fun j v hj => X.2.2.2.1.2.2 j v ?_⟩, X.2.2.2.2⟩
  rw [← hL, List.getElem?_set] at hj
  split at hj
  · split at hj <;> cases hj
  · exact hj
end MRD
/-- a row filled -/
def afill (f : Nat → Int32) (N : Nat) (v : Int32) : Nat → Int32 := fun j => if j < N then v else f j
theorem afill_0 (f : Nat → Int32) (v : Int32) : afill f 0 v = f := by funext j; simp [afill]
theorem afill_s (f : Nat → Int32) (i : Nat) (v : Int32) : upd (afill f i v) i v = afill f (i + 1) v := by
  funext j
  unfold upd afill
  by_cases h : j = i
  · subst h; simp
  · rw [if_neg h]
    by_cases h2 : j < i
    · rw [if_pos h2, if_pos (by omega)]
    · rw [if_neg h2, if_neg (by omega)]
set_option maxRecDepth 100000 in
theorem FL_J7_fill {S : Nat × (Nat → Int32)} {q N : Nat} {f : Nat → Int32} {v : Int32} {h : mH} (hq : h[q]? = some (.inl (0, N, .inl f))) (hN : N ≤ 1000) : ∀ (m i : Nat), i + m = N → mF S MJ7_fill_53178 5 [some (.ref q), some (.int v), some (.int (nI i)), some (.int (nI N))] [] (h.set q (.inl (0, N, .inl (afill f i v)))) 0 0 (.inl none, h.set q (.inl (0, N, .inl (afill f N v))), 0, 0) := by
  have hlt : q < h.length := (List.getElem?_eq_some_iff.mp hq).1
  intro m
  induction m with
  | zero =>
    intro i hi
    have hi : i = N := by omega
    subst hi
    refine mr_iload_n (pc := 5) rfl rfl ?_
    refine mr_iload_n (pc := 6) rfl rfl ?_
    refine mr_icmp_ge (pc := 7) 20 rfl (by decide) (fun c => ?_) (fun c => ?_)
    · exact mr_return (pc := 20) rfl rfl (Nat.le_refl _) (Nat.le_refl _)
    · exact absurd (nI_le (Nat.le_refl i) (by omega)) c
  | succ m ih =>
    intro i hi
    refine mr_iload_n (pc := 5) rfl rfl ?_
    refine mr_iload_n (pc := 6) rfl rfl ?_
    refine mr_icmp_ge (pc := 7) 20 rfl (by decide) (fun c => ?_) (fun c => ?_)
    · exact absurd c (nI_ge (by omega) (by omega))
    · refine mr_aload_n (pc := 10) rfl rfl ?_
      refine mr_iload_n (pc := 11) rfl rfl ?_
      refine mr_iload_n (pc := 12) rfl rfl ?_
      have h9 : (h.set q (.inl (0, N, .inl (afill f i v))))[q]? = some (.inl (0, N, .inl (afill f i v))) := by
        rw [List.getElem?_set, if_pos rfl, if_pos hlt]
      refine mr_iastore (pc := 13) rfl h9 (vp_in_nI (by omega) (by omega)) ?_
      rw [List.set_set, nI_clamp (by omega), afill_s]
      refine ms_iinc (pc := 14) (x := nI i) (v := 1) (L' := [some (.ref q), some (.int v), some (.int (nI (i + 1))), some (.int (nI N))]) rfl rfl (by decide) (by decide) rfl (by rw [nI_1]; rfl) ?_
      refine mr_goto (pc := 17) 5 rfl (by decide) ?_
      exact ih (i + 1) (by omega)
set_option maxRecDepth 100000 in
theorem F_J7_fill {S : Nat × (Nat → Int32)} {q N : Nat} {f : Nat → Int32} {v : Int32} {h h' : mH} (hq : h[q]? = some (.inl (0, N, .inl f))) (hN : N ≤ 1000) (hh : h.set q (.inl (0, N, .inl (afill f N v))) = h') : mF S MJ7_fill_53178 0 (mEnt [.ref q, .int v] 4) [] h 0 0 (.inl none, h', 0, 0) := by
  subst hh
  refine mr_iconst (pc := 0) (v := 0) rfl (by decide) ?_
  refine ms_istore_n (pc := 1) (L' := [some (.ref q), some (.int v), some (.int (nI 0)), none]) rfl (by decide) rfl rfl ?_
  refine mr_aload_n (pc := 2) rfl rfl ?_
  refine mr_alen (pc := 3) (v := nI N) rfl hq rfl ?_
  refine ms_istore_n (pc := 4) (L' := [some (.ref q), some (.int v), some (.int (nI 0)), some (.int (nI N))]) rfl (by decide) rfl rfl ?_
  have h0 : h.set q (.inl (0, N, .inl (afill f 0 v))) = h := by
    rw [afill_0]
    apply List.ext_getElem?
    intro i
    rw [List.getElem?_set]
    split
    · rename_i e9; subst e9; rw [if_pos (List.getElem?_eq_some_iff.mp hq).1]; exact hq.symm
    · rfl
  have := FL_J7_fill (S := S) (v := v) hq hN N 0 (by omega)
  rw [h0] at this
  exact this
/-- sum(row, from, to) -/
def g_X0_sum_9 : Nat → (Nat → Int32) → Nat → Int32 → Int32 → Int32 → Option mO
  | 0, _, _, _, _, _ => none
  | f9 + 1, f, N, a2, b3, b4 => if a2 < b4 then some (.inl (some (.int b3))) else (if Int32.ofNat N ≤ b4 then some (.inl (some (.int b3))) else (if vpb b4 N then g_X0_sum_9 f9 f N a2 (b3 + f b4.toNatClampNeg) (b4 + 1) else none))
def g_X0_sum (f : Nat → Int32) (N : Nat) (a1 a2 : Int32) : Option mO := g_X0_sum_9 mK f N a2 0 (if (0 : Int32) < a1 then a1 else 0)
set_option maxRecDepth 100000 in
theorem FL_X0_sum_9 {S : Nat × (Nat → Int32)} {hw : mH} {q N : Nat} {f : Nat → Int32} {a1 : Int32} (hq : hw[q]? = some (.inl (0, N, .inl f))) : ∀ (f9 : Nat) (a2 b3 b4 : Int32) (o9 : mO), g_X0_sum_9 f9 f N a2 b3 b4 = some o9 → mF S MX0_sum 9 [some (.ref q), some (.int a1), some (.int a2), some (.int b3), some (.int b4)] [] hw 0 0 (o9, hw, 0, 0) := by
  intro f9
  induction f9 with
  | zero => intro a2 b3 b4 o9 h; cases h
  | succ f9 ih9 =>
    intro a2 b3 b4 o9 h
    rw [g_X0_sum_9] at h
    refine mr_iload (pc := 9) rfl rfl ?_
    refine mr_iload_n (pc := 11) rfl rfl ?_
    refine mr_icmp_gt (pc := 12) 35 rfl (by decide) (fun c => ?_) (fun c => ?_)
    · have h := (if_pos c).symm.trans h
      refine mr_iload_n (pc := 35) rfl rfl ?_
      cases h; exact mr_ireturn (pc := 36) rfl rfl (Nat.le_refl _) (Nat.le_refl _)
    · have h := (if_neg c).symm.trans h
      refine mr_iload (pc := 15) rfl rfl ?_
      refine mr_aload_n (pc := 17) rfl rfl ?_
      refine mr_alen (pc := 18) rfl hq rfl ?_
      refine mr_icmp_ge (pc := 19) 35 rfl (by decide) (fun c => ?_) (fun c => ?_)
      · have h := (if_pos c).symm.trans h
        refine mr_iload_n (pc := 35) rfl rfl ?_
        cases h; exact mr_ireturn (pc := 36) rfl rfl (Nat.le_refl _) (Nat.le_refl _)
      · have h := (if_neg c).symm.trans h
        obtain ⟨g1, h⟩ := m_gd h
        refine mr_iload_n (pc := 22) rfl rfl ?_
        refine mr_aload_n (pc := 23) rfl rfl ?_
        refine mr_iload (pc := 24) rfl rfl ?_
        refine mr_iaload (pc := 26) rfl hq (vpb_in g1) ?_
        refine mr_iadd (pc := 27) rfl ?_
        refine ms_istore_n (pc := 28) (L' := [some (.ref q), some (.int a1), some (.int a2), some (.int (b3 + f b4.toNatClampNeg)), some (.int b4)]) rfl (by decide) rfl rfl ?_
        refine ms_iinc (pc := 29) (x := b4) (v := 1) (L' := [some (.ref q), some (.int a1), some (.int a2), some (.int (b3 + f b4.toNatClampNeg)), some (.int (b4 + 1))]) rfl rfl (by decide) (by decide) rfl rfl ?_
        refine mr_goto (pc := 32) 9 rfl (by decide) ?_
        exact ih9 _ _ _ _ h
set_option maxRecDepth 100000 in
theorem F_X0_sum {S : Nat × (Nat → Int32)} {hw : mH} {q N : Nat} {f : Nat → Int32} {a1 a2 : Int32} {o9 : mO} (hq : hw[q]? = some (.inl (0, N, .inl f))) (h : g_X0_sum f N a1 a2 = some o9) : mF S MX0_sum 0 (mEnt [.ref q, .int a1, .int a2] 5) [] hw 0 0 (o9, hw, 0, 0) := by
  unfold g_X0_sum at h
  refine mr_iconst (pc := 0) (v := 0) rfl (by decide) ?_
  refine ms_istore_n (pc := 1) (L' := [some (.ref q), some (.int a1), some (.int a2), some (.int 0), none]) rfl (by decide) rfl rfl ?_
  refine mr_iconst (pc := 2) (v := 0) rfl (by decide) ?_
  refine mr_iload_n (pc := 3) rfl rfl ?_
  refine mr_mmax (pc := 4) rfl rfl (by decide) (by decide) (Nat.le_refl _) (Nat.le_refl _) ?_
  refine ms_istore (pc := 7) (L' := [some (.ref q), some (.int a1), some (.int a2), some (.int 0), some (.int (if (0 : Int32) < a1 then a1 else 0))]) rfl (by decide) rfl rfl ?_
  exact FL_X0_sum_9 hq mK _ _ _ _ h
