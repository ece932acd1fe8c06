/-! THE TWO STATES TOGETHER -/
section CP
/-- readers of the class's state -/
abbrev xa (X : cS) : Nat → Int32 := X.1
abbrev xW (X : cS) : Nat → Int32 := X.2.1
abbrev xf (X : cS) : Nat → Int32 := X.2.2.1
abbrev xu (X : cS) : Nat → Int32 := X.2.2.2.1
abbrev xd (X : cS) : Nat → Int32 := X.2.2.2.2.1
abbrev xq (X : cS) : Nat → Int32 := X.2.2.2.2.2.1
abbrev xo (X : cS) : Nat → Int32 := X.2.2.2.2.2.2.1
abbrev xe (X : cS) : Int32 := X.2.2.2.2.2.2.2.1
abbrev xt (X : cS) : Int32 := X.2.2.2.2.2.2.2.2.1
abbrev xz (X : cS) : Int32 := X.2.2.2.2.2.2.2.2.2
/-- readers of the reference's state -/
abbrev yD (Y : rS) : Nat → Int32 := Y.1
abbrev yA (Y : rS) : Nat → Int32 := Y.2.1
abbrev yW (Y : rS) : Nat → Int32 := Y.2.2.1
abbrev yL (Y : rS) : Nat → Int32 := Y.2.2.2.1
abbrev yq (Y : rS) : Nat → Int32 := Y.2.2.2.2.1
abbrev yd (Y : rS) : Nat → Int32 := Y.2.2.2.2.2.1
abbrev yu (Y : rS) : Nat → Int32 := Y.2.2.2.2.2.2.1
abbrev yh (Y : rS) : Nat → Int32 := Y.2.2.2.2.2.2.2.1
abbrev yT (Y : rS) : Int32 := Y.2.2.2.2.2.2.2.2.1
abbrev yo (Y : rS) : Int32 := Y.2.2.2.2.2.2.2.2.2.1
abbrev yz (Y : rS) : Int32 := Y.2.2.2.2.2.2.2.2.2.2.1
abbrev ym (Y : rS) : Int32 := Y.2.2.2.2.2.2.2.2.2.2.2.1
abbrev yF (Y : rS) : Int32 := Y.2.2.2.2.2.2.2.2.2.2.2.2.1
abbrev ywn (Y : rS) : Int32 := Y.2.2.2.2.2.2.2.2.2.2.2.2.2.1
abbrev yp (Y : rS) : Int32 := Y.2.2.2.2.2.2.2.2.2.2.2.2.2.2
/-- the sum of the first rows -/
def nsum (f : Nat → Nat) : Nat → Nat
  | 0 => 0
  | k + 1 => nsum f k + f k
/-- water in all, as numbers, at most B -/
def wat (f : Nat → Int32) (B : Nat) : Prop := ∃ g : Nat → Nat, (∀ j, j < 8 → f j = nI (g j)) ∧ nsum g 8 ≤ B
/-- pool by pool: not dug, or dug and the same -/
def pools (X : cS) (Y : rS) : Prop := ∀ j, j < 8 → (xa X j = 0 ∧ xW X j = 0 ∧ xf X j = 0 ∧ yD Y j = 0) ∨ ((∃ m, 1 ≤ m ∧ m ≤ 9 ∧ xa X j = nI m) ∧ yD Y j = 1 ∧ yA Y j = xa X j ∧ yW Y j = xW X j ∧ yL Y j = xf X j)
/-- how many of the first k lie at p -/
def cB (q : Nat → Int32) (p : Int32) : Nat → Nat
  | 0 => 0
  | k + 1 => cB q p k + (if q k = p then 1 else 0)
def places (q : Nat → Int32) : Prop := (∀ b, b < 10 → q b = -1 ∨ ∃ j, j < 8 ∧ q b = nI j) ∧ ∀ j, j < 8 → cB q (nI j) 10 ≤ 3
/-- class and reference, dn holds open, water at most B -/
def Coup (dn B : Nat) (X : cS) (Y : rS) : Prop :=
  pools X Y ∧ wat (xW X) B ∧ (∀ g, g < 7 → yu Y g = xu X g) ∧ (∀ b, b < 10 → yd Y b = xd X b) ∧ (∀ b, b < 10 → yq Y b = xq X b) ∧ places (xq X) ∧ yz Y = xz X ∧ ym Y = xt X ∧
  xe X = nI dn ∧ yo Y = nI dn ∧ (∀ i, i < dn → yh Y i = xo X i ∧ ∃ j, j < 8 ∧ xo X i = nI j ∧ ¬ xa X j = 0)
/-- between the calls, behind n of them -/
def Cp (n : Nat) (X : cS) (Y : rS) : Prop := Coup 0 (9999 * n) X Y
/-- a call of the face and of the reference, told by the law's number -/
def opR (exs : List (String × Int32)) (rx : Option (mO × cS)) (ry : Option (mO × rS)) (Q : cS → rS → Prop) : Prop :=
  ∃ (kc b : Int32) (X' : cS) (Y' : rS), ry = some (.inl (some (.int b)), Y') ∧ yT Y' = kc ∧ Q X' Y' ∧ ((kc = 0 ∧ rx = some (.inl (some (.int b)), X')) ∨ ∃ (E : String) (c : Int32), (E, c) ∈ exs ∧ kc = c ∧ ¬ c = 0 ∧ rx = some (.inr E, X'))
def opS (rx : Option (mO × cS)) (ry : Option (mO × rS)) (Q : cS → rS → Prop) : Prop :=
  ∃ (b : Int32) (X' : cS) (Y' : rS), ry = some (.inl (some (.int b)), Y') ∧ Q X' Y' ∧ rx = some (.inl (some (.int b)), X')
end CP
