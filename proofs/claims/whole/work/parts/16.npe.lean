/-! THROWS, BY THEIR SITES -/
def nmA : List String := ["java/lang/IndexOutOfBoundsException", "java/lang/RuntimeException", "java/lang/Exception"]
def nmR : List String := ["java/lang/RuntimeException", "java/lang/Exception"]
theorem lt_151 : mLkT RX0 87 151 91 xA "no such boat" nmA := ⟨rfl, by decide +kernel, by decide +kernel, by decide +kernel, by decide +kernel, m_in 234 (by decide +kernel) rfl, m_in 41 (by decide +kernel) rfl, atA⟩
theorem lt_153 : mLkT RX0 87 153 91 xA "no such pool" nmA := ⟨rfl, by decide +kernel, by decide +kernel, by decide +kernel, by decide +kernel, m_in 234 (by decide +kernel) rfl, m_in 41 (by decide +kernel) rfl, atA⟩
theorem lt_155 : mLkT RX0 87 155 91 xA "no such gate" nmA := ⟨rfl, by decide +kernel, by decide +kernel, by decide +kernel, by decide +kernel, m_in 234 (by decide +kernel) rfl, m_in 41 (by decide +kernel) rfl, atA⟩
theorem lt_89 : mLkT RX0 87 89 91 xA "no gate that way" nmA := ⟨rfl, by decide +kernel, by decide +kernel, by decide +kernel, by decide +kernel, m_in 234 (by decide +kernel) rfl, m_in 41 (by decide +kernel) rfl, atA⟩
theorem lt_157 : mLkT RX0 105 157 109 xI "a number is out of its range" nmR := ⟨rfl, by decide +kernel, by decide +kernel, by decide +kernel, by decide +kernel, m_in 240 (by decide +kernel) rfl, m_in 43 (by decide +kernel) rfl, atI⟩
theorem lt_107 : mLkT RX0 105 107 109 xI "the first pool is above the last" nmR := ⟨rfl, by decide +kernel, by decide +kernel, by decide +kernel, by decide +kernel, m_in 240 (by decide +kernel) rfl, m_in 43 (by decide +kernel) rfl, atI⟩
theorem lt_161 : mLkT RX0 76 161 80 xS "a gate is worn, or the boat lies in no pool" nmR := ⟨rfl, by decide +kernel, by decide +kernel, by decide +kernel, by decide +kernel, m_in 310 (by decide +kernel) rfl, m_in 46 (by decide +kernel) rfl, atSt⟩
theorem lt_78 : mLkT RX0 76 78 80 xS "the boat lies in no pool" nmR := ⟨rfl, by decide +kernel, by decide +kernel, by decide +kernel, by decide +kernel, m_in 310 (by decide +kernel) rfl, m_in 46 (by decide +kernel) rfl, atSt⟩
theorem lt_165 : mLkT RX0 163 165 167 xU "the boat is stuck" nmR := ⟨rfl, by decide +kernel, by decide +kernel, by decide +kernel, by decide +kernel, m_in 326 (by decide +kernel) rfl, m_in 47 (by decide +kernel) rfl, atU⟩
theorem lt_170 : mLkT RX0 168 170 172 xD "levelling is slow" nmR := ⟨rfl, by decide +kernel, by decide +kernel, by decide +kernel, by decide +kernel, m_in 342 (by decide +kernel) rfl, m_in 48 (by decide +kernel) rfl, atD⟩
section MRX
variable {S : Nat × (Nat → Int32)} {M : mM} {pc k n kf nf : Nat} {L : List (Option Value)} {st : List Value} {h : mH} {r : mR}
theorem mr_throwN {ik is ic : Nat} {text : String} (d0 : mAt M pc = some (.new ik, 3)) (d3 : mAt M (pc + 3) = some (.dup, 1)) (d4 : mAt M (pc + 4) = some (.ldc is, 2)) (d6 : mAt M (pc + 6) = some (.invokespecial ic, 3)) (d9 : mAt M (pc + 9) = some (.athrow, 1))
    (ho : M.1.cls = RX0) (hik : ik = 122) (hic : ic = 126) (hst : (is, text) ∈ mStrs) (htab : M.2.2.2.2.1 = []) (hfr : 11 < M.2.2.2.2.2.1) (hlo : (st.map fun v => v.category).sum + 200 ≤ M.2.2.2.2.2.2.1) (hk' : k + 1 ≤ kf) (hn' : n + 8 ≤ nf) : mF S M pc L st h k n (.inr xN, h, kf, nf) := by
  sorry
end MRX
