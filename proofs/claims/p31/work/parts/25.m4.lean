/-! ===== the reference: who gets, who gives ===== -/
section M4
variable {ad nm : Nat → Nat} {n : Nat → Int32} {I : Nat → Nat → Int32} {J : Nat → Nat → Int64} {μ0 : jM} {z : Nat × Nat} {A : Nat}
theorem getS_pos {y : Nat → Int64} {p k : Nat} {o : Option Nat} (h : I 4 k = nI p ∧ 0 ≤ y k ∧ 0 < rmF I A y (bI I k) ∧ (∀ g, o = some g → rmF I A y (bI I g) < rmF I A y (bI I k))) : getS I A y p k o = some k := by
  unfold getS; exact if_pos h
theorem getS_neg {y : Nat → Int64} {p k : Nat} {o : Option Nat} (h : ¬ (I 4 k = nI p ∧ 0 ≤ y k ∧ 0 < rmF I A y (bI I k) ∧ (∀ g, o = some g → rmF I A y (bI I g) < rmF I A y (bI I k)))) : getS I A y p k o = o := by
  unfold getS; exact if_neg h
theorem givS_pos {y : Nat → Int64} {k : Nat} {o : Option Nat} (h : 0 < y k ∧ 0 < excF I A y (bI I k) ∧ ¬ getF I A y (tI I k) = none ∧ (∀ g, o = some g → gvF I A y k g)) : givS I A y k o = some k := by
  unfold givS; exact if_pos h
theorem givS_neg {y : Nat → Int64} {k : Nat} {o : Option Nat} (h : ¬ (0 < y k ∧ 0 < excF I A y (bI I k) ∧ ¬ getF I A y (tI I k) = none ∧ (∀ g, o = some g → gvF I A y k g))) : givS I A y k o = o := by
  unfold givS; exact if_neg h
end M4
