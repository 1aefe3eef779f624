/-! ===== the reference's memory: n 0 accounts, n 1 lines, n 2 flows, n 3 thrown; I k and J k what its arrays hold, by their places among the fields ===== -/
section MM
variable {ad nm : Nat → Nat} {n : Nat → Int32} {I : Nat → Nat → Int32} {J : Nat → Nat → Int64} {μ0 : jM}
/-- one row of arrays changed -/
def upR {α : Type} (f : Nat → Nat → α) (k : Nat) (g : Nat → α) : Nat → Nat → α := fun j => if j = k then g else f j
/-! the reference's reads -/
/-! its writes -/
end MM
