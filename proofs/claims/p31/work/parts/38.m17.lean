/-! ===== the reference: flows and limits ===== -/
section M17
variable {ad nm : Nat → Nat} {n : Nat → Int32} {I : Nat → Nat → Int32} {J : Nat → Nat → Int64} {μ0 : jM} {z : Nat × Nat} {A Ln F : Nat}
def leftF (I : Nat → Nat → Int32) (y : Nat → Int64) (k : Nat) : Int32 := I 19 k - (y (88 + k)).toInt32
end M17
