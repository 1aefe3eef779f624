/-! ===== the reference: what an account gets, days, sums ===== -/
def getsF (k : Nat) (v : Int64) (y : Nat → Int64) : Nat → Int64 := vp_updL (vp_updL y k (y k + v)) (50 + k) (y (50 + k) + v)
def stF (I : Nat → Nat → Int32) (d : Nat) : Bool := decide (¬ (5 : Int32) ≤ nI d - nI d / 7 * 7) && decide (I 20 d = 0)
def belF (I : Nat → Nat → Int32) (t : Nat) : Nat → Nat → Bool
  | 0, k => decide (k = t)
  | f + 1, k => if k = t then true else if I 3 k = -1 then false else belF I t f (pI I k)
def blF (I : Nat → Nat → Int32) (t k : Nat) : Bool := belF I t k k
def sumS (I : Nat → Nat → Int32) (y : Nat → Int64) (p : Int32) (t k : Nat) (s : Int64) : Int64 := s + (if I 4 k = p ∧ blF I t k = true then y k else 0)
def sumF (I : Nat → Nat → Int32) (A : Nat) (y : Nat → Int64) (p : Int32) (t : Nat) : Int64 := itr (sumS I y p t) A 0
section M7
variable {ad nm : Nat → Nat} {n : Nat → Int32} {I : Nat → Nat → Int32} {J : Nat → Nat → Int64} {μ0 : jM} {z : Nat × Nat} {A : Nat}
end M7
