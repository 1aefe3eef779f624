/-! ===== the reference accrues ===== -/
def wtS (I : Nat → Nat → Int32) (k : Nat) (s : Int64) (j : Nat) (y : Nat → Int64) : Nat → Int64 :=
  vp_updL (vp_updL y (30 + j) (y (30 + j) + (if 0 < s ∧ 0 < (if I 4 j = nI k then y j else 0) then (if I 4 j = nI k then y j else 0) else 0))) (40 + j) (y (40 + j) + (if s < 0 ∧ (if I 4 j = nI k then y j else 0) < 0 then -(if I 4 j = nI k then y j else 0) else 0))
def acc0 (I : Nat → Nat → Int32) (k : Nat) (s : Int64) (y : Nat → Int64) : Nat → Int64 :=
  vp_updL (vp_updL y (10 + k) (y (10 + k) + (if 0 < s then s * (I 9 k).toInt64 else 0))) (20 + k) (y (20 + k) + (if s < 0 then -s * (I 10 k).toInt64 else 0))
def accS (I : Nat → Nat → Int32) (A k : Nat) (y : Nat → Int64) : Nat → Int64 :=
  if I 3 k = -1 then itr (wtS I k (sumF I A y (nI k) k)) A (acc0 I k (sumF I A y (nI k) k) y) else y
def linS (I : Nat → Nat → Int32) (k : Nat) (y : Nat → Int64) : Nat → Int64 := vp_updL y (76 + k) (y (76 + k) + y (70 + k) * (I 13 k).toInt64)
def accF (I : Nat → Nat → Int32) (A Ln : Nat) (y : Nat → Int64) : Nat → Int64 := itr (linS I) Ln (itr (accS I A) A y)
section M8
variable {ad nm : Nat → Nat} {n : Nat → Int32} {I : Nat → Nat → Int32} {J : Nat → Nat → Int64} {μ0 : jM} {z : Nat × Nat} {A Ln : Nat}
end M8
