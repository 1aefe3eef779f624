/-! ===== the reference adds accounts ===== -/
def addI (A : Nat) (pr tp bk cr db : Int32) (I : Nat → Nat → Int32) : Nat → Nat → Int32 :=
  upR (upR (upR (upR (upR I 3 (upd (I 3) A pr)) 4 (upd (I 4) A tp)) 5 (upd (I 5) A bk)) 9 (upd (I 9) A cr)) 10 (upd (I 10) A db)
theorem upR_o {α : Type} {f : Nat → Nat → α} {k j : Nat} {g : Nat → α} (h : j ≠ k) : upR f k g j = f j := if_neg h
section N4
variable {ad nm : Nat → Nat} {n : Nat → Int32} {I : Nat → Nat → Int32} {J : Nat → Nat → Int64} {μ0 : jM} {z : Nat × Nat} {A Ln F : Nat}
end N4
