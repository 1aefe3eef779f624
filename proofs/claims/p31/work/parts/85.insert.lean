/-! ===== a list that takes an element in between ===== -/
section IN
variable {z : Nat × Nat} {C : Nat × Nat → Option jE} {ad : Nat × Nat → Nat} {nm : Nat → Nat × Nat} {μ0 : jM} {q j e : Nat} {m : Int32} {l : List Nat}
/-- the place of an element: behind all lines that are no dearer -/
def cpl (I : Nat → Nat → Int32) (x : Nat) : List Nat → Nat
  | [] => 0
  | y :: l => if I 13 y ≤ I 13 x then cpl I x l + 1 else 0
theorem cpl_le {I : Nat → Nat → Int32} {x : Nat} : ∀ l : List Nat, cpl I x l ≤ l.length
  | [] => Nat.le_refl 0
  | y :: l => by
    unfold cpl
    split
    · have := cpl_le (I := I) (x := x) l
      rw [List.length_cons]; omega
    · omega
theorem cins_at {I : Nat → Nat → Int32} {x : Nat} : ∀ l : List Nat, cins I x l = l.take (cpl I x l) ++ x :: l.drop (cpl I x l)
  | [] => rfl
  | y :: l => by
    unfold cins cpl
    by_cases h : I 13 y ≤ I 13 x
    · rw [if_pos h, if_pos h, cins_at l]
      rfl
    · rw [if_neg h, if_neg h]
      rfl
end IN
