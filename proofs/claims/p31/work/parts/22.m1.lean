/-! ===== the reference's small methods ===== -/
theorem jnb {c : Prop} [Decidable c] : narrow .boolean (.int (if c then 1 else 0)) = .int (if c then 1 else 0) := by split <;> rfl
section M1
variable {ad nm : Nat → Nat} {n : Nat → Int32} {I : Nat → Nat → Int32} {J : Nat → Nat → Int64} {μ0 : jM} {z : Nat × Nat}
/-- what an account has too much, or lacks -/
def surpF (I : Nat → Nat → Int32) (k : Nat) (v : Int64) : Int64 :=
  if I 6 k = 0 ∨ (I 6 k = 2 ∧ v - (I 7 k).toInt64 < 0) ∨ (I 6 k = 3 ∧ 0 < v - (I 7 k).toInt64) then 0 else v - (I 7 k).toInt64
/-- an amount from one account to another -/
def movF (i j : Nat) (v : Int64) (y : Nat → Int64) : Nat → Int64 := vp_updL (vp_updL y i (y i - v)) j (vp_updL y i (y i - v) j + v)
theorem upR_same {α : Type} (f : Nat → Nat → α) (k : Nat) (g : Nat → α) : upR f k g k = g := by simp [upR]
theorem upR_ne {α : Type} (f : Nat → Nat → α) {k j : Nat} (g : Nat → α) (h : j ≠ k) : upR f k g j = f j := by simp [upR, h]
theorem upR_up {α : Type} (f : Nat → Nat → α) (k : Nat) (g g' : Nat → α) : upR (upR f k g) k g' = upR f k g' := by
  funext j
  by_cases h : j = k <;> simp [upR, h]
theorem upR_id {α : Type} (f : Nat → Nat → α) (k : Nat) : upR f k (f k) = f := by
  funext j
  by_cases h : j = k <;> simp [upR, h]
end M1
