/-! ===== the reference adds flows, lines, pools, accounts ===== -/
theorem ifb {c : Prop} [Decidable c] {P R : Prop} (p : c → P) (r : ¬ c → R) : ((¬ (if c then (1 : Int32) else 0) = 0) → P) ∧ ((if c then (1 : Int32) else 0) = 0 → R) := by
  by_cases g : c
  · rw [if_pos g]; exact ⟨fun _ => p g, fun e => absurd e (by decide)⟩
  · rw [if_neg g]; exact ⟨fun e => absurd rfl e, fun _ => r g⟩
theorem ifb' {c : Prop} [Decidable c] {P R : Prop} (p : c → P) (r : ¬ c → R) : ((if c then (1 : Int32) else 0) = 0 → R) ∧ ((¬ (if c then (1 : Int32) else 0) = 0) → P) := ⟨(ifb p r).2, (ifb p r).1⟩
theorem fsI_up {I : Nat → Nat → Int32} {F : Nat} {x x2 x3 x4 x5 : Int32} : upR (upR (upR (upR (upR I 15 (upd (I 15) F x)) 16 (upd (I 16) F x2)) 17 (upd (I 17) F x3)) 18 (upd (I 18) F x4)) 19 (upd (I 19) F x5) = fsI I F x x2 x3 x4 x5 := by
  funext r
  by_cases g : r < 15 ∨ 20 ≤ r
  · rw [fsI_lo g, upR_o (by omega), upR_o (by omega), upR_o (by omega), upR_o (by omega), upR_o (by omega)]
  · have : r = 15 ∨ r = 16 ∨ r = 17 ∨ r = 18 ∨ r = 19 := by omega
    rcases this with rfl | rfl | rfl | rfl | rfl <;> rfl
/-- the rows with line L -/
def lnI (I : Nat → Nat → Int32) (L : Nat) (x x2 x3 : Int32) : Nat → Nat → Int32 := upR (upR (upR I 11 (upd (I 11) L x)) 12 (upd (I 12) L x2)) 13 (upd (I 13) L x3)
section MA
variable {ad nm : Nat → Nat} {n : Nat → Int32} {I : Nat → Nat → Int32} {J : Nat → Nat → Int64} {μ0 : jM} {z : Nat × Nat} {A L F d : Nat}
end MA
