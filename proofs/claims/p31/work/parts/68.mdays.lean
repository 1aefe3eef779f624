/-! ===== the reference's calls that let days pass ===== -/
section MD
variable {ad nm : Nat → Nat} {n : Nat → Int32} {I : Nat → Nat → Int32} {J : Nat → Nat → Int64} {μ0 : jM} {z : Nat × Nat} {A L F : Nat} {X : Int} {c d : Nat}
theorem ln_flOk (hn : cEn A L F I) : lnOk L I ∧ flOk F I := by
  obtain ⟨hA, -, -, -, -, -, hl, hf, -⟩ := hn
  exact ⟨fun k hk => ⟨pL I k, by have := (hl k hk).2.1; omega, (hl k hk).1⟩, fun k hk => ⟨fA I k, by have := (hf k hk).2; omega, (hf k hk).1⟩⟩
end MD
