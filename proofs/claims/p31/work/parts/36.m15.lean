/-! ===== the reference's small questions ===== -/
theorem ix_of {x c : Int32} {A : Nat} (hc : c = nI A) (hA : A < 2 ^ 31) (h : 0 ≤ x ∧ x < c) : ∃ k, k < A ∧ x = nI k := by
  obtain ⟨j, hj, e⟩ := nI_of (Int32.not_lt.mpr h.1)
  refine ⟨j, ?_, e⟩
  refine Nat.lt_of_not_le (fun hle => ?_)
  have := h.2
  rw [e, hc] at this
  exact nI_nlt hle hj this
theorem upd3_0 {n : Nat → Int32} {x : Int32} : upd n 3 x 0 = n 0 := by simp [upd]
theorem upd3_1 {n : Nat → Int32} {x : Int32} : upd n 3 x 1 = n 1 := by simp [upd]
theorem upd3_2 {n : Nat → Int32} {x : Int32} : upd n 3 x 2 = n 2 := by simp [upd]
section M15
variable {ad nm : Nat → Nat} {n : Nat → Int32} {I : Nat → Nat → Int32} {J : Nat → Nat → Int64} {μ0 : jM} {z : Nat × Nat} {A Ln F : Nat}
end M15
