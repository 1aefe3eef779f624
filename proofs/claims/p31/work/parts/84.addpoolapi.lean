/-! ===== the class's call that adds a pool ===== -/
section AQ
variable {z : Nat × Nat} {ad : Nat × Nat → Nat} {nm : Nat → Nat × Nat} {A L F : Nat} {I : Nat → Nat → Int32} {K : Nat → Nat → Int64} {k : Nat → Nat → Int32} {μ0 : jM} {y : Nat → Int64}
theorem c_addPool (h : cE ad nm A L F I) (hzn : nm z.1 = (100, 0)) (hz0 : μ0 z.1 = some jZ0) (hf : A < 10 → fresh A I y) {x x2 x3 : Int32} {Q : Int32 → jM → Prop} {E : String → jM → Prop}
    (q : ((0 ≤ x ∧ x ≤ 3) ∧ (0 ≤ x2 ∧ x2 ≤ 1000) ∧ (0 ≤ x3 ∧ x3 ≤ 1000)) → A < 10 → ∀ ad' nm' μ0' k', cE ad' nm' (A + 1) L F (addI A (-1) (nI A) x x2 x3 I) → nxt nm μ0 nm' μ0' → ad' (0, 0) = ad (0, 0) → Q (nI A) (cM z ad' nm' (A + 1) L F (addI A (-1) (nI A) x x2 x3 I) y (apK K A) k' μ0'))
    (e : ¬ ((0 ≤ x ∧ x ≤ 3) ∧ (0 ≤ x2 ∧ x2 ≤ 1000) ∧ (0 ≤ x3 ∧ x3 ≤ 1000)) → E "java/lang/IllegalArgumentException" (cM z ad nm A L F I y K k μ0)) (e2 : ((0 ≤ x ∧ x ≤ 3) ∧ (0 ≤ x2 ∧ x2 ≤ 1000) ∧ (0 ≤ x3 ∧ x3 ≤ 1000)) → A = 10 → E "java/lang/IllegalStateException" (cM z ad nm A L F I y K k μ0)) : wX9_addPool z (ad (0, 0)) x x2 x3 (cM z ad nm A L F I y K k μ0) Q E := by
  unfold wX9_addPool wX9_addPool_0
  refine ⟨ch0 h.1, c_bankAt h (fun B hB eB => ?_) (fun v => e (fun w => v w.1))⟩
  have r : 0 ≤ x ∧ x ≤ 3 := by rw [eB]; exact ⟨nI_pos' (by omega), nI_le (b := 3) (by omega) (by decide)⟩
  refine c_within (fun v2 => c_within (fun v3 => ⟨ch0 h.1, c_left h (fun A10 => ⟨_, cg0_0 h.1, _, ⟨rfl, ch1 h.1⟩, ?_⟩) (fun A10 => e2 ⟨r, v2, v3⟩ A10)⟩) (fun v3 => e (fun w => v3 w.2.2))) (fun v2 => e (fun w => v2 w.2.1))
  have q := q ⟨r, v2, v3⟩ A10
  rw [eB] at q
  exact c_openPool h hzn hz0 A10 (hf A10) hB q
end AQ
