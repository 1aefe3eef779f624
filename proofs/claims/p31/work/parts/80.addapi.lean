/-! ===== the class's call that adds an account ===== -/
section AD
variable {z : Nat × Nat} {ad : Nat × Nat → Nat} {nm : Nat → Nat × Nat} {A L F : Nat} {I : Nat → Nat → Int32} {K : Nat → Nat → Int64} {k : Nat → Nat → Int32} {μ0 : jM} {y : Nat → Int64}
theorem c_left (h : cE ad nm A L F I) {Q : Unit → jM → Prop} {E : String → jM → Prop} (q : A < 10 → Q () (cM z ad nm A L F I y K k μ0)) (e : A = 10 → E "java/lang/IllegalStateException" (cM z ad nm A L F I y K k μ0)) : wX9_requireAccountLeft z (ad (0, 0)) (cM z ad nm A L F I y K k μ0) Q E := by
  have hA := h.2.1
  have hl : clv A I 4 0 := Or.inl ⟨rfl, by decide⟩
  have hn : (clist A L F I 4 0).length = A := List.length_range
  unfold wX9_requireAccountLeft wX9_requireAccountLeft_0
  refine ⟨_, cg0_0 h.1, _, cg1_0 h.1, _, ⟨rfl, c_lh h hl⟩, c_size h hl ?_⟩
  rw [hn]
  exact ⟨fun c => q ((nI_ltI (b := 10) (by omega) (by decide)).mp c), fun c => e (by
    have : ¬ A < 10 := fun g => c (nI_lt (b := 10) g (by decide))
    omega)⟩
/-- what is 0 before an account is there -/
def fresh (A : Nat) (I : Nat → Nat → Int32) (y : Nat → Int64) : Prop := y A = 0 ∧ y (50 + A) = 0 ∧ y (30 + A) = 0 ∧ y (40 + A) = 0 ∧ y (10 + A) = 0 ∧ y (20 + A) = 0 ∧ y (60 + A) = 0 ∧ I 6 A = 0 ∧ I 7 A = 0 ∧ I 8 A = 0
theorem c_addAccount (h : cE ad nm A L F I) (hzn : nm z.1 = (100, 0)) (hz0 : μ0 z.1 = some jZ0) (hf : A < 10 → fresh A I y) {x x2 : Int32} {Q : Int32 → jM → Prop} {E : String → jM → Prop}
    (q : ∀ i, i < A → x = nI i → (0 ≤ x2 ∧ x2 ≤ 3) → A < 10 → ∀ ad' nm' μ0' k', cE ad' nm' (A + 1) L F (addI A x (I 4 i) x2 0 0 I) → nxt nm μ0 nm' μ0' → ad' (0, 0) = ad (0, 0) → Q (nI A) (cM z ad' nm' (A + 1) L F (addI A x (I 4 i) x2 0 0 I) y (acK K A) k' μ0'))
    (e : ¬ (0 ≤ x ∧ x < nI A) → E "java/lang/IndexOutOfBoundsException" (cM z ad nm A L F I y K k μ0)) (e2 : 0 ≤ x ∧ x < nI A → ¬ (0 ≤ x2 ∧ x2 ≤ 3) → E "java/lang/IllegalArgumentException" (cM z ad nm A L F I y K k μ0)) (e3 : 0 ≤ x ∧ x < nI A → (0 ≤ x2 ∧ x2 ≤ 3) → A = 10 → E "java/lang/IllegalStateException" (cM z ad nm A L F I y K k μ0)) : wX9_addAccount z (ad (0, 0)) x x2 (cM z ad nm A L F I y K k μ0) Q E := by
  have hA := h.2.1
  unfold wX9_addAccount wX9_addAccount_0
  refine ⟨ch0 h.1, c_accountAt h (fun i hi ei => ⟨ch0 h.1, c_bankAt h (fun B hB eB => ⟨ch0 h.1, c_left h (fun A10 => ⟨_, cg0_0 h.1, _, ⟨rfl, ch1 h.1⟩, ?_⟩) (fun A10 => e3 ?_ ?_ A10)⟩) (fun v => e2 ?_ v)⟩) e⟩
  · obtain ⟨f1, f2, f3, f4, -, -, -, f6, f7, f8⟩ := hf A10
    have q := q i hi ei (by rw [eB]; exact ⟨nI_pos' (by omega), nI_le (b := 3) (by omega) (by decide)⟩) A10
    rw [ei, eB] at q
    exact c_openAccount h hzn hz0 A10 f1 f2 f3 f4 f6 f7 f8 hi hB q
  · rw [ei]; exact ⟨nI_pos' (by omega), nI_lt hi (by omega)⟩
  · rw [eB]; exact ⟨nI_pos' (by omega), nI_le (b := 3) (by omega) (by decide)⟩
  · rw [ei]; exact ⟨nI_pos' (by omega), nI_lt hi (by omega)⟩
end AD
