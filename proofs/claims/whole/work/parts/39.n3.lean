/-! ===== the reference: rules ===== -/
section N3
variable {ad nm : Nat → Nat} {n : Nat → Int32} {I : Nat → Nat → Int32} {J : Nat → Nat → Int64} {μ0 : jM} {z : Nat × Nat} {A Ln F : Nat}
theorem m_setRule (h : mOk ad nm) (hA : n 0 = nI A) (hA10 : A ≤ 10) {x x2 x3 : Int32} {Q : Int32 → jM → Prop} (q0 : ∀ k, k < A → x = nI k → ((0 ≤ x2 ∧ x2 ≤ 3) ∧ (-1000000 ≤ x3 ∧ x3 ≤ 1000000)) → ¬ I 3 k = -1 → Q (I 6 k) (mM ad nm (upd n 3 0) (upR (upR I 6 (upd (I 6) k x2)) 7 (upd (I 7) k x3)) J μ0)) (q1 : ¬ (0 ≤ x ∧ x < n 0) → Q 0 (mM ad nm (upd n 3 1) I J μ0)) (q2 : 0 ≤ x ∧ x < n 0 → ¬ ((0 ≤ x2 ∧ x2 ≤ 3) ∧ (-1000000 ≤ x3 ∧ x3 ≤ 1000000)) → Q 0 (mM ad nm (upd n 3 2) I J μ0)) (q3 : ∀ k, k < A → x = nI k → ((0 ≤ x2 ∧ x2 ≤ 3) ∧ (-1000000 ≤ x3 ∧ x3 ≤ 1000000)) → I 3 k = -1 → Q 0 (mM ad nm (upd n 3 3) I J μ0)) : wX10_setRule z (ad 0) x x2 x3 (mM ad nm n I J μ0) Q := by
  unfold wX10_setRule wX10_setRule_0
  refine ⟨mhere h, m_isAccount h ?_⟩
  by_cases c : 0 ≤ x ∧ x < n 0
  · rw [if_pos c]
    obtain ⟨k, hk, e⟩ := ix_of hA (by omega) c
    have k10 : k < 10 := by omega
    have two : ¬ ((0 ≤ x2 ∧ x2 ≤ 3) ∧ (-1000000 ≤ x3 ∧ x3 ≤ 1000000)) → wX10_setRule_29 z (ad 0) Q x x2 x3 (some (ad 0)) (mM ad nm n I J μ0) := by
      intro d
      unfold wX10_setRule_29 wX10_setRule_46
      exact ⟨ad 0, ⟨rfl, mhere h⟩, m_can h ⟨fun e => absurd (if_neg (by decide)) e, fun _ => q2 c d⟩⟩
    refine ⟨fun _ => m_isIn ?_, fun e => absurd e (by decide)⟩
    by_cases c2 : 0 ≤ x2 ∧ x2 ≤ 3
    · rw [if_pos c2]
      refine ⟨fun e => absurd e (by decide), fun _ => m_isAmount ?_⟩
      by_cases c3 : -1000000 ≤ x3 ∧ x3 ≤ 1000000
      · rw [if_pos c3]
        refine ⟨fun _ => ⟨mhere h, m_isTop h e k10 ?_⟩, fun e => absurd e (by decide)⟩
        unfold wX10_setRule_46
        by_cases c4 : I 3 k = -1
        · rw [if_pos c4]
          exact ⟨fun e => absurd e (by decide), fun _ => ⟨ad 0, ⟨rfl, mhere h⟩, m_can h ⟨fun e => absurd (if_neg (by decide)) e, fun _ => q3 k hk e ⟨c2, c3⟩ c4⟩⟩⟩
        · rw [if_neg c4]
          refine ⟨fun _ => ⟨ad 0, ⟨rfl, mhere h⟩, m_can h ⟨fun _ => ?_, fun e => absurd e (by decide)⟩⟩, fun e => absurd rfl e⟩
          have r7 : ∀ g : Nat → Int32, upR I 6 g 7 = I 7 := fun g => if_neg (by decide)
          have s7 := fun g => msI (n := upd n 3 0) (I := upR I 6 g) (J := J) (μ0 := μ0) (v := x3) h (k := 7) (by omega) (by omega) (show k < mlen 7 from k10) e
          simp only [r7] at s7
          simp only [mg8 h, mg9 h, mI h (k := 6) (by omega) (by omega) (show k < mlen 6 from k10) e, msI h (k := 6) (by omega) (by omega) (show k < mlen 6 from k10) e, s7, Option.some.injEq, Value.int.injEq, Value.long.injEq, jrf_inj, jrf_ref, jrf_null, exists_eq_left, exists_eq_left', exists_eq_right, forall_eq, forall_eq', and_true, true_and, not_true_eq_false, not_false_eq_true, false_and, and_false, true_implies, implies_true, false_implies]
          exact q0 k hk e ⟨c2, c3⟩ c4
      · rw [if_neg c3]
        exact ⟨fun e => absurd rfl e, fun _ => two (fun y => c3 y.2)⟩
    · rw [if_neg c2]
      exact ⟨fun _ => two (fun y => c2 y.1), fun e => absurd rfl e⟩
  · rw [if_neg c]
    unfold wX10_setRule_46
    exact ⟨fun e => absurd rfl e, fun _ => ⟨ad 0, ⟨rfl, mhere h⟩, m_can h ⟨fun e => absurd (if_neg (by decide)) e, fun _ => q1 c⟩⟩⟩
end N3
