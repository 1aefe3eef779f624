/-! ===== the reference books ===== -/
section N2
variable {ad nm : Nat → Nat} {n : Nat → Int32} {I : Nat → Nat → Int32} {J : Nat → Nat → Int64} {μ0 : jM} {z : Nat × Nat} {A Ln F : Nat}
theorem m_book (h : mOk ad nm) (hA : n 0 = nI A) (hA10 : A ≤ 10) {x x2 : Int32} {Q : Int64 → jM → Prop} (q0 : ∀ k, k < A → x = nI k → (-1000000 ≤ x2 ∧ x2 ≤ 1000000) ∧ ¬ x2 = 0 → Q (J 1 k + x2.toInt64) (mM ad nm (upd n 3 0) I (upR J 1 (vp_updL (J 1) k (J 1 k + x2.toInt64))) μ0)) (q1 : ¬ (0 ≤ x ∧ x < n 0) → Q 0 (mM ad nm (upd n 3 1) I J μ0)) (q2 : 0 ≤ x ∧ x < n 0 → ¬ ((-1000000 ≤ x2 ∧ x2 ≤ 1000000) ∧ ¬ x2 = 0) → Q 0 (mM ad nm (upd n 3 2) I J μ0)) : wX10_book z (ad 0) x x2 (mM ad nm n I J μ0) Q := by
  unfold wX10_book wX10_book_0
  refine ⟨mhere h, m_isAccount h ?_⟩
  unfold wX10_book_24 wX10_book_29
  by_cases c : 0 ≤ x ∧ x < n 0
  · rw [if_pos c]
    obtain ⟨k, hk, e⟩ := ix_of hA (by omega) c
    have e1 : (0 : Int32) + x = nI k := by rw [e]; exact Int32.zero_add _
    have two : ¬ ((-1000000 ≤ x2 ∧ x2 ≤ 1000000) ∧ ¬ x2 = 0) → ∃ b3 : Nat, (some (ad 0) = some b3 ∧ ∃ fs, mM ad nm n I J μ0 b3 = some (.inr (12, fs))) ∧ wX10_can z b3 2 (mM ad nm n I J μ0) (fun v1 μ2 => ((¬ v1 = 0) → (∃ v4 : Option Nat, jg μ2 (some (ad 0)) 12 3 = some (va_rf v4) ∧ (∃ v5 : Int64, jaj μ2 v4 ((0 : Int32) + x) = some v5 ∧ (∃ μ6 : jM, jsj μ2 v4 ((0 : Int32) + x) (v5 + (Int32.toInt64 x2)) = some μ6 ∧ (∃ v7 : Option Nat, jg μ6 (some (ad 0)) 12 3 = some (va_rf v7) ∧ (∃ v8 : Int64, jaj μ6 v7 ((0 : Int32) + x) = some v8 ∧ (Q v8 μ6))))))) ∧ (v1 = 0 → (Q 0 μ2))) := by
      intro d
      exact ⟨ad 0, ⟨rfl, mhere h⟩, m_can h ⟨fun e => absurd (if_neg (by decide)) e, fun _ => q2 c d⟩⟩
    refine ⟨fun _ => m_isAmount ?_, fun e => absurd e (by decide)⟩
    by_cases c2 : -1000000 ≤ x2 ∧ x2 ≤ 1000000
    · rw [if_pos c2]
      refine ⟨fun e => absurd e (by decide), fun _ => ⟨fun c3 => ?_, fun c3 => two (fun y => y.2 c3)⟩⟩
      refine ⟨ad 0, ⟨rfl, mhere h⟩, m_can h ⟨fun _ => ?_, fun e => absurd e (by decide)⟩⟩
      have hr := mJu (n := upd n 3 0) (I := I) (J := J) (μ0 := μ0) h (y := vp_updL (J 1) k (J 1 k + x2.toInt64)) (show k < 109 by omega) e1
      rw [pk_uLs] at hr
      simp only [mg3 h, mJ h (k := 1) (Or.inl rfl) (show k < mlen 1 by show k < 109; omega) e1, msJ h (k := 1) (Or.inl rfl) (show k < mlen 1 by show k < 109; omega) e1, hr, Option.some.injEq, Value.int.injEq, Value.long.injEq, jrf_inj, jrf_ref, jrf_null, exists_eq_left, exists_eq_left', exists_eq_right, forall_eq, forall_eq', and_true, true_and, not_true_eq_false, not_false_eq_true, false_and, and_false, true_implies, implies_true, false_implies]
      rw [upR_same, pk_uLs]
      exact q0 k hk e ⟨c2, c3⟩
    · rw [if_neg c2]
      exact ⟨fun _ => two (fun y => c2 y.1), fun e => absurd rfl e⟩
  · rw [if_neg c]
    exact ⟨fun e => absurd rfl e, fun _ => ⟨ad 0, ⟨rfl, mhere h⟩, m_can h ⟨fun e => absurd (if_neg (by decide)) e, fun _ => q1 c⟩⟩⟩
end N2
