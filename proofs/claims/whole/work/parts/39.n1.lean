/-! ===== the reference: exposures, pools' interest, bookings ===== -/
section N1
variable {ad nm : Nat → Nat} {n : Nat → Int32} {I : Nat → Nat → Int32} {J : Nat → Nat → Int64} {μ0 : jM} {z : Nat × Nat} {A Ln F : Nat}
theorem m_exposure (h : mOk ad nm) (hA : n 0 = nI A) (hA10 : A ≤ 10) {x : Int32} {Q : Int64 → jM → Prop} (q1 : ∀ d, d ≤ 3 → x = nI d → Q (expF I A (J 1) d) (mM ad nm (upd n 3 0) I J μ0)) (q0 : ¬ (0 ≤ x ∧ x ≤ 3) → Q 0 (mM ad nm (upd n 3 1) I J μ0)) : wX10_exposure z (ad 0) x (mM ad nm n I J μ0) Q := by
  unfold wX10_exposure wX10_exposure_0
  refine m_isIn ?_
  unfold wX10_exposure_15
  by_cases c : 0 ≤ x ∧ x ≤ 3
  · rw [if_pos c]
    refine ⟨fun e => absurd e (by decide), fun _ => ⟨ad 0, ⟨rfl, mhere h⟩, m_can h ⟨fun e => absurd e (by decide), fun _ => ⟨mhere h, ?_⟩⟩⟩⟩
    obtain ⟨d, hd, e⟩ := nI_of2 (M := 3) (n := 3) rfl (Int32.not_lt.mpr c.1) c.2
    exact m_exposed h (by rw [upd3_0]; exact hA) hA10 e (q1 d hd e)
  · rw [if_neg c]
    exact ⟨fun _ => ⟨ad 0, ⟨rfl, mhere h⟩, m_can h ⟨fun _ => q0 c, fun e => absurd rfl e⟩⟩, fun e => absurd rfl e⟩
theorem m_poolInterest (h : mOk ad nm) (hA : n 0 = nI A) (hA10 : A ≤ 10) {x : Int32} {Q : Int64 → jM → Prop} (q0 : ∀ k, k < A → x = nI k → I 3 k = -1 → Q (J 1 (60 + k)) (mM ad nm (upd n 3 0) I J μ0)) (q1 : ¬ (0 ≤ x ∧ x < n 0) → Q 0 (mM ad nm (upd n 3 1) I J μ0)) (q2 : ∀ k, k < A → x = nI k → ¬ I 3 k = -1 → Q 0 (mM ad nm (upd n 3 2) I J μ0)) : wX10_poolInterest z (ad 0) x (mM ad nm n I J μ0) Q := by
  unfold wX10_poolInterest wX10_poolInterest_0
  refine ⟨mhere h, m_isAccount h ?_⟩
  unfold wX10_poolInterest_26
  by_cases c : 0 ≤ x ∧ x < n 0
  · rw [if_pos c]
    obtain ⟨k, hk, e⟩ := ix_of hA (by omega) c
    refine ⟨fun _ => ⟨mhere h, m_isTop h e (by omega) ?_⟩, fun e => absurd e (by decide)⟩
    by_cases c2 : I 3 k = -1
    · rw [if_pos c2]
      have e1 : (60 : Int32) + x = nI (60 + k) := by rw [e]; exact nI_add 60 k
      refine ⟨fun e => absurd e (by decide), fun _ => ⟨ad 0, ⟨rfl, mhere h⟩, m_can h ⟨fun e => absurd e (by decide), fun _ => ?_⟩⟩⟩
      simp only [mg3 h, mJ h (k := 1) (Or.inl rfl) (show 60 + k < mlen 1 by show 60 + k < 109; omega) e1, Option.some.injEq, Value.int.injEq, Value.long.injEq, jrf_inj, jrf_ref, jrf_null, exists_eq_left, exists_eq_left', exists_eq_right, forall_eq, forall_eq', and_true, true_and, not_true_eq_false, not_false_eq_true, false_and, and_false, true_implies, implies_true, false_implies]
      exact q0 k hk e c2
    · rw [if_neg c2]
      exact ⟨fun _ => ⟨ad 0, ⟨rfl, mhere h⟩, m_can h ⟨fun _ => q2 k hk e c2, fun e => absurd (if_neg (by decide)) e⟩⟩, fun e => absurd rfl e⟩
  · rw [if_neg c]
    exact ⟨fun e => absurd rfl e, fun _ => ⟨ad 0, ⟨rfl, mhere h⟩, m_can h ⟨fun _ => q1 c, fun e => absurd (if_neg (by decide)) e⟩⟩⟩
end N1
