/-! ===== the reference's small questions ===== -/
theorem ix_of {x c : Int32} {A : Nat} (hc : c = nI A) (hA : A < 2 ^ 31) (h : 0 ≤ x ∧ x < c) : ∃ k, k < A ∧ x = nI k := by
  obtain ⟨j, hj, e⟩ := nI_of (Int32.not_lt.mpr h.1)
  refine ⟨j, ?_, e⟩
  refine Nat.lt_of_not_le (fun hle => ?_)
  have := h.2
  rw [e, hc] at this
  exact nI_nlt hle hj this
theorem upd3_0 {n : Nat → Int32} {x : Int32} : upd n 3 x 0 = n 0 := by simp [upd]
theorem upd3_1 {n : Nat → Int32} {x : Int32} : upd n 3 x 1 = n 1 := by simp [upd]
theorem upd3_2 {n : Nat → Int32} {x : Int32} : upd n 3 x 2 = n 2 := by simp [upd]
section M15
variable {ad nm : Nat → Nat} {n : Nat → Int32} {I : Nat → Nat → Int32} {J : Nat → Nat → Int64} {μ0 : jM} {z : Nat × Nat} {A Ln F : Nat}
theorem m_today (h : mOk ad nm) {Q : Int32 → jM → Prop} (q : Q ((J 1 108).toInt32) (mM ad nm (upd n 3 0) I J μ0)) : wX10_today z (ad 0) (mM ad nm n I J μ0) Q := by
  unfold wX10_today wX10_today_0
  simp only [mp24 h, mg3 h, mJ h (k := 1) (Or.inl rfl) (show 108 < mlen 1 by decide) (show (108 : Int32) = nI 108 from rfl), Option.some.injEq, Value.int.injEq, Value.long.injEq, jrf_inj, jrf_ref, jrf_null, exists_eq_left, exists_eq_left', exists_eq_right, forall_eq, forall_eq', and_true, true_and, not_true_eq_false, not_false_eq_true, false_and, and_false, true_implies, implies_true, false_implies]
  exact q
theorem m_accounts (h : mOk ad nm) {Q : Int32 → jM → Prop} (q : Q (n 0) (mM ad nm (upd n 3 0) I J μ0)) : wX10_accounts z (ad 0) (mM ad nm n I J μ0) Q := by
  unfold wX10_accounts wX10_accounts_0
  simp only [mp24 h, mg0 h, upd3_0, Option.some.injEq, Value.int.injEq, Value.long.injEq, jrf_inj, jrf_ref, jrf_null, exists_eq_left, exists_eq_left', exists_eq_right, forall_eq, forall_eq', and_true, true_and, not_true_eq_false, not_false_eq_true, false_and, and_false, true_implies, implies_true, false_implies]
  exact q
theorem m_isThere (h : mOk ad nm) {x : Int32} {Q : Int32 → jM → Prop} (q1 : 0 ≤ x ∧ x < n 0 → Q 1 (mM ad nm (upd n 3 0) I J μ0)) (q0 : ¬ (0 ≤ x ∧ x < n 0) → Q 0 (mM ad nm (upd n 3 1) I J μ0)) : wX10_isThere z (ad 0) x (mM ad nm n I J μ0) Q := by
  unfold wX10_isThere wX10_isThere_0
  refine ⟨mhere h, m_isAccount h ?_⟩
  by_cases c : 0 ≤ x ∧ x < n 0
  · rw [if_pos c]
    refine ⟨fun e => absurd e (by decide), fun _ => ?_⟩
    unfold wX10_isThere_14
    exact ⟨ad 0, ⟨rfl, mhere h⟩, m_can h ⟨rfl, q1 c⟩⟩
  · rw [if_neg c]
    refine ⟨fun _ => ?_, fun e => absurd rfl e⟩
    unfold wX10_isThere_14
    exact ⟨ad 0, ⟨rfl, mhere h⟩, m_can h ⟨rfl, q0 c⟩⟩
theorem m_balance (h : mOk ad nm) (hA : n 0 = nI A) (hA10 : A ≤ 10) {x : Int32} {Q : Int64 → jM → Prop} (q1 : ∀ k, k < A → x = nI k → Q (J 1 k) (mM ad nm (upd n 3 0) I J μ0)) (q0 : ¬ (0 ≤ x ∧ x < n 0) → Q 0 (mM ad nm (upd n 3 1) I J μ0)) : wX10_balance z (ad 0) x (mM ad nm n I J μ0) Q := by
  unfold wX10_balance wX10_balance_0
  refine ⟨mhere h, m_isThere h (fun c => ⟨fun e => absurd e (by decide), fun _ => ?_⟩) (fun c => ⟨fun _ => q0 c, fun e => absurd rfl e⟩)⟩
  obtain ⟨k, hk, e⟩ := ix_of hA (by omega) c
  have e1 : (0 : Int32) + x = nI k := by rw [e]; exact Int32.zero_add _
  simp only [mg3 h, mJ h (k := 1) (Or.inl rfl) (show k < mlen 1 by show k < 109; omega) e1, Option.some.injEq, Value.int.injEq, Value.long.injEq, jrf_inj, jrf_ref, jrf_null, exists_eq_left, exists_eq_left', exists_eq_right, forall_eq, forall_eq', and_true, true_and, not_true_eq_false, not_false_eq_true, false_and, and_false, true_implies, implies_true, false_implies]
  exact q1 k hk e
theorem m_poolOf (h : mOk ad nm) (hA : n 0 = nI A) (hA10 : A ≤ 10) {x : Int32} {Q : Int32 → jM → Prop} (q1 : ∀ k, k < A → x = nI k → Q (I 4 k) (mM ad nm (upd n 3 0) I J μ0)) (q0 : ¬ (0 ≤ x ∧ x < n 0) → Q 0 (mM ad nm (upd n 3 1) I J μ0)) : wX10_poolOf z (ad 0) x (mM ad nm n I J μ0) Q := by
  unfold wX10_poolOf wX10_poolOf_0
  refine ⟨mhere h, m_isThere h (fun c => ⟨fun e => absurd e (by decide), fun _ => ?_⟩) (fun c => ⟨fun _ => q0 c, fun e => absurd rfl e⟩)⟩
  obtain ⟨k, hk, e⟩ := ix_of hA (by omega) c
  simp only [mg6 h, mI h (k := 4) (by omega) (by omega) (show k < mlen 4 by show k < 10; omega) e, Option.some.injEq, Value.int.injEq, Value.long.injEq, jrf_inj, jrf_ref, jrf_null, exists_eq_left, exists_eq_left', exists_eq_right, forall_eq, forall_eq', and_true, true_and, not_true_eq_false, not_false_eq_true, false_and, and_false, true_implies, implies_true, false_implies]
  exact q1 k hk e
theorem m_interestOf (h : mOk ad nm) (hA : n 0 = nI A) (hA10 : A ≤ 10) {x : Int32} {Q : Int64 → jM → Prop} (q1 : ∀ k, k < A → x = nI k → Q (J 1 (50 + k)) (mM ad nm (upd n 3 0) I J μ0)) (q0 : ¬ (0 ≤ x ∧ x < n 0) → Q 0 (mM ad nm (upd n 3 1) I J μ0)) : wX10_interestOf z (ad 0) x (mM ad nm n I J μ0) Q := by
  unfold wX10_interestOf wX10_interestOf_0
  refine ⟨mhere h, m_isThere h (fun c => ⟨fun e => absurd e (by decide), fun _ => ?_⟩) (fun c => ⟨fun _ => q0 c, fun e => absurd rfl e⟩)⟩
  obtain ⟨k, hk, e⟩ := ix_of hA (by omega) c
  have e1 : (50 : Int32) + x = nI (50 + k) := by rw [e]; exact nI_add 50 k
  simp only [mg3 h, mJ h (k := 1) (Or.inl rfl) (show 50 + k < mlen 1 by show 50 + k < 109; omega) e1, Option.some.injEq, Value.int.injEq, Value.long.injEq, jrf_inj, jrf_ref, jrf_null, exists_eq_left, exists_eq_left', exists_eq_right, forall_eq, forall_eq', and_true, true_and, not_true_eq_false, not_false_eq_true, false_and, and_false, true_implies, implies_true, false_implies]
  exact q1 k hk e
end M15
