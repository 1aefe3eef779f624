/-! ===== the reference's small questions, more of them ===== -/
section M16
variable {ad nm : Nat → Nat} {n : Nat → Int32} {I : Nat → Nat → Int32} {J : Nat → Nat → Int64} {μ0 : jM} {z : Nat × Nat} {A Ln F : Nat}
theorem m_isLine (h : mOk ad nm) {x : Int32} {Q : Int32 → jM → Prop} (q1 : 0 ≤ x ∧ x < n 1 → Q 1 (mM ad nm (upd n 3 0) I J μ0)) (q0 : ¬ (0 ≤ x ∧ x < n 1) → Q 0 (mM ad nm (upd n 3 1) I J μ0)) : wX10_isLine z (ad 0) x (mM ad nm n I J μ0) Q := by
  unfold wX10_isLine wX10_isLine_0 wX10_isLine_17 wX10_isLine_18
  simp only [mg1 h, Option.some.injEq, Value.int.injEq, Value.long.injEq, jrf_inj, jrf_ref, jrf_null, exists_eq_left, exists_eq_left', exists_eq_right, forall_eq, forall_eq', and_true, true_and, not_true_eq_false, not_false_eq_true, false_and, and_false, true_implies, implies_true, false_implies]
  refine ⟨fun c => ?_, fun c => ⟨fun d => ?_, fun d => ?_⟩⟩
  · exact ⟨ad 0, ⟨rfl, mhere h⟩, m_can h ⟨rfl, q0 (fun y => absurd c (Int32.not_lt.mpr y.1))⟩⟩
  · exact ⟨ad 0, ⟨rfl, mhere h⟩, m_can h ⟨rfl, q0 (fun y => absurd d (Int32.not_le.mpr y.2))⟩⟩
  · exact ⟨ad 0, ⟨rfl, mhere h⟩, m_can h ⟨rfl, q1 ⟨Int32.not_lt.mp c, Int32.not_le.mp d⟩⟩⟩
theorem m_drawn (h : mOk ad nm) (hL : n 1 = nI Ln) (hL6 : Ln ≤ 6) {x : Int32} {Q : Int32 → jM → Prop} (q1 : ∀ k, k < Ln → x = nI k → Q (J 1 (70 + k)).toInt32 (mM ad nm (upd n 3 0) I J μ0)) (q0 : ¬ (0 ≤ x ∧ x < n 1) → Q 0 (mM ad nm (upd n 3 1) I J μ0)) : wX10_drawn z (ad 0) x (mM ad nm n I J μ0) Q := by
  unfold wX10_drawn wX10_drawn_0
  refine ⟨mhere h, m_isLine h (fun c => ⟨fun e => absurd e (by decide), fun _ => ?_⟩) (fun c => ⟨fun _ => q0 c, fun e => absurd rfl e⟩)⟩
  obtain ⟨k, hk, e⟩ := ix_of hL (by omega) c
  have e1 : (70 : Int32) + x = nI (70 + k) := by rw [e]; exact nI_add 70 k
  simp only [mg3 h, mJ h (k := 1) (Or.inl rfl) (show 70 + k < mlen 1 by show 70 + k < 109; omega) e1, Option.some.injEq, Value.int.injEq, Value.long.injEq, jrf_inj, jrf_ref, jrf_null, exists_eq_left, exists_eq_left', exists_eq_right, forall_eq, forall_eq', and_true, true_and, not_true_eq_false, not_false_eq_true, false_and, and_false, true_implies, implies_true, false_implies]
  exact q1 k hk e
theorem m_costOf (h : mOk ad nm) (hL : n 1 = nI Ln) (hL6 : Ln ≤ 6) {x : Int32} {Q : Int64 → jM → Prop} (q1 : ∀ k, k < Ln → x = nI k → Q (J 1 (82 + k)) (mM ad nm (upd n 3 0) I J μ0)) (q0 : ¬ (0 ≤ x ∧ x < n 1) → Q 0 (mM ad nm (upd n 3 1) I J μ0)) : wX10_costOf z (ad 0) x (mM ad nm n I J μ0) Q := by
  unfold wX10_costOf wX10_costOf_0
  refine ⟨mhere h, m_isLine h (fun c => ⟨fun e => absurd e (by decide), fun _ => ?_⟩) (fun c => ⟨fun _ => q0 c, fun e => absurd rfl e⟩)⟩
  obtain ⟨k, hk, e⟩ := ix_of hL (by omega) c
  have e1 : (82 : Int32) + x = nI (82 + k) := by rw [e]; exact nI_add 82 k
  simp only [mg3 h, mJ h (k := 1) (Or.inl rfl) (show 82 + k < mlen 1 by show 82 + k < 109; omega) e1, Option.some.injEq, Value.int.injEq, Value.long.injEq, jrf_inj, jrf_ref, jrf_null, exists_eq_left, exists_eq_left', exists_eq_right, forall_eq, forall_eq', and_true, true_and, not_true_eq_false, not_false_eq_true, false_and, and_false, true_implies, implies_true, false_implies]
  exact q1 k hk e
theorem m_afterSweep (h : mOk ad nm) (hA : n 0 = nI A) (hA10 : A ≤ 10) (hp : parOk A I) {x : Int32} {Q : Int64 → jM → Prop} (q1 : ∀ k, k < A → x = nI k → Q (sweepF I A (J 1) k) (mM ad nm (upd n 3 0) I (upR J 2 (cpF (J 1) (J 2))) μ0)) (q0 : ¬ (0 ≤ x ∧ x < n 0) → Q 0 (mM ad nm (upd n 3 1) I J μ0)) : wX10_afterSweep z (ad 0) x (mM ad nm n I J μ0) Q := by
  unfold wX10_afterSweep wX10_afterSweep_0
  refine ⟨mhere h, m_isThere h (fun c => ⟨fun e => absurd e (by decide), fun _ => ?_⟩) (fun c => ⟨fun _ => q0 c, fun e => absurd rfl e⟩)⟩
  obtain ⟨k, hk, e⟩ := ix_of hA (by omega) c
  exact ⟨mhere h, m_swept h (by rw [upd3_0]; exact hA) hA10 hp e (by omega) (q1 k hk e)⟩
theorem m_total (h : mOk ad nm) (hA : n 0 = nI A) (hA10 : A ≤ 10) (hp : parOk A I) {x : Int32} {Q : Int64 → jM → Prop} (q1 : ∀ k, k < A → x = nI k → Q (sumF I A (J 1) (I 4 k) k) (mM ad nm (upd n 3 0) I J μ0)) (q0 : ¬ (0 ≤ x ∧ x < n 0) → Q 0 (mM ad nm (upd n 3 1) I J μ0)) : wX10_total z (ad 0) x (mM ad nm n I J μ0) Q := by
  unfold wX10_total wX10_total_0
  refine ⟨mhere h, m_isThere h (fun c => ⟨fun e => absurd e (by decide), fun _ => ?_⟩) (fun c => ⟨fun _ => q0 c, fun e => absurd rfl e⟩)⟩
  obtain ⟨k, hk, e⟩ := ix_of hA (by omega) c
  simp only [mg6 h, mI h (k := 4) (by omega) (by omega) (show k < mlen 4 by show k < 10; omega) e, Option.some.injEq, Value.int.injEq, Value.long.injEq, jrf_inj, jrf_ref, jrf_null, exists_eq_left, exists_eq_left', exists_eq_right, forall_eq, forall_eq', and_true, true_and, not_true_eq_false, not_false_eq_true, false_and, and_false, true_implies, implies_true, false_implies]
  exact ⟨mhere h, m_sumOf h (by rw [upd3_0]; exact hA) hA10 hp e hk (q1 k hk e)⟩
end M16
