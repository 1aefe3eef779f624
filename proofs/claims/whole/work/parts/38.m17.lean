/-! ===== the reference: flows and limits ===== -/
section M17
variable {ad nm : Nat → Nat} {n : Nat → Int32} {I : Nat → Nat → Int32} {J : Nat → Nat → Int64} {μ0 : jM} {z : Nat × Nat} {A Ln F : Nat}
theorem m_afterSweepByMoves (h : mOk ad nm) (hA : n 0 = nI A) (hA10 : A ≤ 10) (hp : parOk A I) {x : Int32} {Q : Int64 → jM → Prop} (q1 : ∀ k, k < A → x = nI k → Q (sweepF I A (J 1) k) (mM ad nm (upd n 3 0) I (upR J 2 (cpF (J 1) (J 2))) μ0)) (q0 : ¬ (0 ≤ x ∧ x < n 0) → Q 0 (mM ad nm (upd n 3 1) I J μ0)) : wX10_afterSweepByMoves z (ad 0) x (mM ad nm n I J μ0) Q := by
  unfold wX10_afterSweepByMoves wX10_afterSweepByMoves_0
  refine ⟨mhere h, m_isThere h (fun c => ⟨fun e => absurd e (by decide), fun _ => ?_⟩) (fun c => ⟨fun _ => q0 c, fun e => absurd rfl e⟩)⟩
  obtain ⟨k, hk, e⟩ := ix_of hA (by omega) c
  exact ⟨mhere h, m_swept h (by rw [upd3_0]; exact hA) hA10 hp e (by omega) (q1 k hk e)⟩
theorem m_isFlow (h : mOk ad nm) {x : Int32} {Q : Int32 → jM → Prop} (q1 : 0 ≤ x ∧ x < n 2 → Q 1 (mM ad nm (upd n 3 0) I J μ0)) (q0 : ¬ (0 ≤ x ∧ x < n 2) → Q 0 (mM ad nm (upd n 3 1) I J μ0)) : wX10_isFlow z (ad 0) x (mM ad nm n I J μ0) Q := by
  unfold wX10_isFlow wX10_isFlow_0 wX10_isFlow_17 wX10_isFlow_18
  simp only [mg2 h, Option.some.injEq, Value.int.injEq, Value.long.injEq, jrf_inj, jrf_ref, jrf_null, exists_eq_left, exists_eq_left', exists_eq_right, forall_eq, forall_eq', and_true, true_and, not_true_eq_false, not_false_eq_true, false_and, and_false, true_implies, implies_true, false_implies]
  refine ⟨fun c => ?_, fun c => ⟨fun d => ?_, fun d => ?_⟩⟩
  · exact ⟨ad 0, ⟨rfl, mhere h⟩, m_can h ⟨rfl, q0 (fun y => absurd c (Int32.not_lt.mpr y.1))⟩⟩
  · exact ⟨ad 0, ⟨rfl, mhere h⟩, m_can h ⟨rfl, q0 (fun y => absurd d (Int32.not_le.mpr y.2))⟩⟩
  · exact ⟨ad 0, ⟨rfl, mhere h⟩, m_can h ⟨rfl, q1 ⟨Int32.not_lt.mp c, Int32.not_le.mp d⟩⟩⟩
def leftF (I : Nat → Nat → Int32) (y : Nat → Int64) (k : Nat) : Int32 := I 19 k - (y (88 + k)).toInt32
theorem m_leftOf (h : mOk ad nm) {x : Int32} {k : Nat} (hx : x = nI k) (hk : k < 20) {Q : Int32 → jM → Prop} (q : Q (leftF I (J 1) k) (mM ad nm n I J μ0)) : wX10_leftOf z (ad 0) x (mM ad nm n I J μ0) Q := by
  unfold wX10_leftOf wX10_leftOf_0
  subst hx
  have e1 : (88 : Int32) + nI k = nI (88 + k) := nI_add 88 k
  simp only [mg3 h, mg21 h, mI h (k := 19) (by omega) (by omega) (show k < mlen 19 from hk) rfl, mJ h (k := 1) (Or.inl rfl) (show 88 + k < mlen 1 by show 88 + k < 109; omega) e1, Option.some.injEq, Value.int.injEq, Value.long.injEq, jrf_inj, jrf_ref, jrf_null, exists_eq_left, exists_eq_left', exists_eq_right, forall_eq, forall_eq', and_true, true_and, not_true_eq_false, not_false_eq_true, false_and, and_false, true_implies, implies_true, false_implies]
  exact q
theorem m_timesLeft (h : mOk ad nm) (hF : n 2 = nI F) (hF20 : F ≤ 20) {x : Int32} {Q : Int32 → jM → Prop} (q1 : ∀ k, k < F → x = nI k → Q (leftF I (J 1) k) (mM ad nm (upd n 3 0) I J μ0)) (q0 : ¬ (0 ≤ x ∧ x < n 2) → Q 0 (mM ad nm (upd n 3 1) I J μ0)) : wX10_timesLeft z (ad 0) x (mM ad nm n I J μ0) Q := by
  unfold wX10_timesLeft wX10_timesLeft_0
  refine ⟨mhere h, m_isFlow h (fun c => ⟨fun e => absurd e (by decide), fun _ => ?_⟩) (fun c => ⟨fun _ => q0 c, fun e => absurd rfl e⟩)⟩
  obtain ⟨k, hk, e⟩ := ix_of hF (by omega) c
  exact ⟨mhere h, m_leftOf h e (by omega) (q1 k hk e)⟩
theorem m_cancel (h : mOk ad nm) (hF : n 2 = nI F) (hF20 : F ≤ 20) {x : Int32} {Q : Int32 → jM → Prop} (q1 : ∀ k, k < F → x = nI k → Q (leftF I (J 1) k) (mM ad nm (upd n 3 0) (upR I 19 (upd (I 19) k (I 19 k - leftF I (J 1) k))) J μ0)) (q0 : ¬ (0 ≤ x ∧ x < n 2) → Q 0 (mM ad nm (upd n 3 1) I J μ0)) : wX10_cancel z (ad 0) x (mM ad nm n I J μ0) Q := by
  unfold wX10_cancel wX10_cancel_0
  refine ⟨mhere h, m_isFlow h (fun c => ⟨fun _ => ?_, fun e => absurd e (by decide)⟩) (fun c => ⟨fun e => absurd rfl e, fun _ => q0 c⟩)⟩
  obtain ⟨k, hk, e⟩ := ix_of hF (by omega) c
  refine ⟨mhere h, m_leftOf h e (by omega) ?_⟩
  have k20 : k < 20 := by omega
  simp only [mg21 h, mI h (k := 19) (by omega) (by omega) (show k < mlen 19 from k20) e, msI h (k := 19) (by omega) (by omega) (show k < mlen 19 from k20) e, Option.some.injEq, Value.int.injEq, Value.long.injEq, jrf_inj, jrf_ref, jrf_null, exists_eq_left, exists_eq_left', exists_eq_right, forall_eq, forall_eq', and_true, true_and, not_true_eq_false, not_false_eq_true, false_and, and_false, true_implies, implies_true, false_implies]
  exact q1 k hk e
end M17
