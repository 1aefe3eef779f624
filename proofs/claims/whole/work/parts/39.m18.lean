/-! ===== the reference: days, limits, bookings ===== -/
section M18
variable {ad nm : Nat → Nat} {n : Nat → Int32} {I : Nat → Nat → Int32} {J : Nat → Nat → Int64} {μ0 : jM} {z : Nat × Nat} {A Ln F : Nat}
theorem m_settlementDay (h : mOk ad nm) {x : Int32} {Q : Int32 → jM → Prop} (q1 : ∀ d, d ≤ 450 → x = nI d → Q (oI (stlF I (451 - d) d)) (mM ad nm (upd n 3 0) I J μ0)) (q0 : ¬ (0 ≤ x ∧ x ≤ 450) → Q 0 (mM ad nm (upd n 3 1) I J μ0)) : wX10_settlementDay z (ad 0) x (mM ad nm n I J μ0) Q := by
  unfold wX10_settlementDay wX10_settlementDay_0
  refine m_isIn ?_
  unfold wX10_settlementDay_17
  by_cases c : 0 ≤ x ∧ x ≤ 450
  · rw [if_pos c]
    refine ⟨fun e => absurd e (by decide), fun _ => ⟨ad 0, ⟨rfl, mhere h⟩, m_can h ⟨fun e => absurd e (by decide), fun _ => ⟨mhere h, ?_⟩⟩⟩⟩
    obtain ⟨d, hd, e⟩ := nI_of2 (M := 450) (n := 450) rfl (Int32.not_lt.mpr c.1) c.2
    exact m_settles h e (by omega) (q1 d hd e)
  · rw [if_neg c]
    exact ⟨fun _ => ⟨ad 0, ⟨rfl, mhere h⟩, m_can h ⟨fun _ => q0 c, fun e => absurd rfl e⟩⟩, fun e => absurd rfl e⟩
theorem m_setBankLimit (h : mOk ad nm) {x x2 : Int32} {Q : Int32 → jM → Prop} (q1 : ∀ k, k < 4 → x = nI k → -1 ≤ x2 ∧ x2 ≤ 1000000000 → Q (I 14 k) (mM ad nm (upd n 3 0) (upR I 14 (upd (I 14) k x2)) J μ0)) (q0 : ¬ ((0 ≤ x ∧ x ≤ 3) ∧ (-1 ≤ x2 ∧ x2 ≤ 1000000000)) → Q 0 (mM ad nm (upd n 3 1) I J μ0)) : wX10_setBankLimit z (ad 0) x x2 (mM ad nm n I J μ0) Q := by
  unfold wX10_setBankLimit wX10_setBankLimit_0
  refine m_isIn ?_
  unfold wX10_setBankLimit_24 wX10_setBankLimit_25
  by_cases c : 0 ≤ x ∧ x ≤ 3
  · rw [if_pos c]
    refine ⟨fun e => absurd e (by decide), fun _ => m_isIn ?_⟩
    by_cases c2 : -1 ≤ x2 ∧ x2 ≤ 1000000000
    · rw [if_pos c2]
      refine ⟨fun e => absurd e (by decide), fun _ => ⟨ad 0, ⟨rfl, mhere h⟩, m_can h ⟨fun _ => ?_, fun e => absurd e (by decide)⟩⟩⟩
      obtain ⟨d, hd, e⟩ := nI_of2 (M := 3) (n := 3) rfl (Int32.not_lt.mpr c.1) c.2
      simp only [mg16 h, mI h (k := 14) (by omega) (by omega) (show d < mlen 14 by show d < 4; omega) e, msI h (k := 14) (by omega) (by omega) (show d < mlen 14 by show d < 4; omega) e, Option.some.injEq, Value.int.injEq, Value.long.injEq, jrf_inj, jrf_ref, jrf_null, exists_eq_left, exists_eq_left', exists_eq_right, forall_eq, forall_eq', and_true, true_and, not_true_eq_false, not_false_eq_true, false_and, and_false, true_implies, implies_true, false_implies]
      exact q1 d (by omega) e c2
    · rw [if_neg c2]
      exact ⟨fun _ => ⟨ad 0, ⟨rfl, mhere h⟩, m_can h ⟨fun e => absurd rfl e, fun _ => q0 (fun y => c2 y.2)⟩⟩, fun e => absurd rfl e⟩
  · rw [if_neg c]
    exact ⟨fun _ => ⟨ad 0, ⟨rfl, mhere h⟩, m_can h ⟨fun e => absurd rfl e, fun _ => q0 (fun y => c y.1)⟩⟩, fun e => absurd rfl e⟩
theorem m_setFloor (h : mOk ad nm) (hA : n 0 = nI A) (hA10 : A ≤ 10) {x x2 : Int32} {Q : Int32 → jM → Prop} (q0 : ∀ k, k < A → x = nI k → -1000000 ≤ x2 ∧ x2 ≤ 1000000 → Q (I 8 k) (mM ad nm (upd n 3 0) (upR I 8 (upd (I 8) k x2)) J μ0)) (q1 : ¬ (0 ≤ x ∧ x < n 0) → Q 0 (mM ad nm (upd n 3 1) I J μ0)) (q2 : 0 ≤ x ∧ x < n 0 → ¬ (-1000000 ≤ x2 ∧ x2 ≤ 1000000) → Q 0 (mM ad nm (upd n 3 2) I J μ0)) : wX10_setFloor z (ad 0) x x2 (mM ad nm n I J μ0) Q := by
  unfold wX10_setFloor wX10_setFloor_0
  refine ⟨mhere h, m_isAccount h ?_⟩
  unfold wX10_setFloor_25
  by_cases c : 0 ≤ x ∧ x < n 0
  · rw [if_pos c]
    refine ⟨fun _ => m_isAmount ?_, fun e => absurd e (by decide)⟩
    by_cases c2 : -1000000 ≤ x2 ∧ x2 ≤ 1000000
    · rw [if_pos c2]
      refine ⟨fun e => absurd e (by decide), fun _ => ⟨ad 0, ⟨rfl, mhere h⟩, m_can h ⟨fun _ => ?_, fun e => absurd e (by decide)⟩⟩⟩
      obtain ⟨k, hk, e⟩ := ix_of hA (by omega) c
      have k10 : k < 10 := by omega
      simp only [mg10 h, mI h (k := 8) (by omega) (by omega) (show k < mlen 8 from k10) e, msI h (k := 8) (by omega) (by omega) (show k < mlen 8 from k10) e, Option.some.injEq, Value.int.injEq, Value.long.injEq, jrf_inj, jrf_ref, jrf_null, exists_eq_left, exists_eq_left', exists_eq_right, forall_eq, forall_eq', and_true, true_and, not_true_eq_false, not_false_eq_true, false_and, and_false, true_implies, implies_true, false_implies]
      exact q0 k hk e c2
    · rw [if_neg c2]
      exact ⟨fun _ => ⟨ad 0, ⟨rfl, mhere h⟩, m_can h ⟨fun e => absurd e (by decide), fun _ => q2 c c2⟩⟩, fun e => absurd rfl e⟩
  · rw [if_neg c]
    exact ⟨fun e => absurd rfl e, fun _ => ⟨ad 0, ⟨rfl, mhere h⟩, m_can h ⟨fun e => absurd e (by decide), fun _ => q1 c⟩⟩⟩
end M18
