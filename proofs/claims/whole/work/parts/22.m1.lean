/-! ===== the reference's small methods ===== -/
theorem jnb {c : Prop} [Decidable c] : narrow .boolean (.int (if c then 1 else 0)) = .int (if c then 1 else 0) := by split <;> rfl
section M1
variable {ad nm : Nat → Nat} {n : Nat → Int32} {I : Nat → Nat → Int32} {J : Nat → Nat → Int64} {μ0 : jM} {z : Nat × Nat}
theorem m_can (h : mOk ad nm) {x : Int32} {Q : Int32 → jM → Prop} (q : Q (if x = 0 then 1 else 0) (mM ad nm (upd n 3 x) I J μ0)) : wX10_can z (ad 0) x (mM ad nm n I J μ0) Q := by
  unfold wX10_can wX10_can_0
  simp only [mp24 h, Option.some.injEq, Value.int.injEq, Value.long.injEq, jrf_inj, jrf_ref, jrf_null, exists_eq_left, exists_eq_left', exists_eq_right, forall_eq, forall_eq', and_true, true_and, not_true_eq_false, not_false_eq_true, false_and, and_false, true_implies, implies_true, false_implies]
  refine ⟨fun c => ?_, fun c => ?_⟩
  · rw [if_neg c] at q
    exact q
  · rw [if_pos c] at q
    exact q
theorem m_isIn {x0 x1 x2 : Int32} {μ : jM} {Q : Int32 → jM → Prop} (q : Q (if x1 ≤ x0 ∧ x0 ≤ x2 then 1 else 0) μ) : wX10_isIn z x0 x1 x2 μ Q := by
  unfold wX10_isIn wX10_isIn_0
  refine ⟨fun c => ?_, fun c => ⟨fun d => ?_, fun d => ?_⟩⟩
  · rw [if_neg (fun e => absurd e.1 (Int32.not_le.mpr c))] at q
    exact q
  · rw [if_neg (fun e => absurd e.2 (Int32.not_le.mpr d))] at q
    exact q
  · rw [if_pos ⟨Int32.not_lt.mp c, Int32.not_lt.mp d⟩] at q
    exact q
theorem m_isAmount {x : Int32} {μ : jM} {Q : Int32 → jM → Prop} (q : Q (if -1000000 ≤ x ∧ x ≤ 1000000 then 1 else 0) μ) : wX10_isAmount z x μ Q := by
  unfold wX10_isAmount wX10_isAmount_0
  exact m_isIn ⟨jnb, q⟩
theorem m_isAccount (h : mOk ad nm) {x : Int32} {Q : Int32 → jM → Prop} (q : Q (if 0 ≤ x ∧ x < n 0 then 1 else 0) (mM ad nm n I J μ0)) : wX10_isAccount z (ad 0) x (mM ad nm n I J μ0) Q := by
  unfold wX10_isAccount wX10_isAccount_0
  refine ⟨fun c => ?_, fun c => ?_⟩
  · rw [if_neg (fun e => absurd e.1 (Int32.not_le.mpr c))] at q
    exact q
  · simp only [mg0 h, Option.some.injEq, Value.int.injEq, Value.long.injEq, jrf_inj, jrf_ref, jrf_null, exists_eq_left, exists_eq_left', exists_eq_right, forall_eq, forall_eq', and_true, true_and, not_true_eq_false, not_false_eq_true, false_and, and_false, true_implies, implies_true, false_implies]
    refine ⟨fun d => ?_, fun d => ?_⟩
    · rw [if_neg (fun e => absurd e.2 (Int32.not_lt.mpr d))] at q
      exact q
    · rw [if_pos ⟨Int32.not_lt.mp c, Int32.not_le.mp d⟩] at q
      exact q
theorem m_isTop (h : mOk ad nm) {x : Int32} {i : Nat} (hx : x = nI i) (hi : i < 10) {Q : Int32 → jM → Prop} (q : Q (if I 3 i = -1 then 1 else 0) (mM ad nm n I J μ0)) : wX10_isTop z (ad 0) x (mM ad nm n I J μ0) Q := by
  unfold wX10_isTop wX10_isTop_0
  simp only [mg5 h, mI h (k := 3) (by omega) (by omega) hi hx, Option.some.injEq, Value.int.injEq, Value.long.injEq, jrf_inj, jrf_ref, jrf_null, exists_eq_left, exists_eq_left', exists_eq_right, forall_eq, forall_eq', and_true, true_and, not_true_eq_false, not_false_eq_true, false_and, and_false, true_implies, implies_true, false_implies]
  refine ⟨fun c => ?_, fun c => ?_⟩
  · rw [if_neg c] at q
    exact q
  · rw [if_pos c] at q
    exact q
theorem m_thrown (h : mOk ad nm) {Q : Int32 → jM → Prop} (q : Q (n 3) (mM ad nm n I J μ0)) : wX10_thrown z (ad 0) (mM ad nm n I J μ0) Q := by
  unfold wX10_thrown wX10_thrown_0
  simp only [mg24 h, Option.some.injEq, Value.int.injEq, Value.long.injEq, jrf_inj, jrf_ref, jrf_null, exists_eq_left, exists_eq_left', exists_eq_right, forall_eq, forall_eq', and_true, true_and, not_true_eq_false, not_false_eq_true, false_and, and_false, true_implies, implies_true, false_implies]
  exact q
/-- what an account has too much, or lacks -/
def surpF (I : Nat → Nat → Int32) (k : Nat) (v : Int64) : Int64 :=
  if I 6 k = 0 ∨ (I 6 k = 2 ∧ v - (I 7 k).toInt64 < 0) ∨ (I 6 k = 3 ∧ 0 < v - (I 7 k).toInt64) then 0 else v - (I 7 k).toInt64
theorem m_surplus (h : mOk ad nm) {x : Int32} {i : Nat} (hx : x = nI i) (hi : i < 10) {Q : Int64 → jM → Prop} (q : Q (surpF I i (J 1 i)) (mM ad nm n I J μ0)) : wX10_surplus z (ad 0) x (mM ad nm n I J μ0) Q := by
  unfold wX10_surplus wX10_surplus_0
  have e0 : (0 : Int32) + x = nI i := by rw [hx]; exact Int32.zero_add _
  simp only [mg3 h, mg9 h, mg8 h, mJ h (k := 1) (Or.inl rfl) (show i < mlen 1 by show i < 109; omega) e0, mI h (k := 7) (by omega) (by omega) (show i < mlen 7 from hi) hx, mI h (k := 6) (by omega) (by omega) (show i < mlen 6 from hi) hx, Option.some.injEq, Value.int.injEq, Value.long.injEq, jrf_inj, jrf_ref, jrf_null, exists_eq_left, exists_eq_left', exists_eq_right, forall_eq, forall_eq', and_true, true_and, not_true_eq_false, not_false_eq_true, false_and, and_false, true_implies, implies_true, false_implies]
  unfold surpF at q
  refine ⟨fun c => ?_, fun c => ⟨fun d => ?_, fun d => ⟨fun e => ?_, fun e => ?_⟩⟩⟩
  · rw [if_pos (Or.inl c)] at q
    exact q
  · unfold wX10_surplus_42
    refine ⟨fun e => ?_, fun e => ⟨fun f => ?_, fun f => ?_⟩⟩
    · rw [if_neg (fun y => y.elim c (fun y => y.elim (fun y => d y.1) (fun y => e y.1)))] at q
      exact q
    · rw [if_neg (fun y => y.elim c (fun y => y.elim (fun y => d y.1) (fun y => absurd y.2 (Int64.not_lt.mpr f))))] at q
      exact q
    · rw [if_pos (Or.inr (Or.inr ⟨e, Int64.not_le.mp f⟩))] at q
      exact q
  · rw [if_pos (Or.inr (Or.inl ⟨d, e⟩))] at q
    exact q
  · unfold wX10_surplus_42
    have d2 : I 6 i = 2 := d
    have hn : ¬ I 6 i = 3 := by rw [d2]; decide
    refine ⟨fun f => ?_, fun f => absurd f hn⟩
    rw [if_neg (fun y => y.elim c (fun y => y.elim (fun y => e y.2) (fun y => hn y.1)))] at q
    exact q
/-- an amount from one account to another -/
def movF (i j : Nat) (v : Int64) (y : Nat → Int64) : Nat → Int64 := vp_updL (vp_updL y i (y i - v)) j (vp_updL y i (y i - v) j + v)
theorem upR_same {α : Type} (f : Nat → Nat → α) (k : Nat) (g : Nat → α) : upR f k g k = g := by simp [upR]
theorem upR_ne {α : Type} (f : Nat → Nat → α) {k j : Nat} (g : Nat → α) (h : j ≠ k) : upR f k g j = f j := by simp [upR, h]
theorem upR_up {α : Type} (f : Nat → Nat → α) (k : Nat) (g g' : Nat → α) : upR (upR f k g) k g' = upR f k g' := by
  funext j
  by_cases h : j = k <;> simp [upR, h]
theorem upR_id {α : Type} (f : Nat → Nat → α) (k : Nat) : upR f k (f k) = f := by
  funext j
  by_cases h : j = k <;> simp [upR, h]
theorem m_moves (h : mOk ad nm) {x y : Int32} {i j : Nat} {v : Int64} (hx : x = nI i) (hi : i < 10) (hy : y = nI j) (hj : j < 10) {Q : Unit → jM → Prop} (q : Q () (mM ad nm n I (upR J 1 (movF i j v (J 1))) μ0)) : wX10_moves z (ad 0) x y v (mM ad nm n I J μ0) Q := by
  unfold wX10_moves wX10_moves_0
  have e0 : (0 : Int32) + x = nI i := by rw [hx]; exact Int32.zero_add _
  have e1 : (0 : Int32) + y = nI j := by rw [hy]; exact Int32.zero_add _
  have l1 : i < mlen 1 := by show i < 109; omega
  have l2 : j < mlen 1 := by show j < 109; omega
  simp only [mg3 h, mJ h (k := 1) (Or.inl rfl) l1 e0, mJ h (k := 1) (Or.inl rfl) l2 e1, msJ h (k := 1) (Or.inl rfl) l1 e0, msJ h (k := 1) (Or.inl rfl) l2 e1, upR_same, upR_up, Option.some.injEq, Value.int.injEq, Value.long.injEq, jrf_inj, jrf_ref, jrf_null, exists_eq_left, exists_eq_left', exists_eq_right, forall_eq, forall_eq', and_true, true_and, not_true_eq_false, not_false_eq_true, false_and, and_false, true_implies, implies_true, false_implies]
  exact q
end M1
