/-! ===== the reference adds flows, lines, pools, accounts ===== -/
theorem ifb {c : Prop} [Decidable c] {P R : Prop} (p : c → P) (r : ¬ c → R) : ((¬ (if c then (1 : Int32) else 0) = 0) → P) ∧ ((if c then (1 : Int32) else 0) = 0 → R) := by
  by_cases g : c
  · rw [if_pos g]; exact ⟨fun _ => p g, fun e => absurd e (by decide)⟩
  · rw [if_neg g]; exact ⟨fun e => absurd rfl e, fun _ => r g⟩
theorem ifb' {c : Prop} [Decidable c] {P R : Prop} (p : c → P) (r : ¬ c → R) : ((if c then (1 : Int32) else 0) = 0 → R) ∧ ((¬ (if c then (1 : Int32) else 0) = 0) → P) := ⟨(ifb p r).2, (ifb p r).1⟩
theorem fsI_up {I : Nat → Nat → Int32} {F : Nat} {x x2 x3 x4 x5 : Int32} : upR (upR (upR (upR (upR I 15 (upd (I 15) F x)) 16 (upd (I 16) F x2)) 17 (upd (I 17) F x3)) 18 (upd (I 18) F x4)) 19 (upd (I 19) F x5) = fsI I F x x2 x3 x4 x5 := by
  funext r
  by_cases g : r < 15 ∨ 20 ≤ r
  · rw [fsI_lo g, upR_o (by omega), upR_o (by omega), upR_o (by omega), upR_o (by omega), upR_o (by omega)]
  · have : r = 15 ∨ r = 16 ∨ r = 17 ∨ r = 18 ∨ r = 19 := by omega
    rcases this with rfl | rfl | rfl | rfl | rfl <;> rfl
/-- the rows with line L -/
def lnI (I : Nat → Nat → Int32) (L : Nat) (x x2 x3 : Int32) : Nat → Nat → Int32 := upR (upR (upR I 11 (upd (I 11) L x)) 12 (upd (I 12) L x2)) 13 (upd (I 13) L x3)
section MA
variable {ad nm : Nat → Nat} {n : Nat → Int32} {I : Nat → Nat → Int32} {J : Nat → Nat → Int64} {μ0 : jM} {z : Nat × Nat} {A L F d : Nat}
theorem m_schedule (h : mOk ad nm) (hA : n 0 = nI A) (hA10 : A ≤ 10) (hF : n 2 = nI F) (hF20 : F ≤ 20) (hd : d ≤ 450) (s4 : J 1 108 = lN d) {x x2 x3 x4 x5 : Int32} {Q : Int32 → jM → Prop}
    (q : ∀ i, i < A → x = nI i → (((-1000000 ≤ x2 ∧ x2 ≤ 1000000) ∧ ¬ x2 = 0) ∧ (nI d ≤ x3 ∧ x3 ≤ 450) ∧ (1 ≤ x4 ∧ x4 ≤ 100) ∧ (1 ≤ x5 ∧ x5 ≤ 30)) → F < 20 → Q (nI F) (mM ad nm (upd (upd n 3 0) 2 (nI (F + 1))) (fsI I F x x2 x3 x4 x5) J μ0))
    (q1 : ¬ (0 ≤ x ∧ x < n 0) → Q 0 (mM ad nm (upd n 3 1) I J μ0)) (q2 : 0 ≤ x ∧ x < n 0 → ¬ (((-1000000 ≤ x2 ∧ x2 ≤ 1000000) ∧ ¬ x2 = 0) ∧ (nI d ≤ x3 ∧ x3 ≤ 450) ∧ (1 ≤ x4 ∧ x4 ≤ 100) ∧ (1 ≤ x5 ∧ x5 ≤ 30)) → Q 0 (mM ad nm (upd n 3 2) I J μ0)) (q3 : 0 ≤ x ∧ x < n 0 → (((-1000000 ≤ x2 ∧ x2 ≤ 1000000) ∧ ¬ x2 = 0) ∧ (nI d ≤ x3 ∧ x3 ≤ 450) ∧ (1 ≤ x4 ∧ x4 ≤ 100) ∧ (1 ≤ x5 ∧ x5 ≤ 30)) → F = 20 → Q 0 (mM ad nm (upd n 3 3) I J μ0)) : wX10_schedule z (ad 0) x x2 x3 x4 x5 (mM ad nm n I J μ0) Q := by
  have lt64 : x3.toInt64 < lN d ↔ x3 < nI d := by
    rw [Int64.lt_iff_toInt_lt, Int32.lt_iff_toInt_lt, Int32.toInt_toInt64, lN_toInt (by omega), nI_toInt (by omega)]
  have no : ∀ c : Int32, ¬ c = 0 → Q 0 (mM ad nm (upd n 3 c) I J μ0) → wX10_schedule_96 z (ad 0) Q x x2 x3 x4 x5 (some (ad 0)) c (mM ad nm n I J μ0) := fun c hc w => by
    unfold wX10_schedule_96
    exact ⟨ad 0, ⟨rfl, mhere h⟩, m_can h (ifb (fun e => absurd e hc) (fun _ => w))⟩
  have bad : ¬ (((-1000000 ≤ x2 ∧ x2 ≤ 1000000) ∧ ¬ x2 = 0) ∧ (nI d ≤ x3 ∧ x3 ≤ 450) ∧ (1 ≤ x4 ∧ x4 ≤ 100) ∧ (1 ≤ x5 ∧ x5 ≤ 30)) → wX10_schedule_57 z (ad 0) Q x x2 x3 x4 x5 (mM ad nm n I J μ0) := fun g => by
    unfold wX10_schedule_57 wX10_schedule_58
    exact ⟨mhere h, m_isAccount h (ifb (fun v => ⟨fun e => absurd rfl e, fun _ => no 2 (by decide) (q2 v g)⟩) (fun v => no 1 (by decide) (q1 v)))⟩
  unfold wX10_schedule wX10_schedule_0
  refine m_isAmount (ifb' (fun v2 => ⟨fun e => bad (fun w => w.1.2 e), fun v2' => ?_⟩) (fun v2 => bad (fun w => v2 w.1.1)))
  simp only [mg3 h, mJ h (k := 1) (Or.inl rfl) (show 108 < mlen 1 by decide) (show (108 : Int32) = nI 108 from rfl), Option.some.injEq, Value.int.injEq, Value.long.injEq, jrf_inj, jrf_ref, jrf_null, exists_eq_left, exists_eq_left', exists_eq_right, forall_eq, forall_eq', and_true, true_and, not_true_eq_false, not_false_eq_true, false_and, and_false, true_implies, implies_true, false_implies]
  rw [s4]
  refine ⟨fun g => bad (fun w => absurd (lt64.mp g) (Int32.not_lt.mpr w.2.1.1)), fun g => ⟨fun g2 => bad (fun w => absurd g2 (Int32.not_lt.mpr w.2.1.2)), fun g2 => m_isIn (ifb' (fun v4 => m_isIn (ifb' (fun v5 => ?_) (fun v5 => bad (fun w => v5 w.2.2.2)))) (fun v4 => bad (fun w => v4 w.2.2.1)))⟩⟩
  have ok : ((-1000000 ≤ x2 ∧ x2 ≤ 1000000) ∧ ¬ x2 = 0) ∧ (nI d ≤ x3 ∧ x3 ≤ 450) ∧ (1 ≤ x4 ∧ x4 ≤ 100) ∧ (1 ≤ x5 ∧ x5 ≤ 30) := ⟨⟨v2, v2'⟩, ⟨Int32.not_lt.mp (fun c => g (lt64.mpr c)), Int32.not_lt.mp g2⟩, v4, v5⟩
  unfold wX10_schedule_58
  refine ⟨mhere h, m_isAccount h (ifb (fun v => ⟨fun _ => ?_, fun e => absurd e (by decide)⟩) (fun v => no 1 (by decide) (q1 v)))⟩
  simp only [mg2 h, Option.some.injEq, Value.int.injEq, Value.long.injEq, jrf_inj, jrf_ref, jrf_null, exists_eq_left, exists_eq_left', exists_eq_right, forall_eq, forall_eq', and_true, true_and, not_true_eq_false, not_false_eq_true, false_and, and_false, true_implies, implies_true, false_implies]
  rw [hF]
  refine ⟨fun c => ?_, fun c => no 3 (by decide) (q3 v ok ((nI_eq (b := 20) (by omega) (by decide)).mp c))⟩
  have F20 : F < 20 := by
    have : ¬ F = 20 := fun e => c (by rw [e]; rfl)
    omega
  obtain ⟨i, hi, ei⟩ := ix_of hA (by omega) v
  unfold wX10_schedule_96
  refine ⟨ad 0, ⟨rfl, mhere h⟩, m_can h (ifb (fun _ => ?_) (fun e => absurd rfl e))⟩
  have n2 : upd n 3 0 2 = nI F := by rw [upd3_2]; exact hF
  have w := q i hi ei ok F20
  rw [← fsI_up] at w
  simp only [mg2 h, mg17 h, n2, Option.some.injEq, Value.int.injEq, Value.long.injEq, jrf_inj, jrf_ref, jrf_null, exists_eq_left, exists_eq_left', exists_eq_right, forall_eq, forall_eq', and_true, true_and, not_true_eq_false, not_false_eq_true, false_and, and_false, true_implies, implies_true, false_implies]
  refine ⟨_, msIu h (g := I 15) rfl (by decide) (by decide) (show F < mlen 15 from F20) rfl, ?_⟩
  simp only [mg2 h, mg18 h, n2, Option.some.injEq, Value.int.injEq, Value.long.injEq, jrf_inj, jrf_ref, jrf_null, exists_eq_left, exists_eq_left', exists_eq_right, forall_eq, forall_eq', and_true, true_and, not_true_eq_false, not_false_eq_true, false_and, and_false, true_implies, implies_true, false_implies]
  refine ⟨_, msIu h (g := I 16) rfl (by decide) (by decide) (show F < mlen 16 from F20) rfl, ?_⟩
  simp only [mg2 h, mg19 h, n2, Option.some.injEq, Value.int.injEq, Value.long.injEq, jrf_inj, jrf_ref, jrf_null, exists_eq_left, exists_eq_left', exists_eq_right, forall_eq, forall_eq', and_true, true_and, not_true_eq_false, not_false_eq_true, false_and, and_false, true_implies, implies_true, false_implies]
  refine ⟨_, msIu h (g := I 17) rfl (by decide) (by decide) (show F < mlen 17 from F20) rfl, ?_⟩
  simp only [mg2 h, mg20 h, n2, Option.some.injEq, Value.int.injEq, Value.long.injEq, jrf_inj, jrf_ref, jrf_null, exists_eq_left, exists_eq_left', exists_eq_right, forall_eq, forall_eq', and_true, true_and, not_true_eq_false, not_false_eq_true, false_and, and_false, true_implies, implies_true, false_implies]
  refine ⟨_, msIu h (g := I 18) rfl (by decide) (by decide) (show F < mlen 18 from F20) rfl, ?_⟩
  simp only [mg2 h, mg21 h, n2, Option.some.injEq, Value.int.injEq, Value.long.injEq, jrf_inj, jrf_ref, jrf_null, exists_eq_left, exists_eq_left', exists_eq_right, forall_eq, forall_eq', and_true, true_and, not_true_eq_false, not_false_eq_true, false_and, and_false, true_implies, implies_true, false_implies]
  refine ⟨_, msIu h (g := I 19) rfl (by decide) (by decide) (show F < mlen 19 from F20) rfl, ?_⟩
  simp only [mg2 h, mp2 h, n2, nI_1, upd_at, nI_pred, Option.some.injEq, Value.int.injEq, Value.long.injEq, jrf_inj, jrf_ref, jrf_null, exists_eq_left, exists_eq_left', exists_eq_right, forall_eq, forall_eq', and_true, true_and, not_true_eq_false, not_false_eq_true, false_and, and_false, true_implies, implies_true, false_implies]
  exact w
theorem m_addLine (h : mOk ad nm) (hA : n 0 = nI A) (hA10 : A ≤ 10) (hL : n 1 = nI L) (hL6 : L ≤ 6) {x x2 x3 : Int32} {Q : Int32 → jM → Prop}
    (q : ∀ i, i < A → x = nI i → ((1 ≤ x2 ∧ x2 ≤ 10000000) ∧ (0 ≤ x3 ∧ x3 ≤ 1000)) → I 3 i = -1 → L < 6 → Q (nI L) (mM ad nm (upd (upd n 3 0) 1 (nI (L + 1))) (lnI I L x x2 x3) J μ0))
    (q1 : ¬ (0 ≤ x ∧ x < n 0) → Q 0 (mM ad nm (upd n 3 1) I J μ0)) (q2 : 0 ≤ x ∧ x < n 0 → ¬ ((1 ≤ x2 ∧ x2 ≤ 10000000) ∧ (0 ≤ x3 ∧ x3 ≤ 1000)) → Q 0 (mM ad nm (upd n 3 2) I J μ0)) (q3 : ∀ i, i < A → x = nI i → ((1 ≤ x2 ∧ x2 ≤ 10000000) ∧ (0 ≤ x3 ∧ x3 ≤ 1000)) → (¬ I 3 i = -1 ∨ L = 6) → Q 0 (mM ad nm (upd n 3 3) I J μ0)) : wX10_addLine z (ad 0) x x2 x3 (mM ad nm n I J μ0) Q := by
  have no : ∀ c : Int32, ¬ c = 0 → Q 0 (mM ad nm (upd n 3 c) I J μ0) → wX10_addLine_60 z (ad 0) Q x x2 x3 (some (ad 0)) c (mM ad nm n I J μ0) := fun c hc w => by
    unfold wX10_addLine_60
    exact ⟨ad 0, ⟨rfl, mhere h⟩, m_can h (ifb (fun e => absurd e hc) (fun _ => w))⟩
  unfold wX10_addLine wX10_addLine_0 wX10_addLine_34 wX10_addLine_55
  refine ⟨mhere h, m_isAccount h (ifb (fun v => ?_) (fun v => no 1 (by decide) (q1 v)))⟩
  refine m_isIn (ifb' (fun v2 => m_isIn (ifb (fun v3 => ?_) (fun v3 => no 2 (by decide) (q2 v (fun w => v3 w.2))))) (fun v2 => no 2 (by decide) (q2 v (fun w => v2 w.1))))
  obtain ⟨i, hi, ei⟩ := ix_of hA (by omega) v
  refine ⟨mhere h, m_isTop h ei (by omega) (ifb' (fun tp => ?_) (fun tp => no 3 (by decide) (q3 i hi ei ⟨v2, v3⟩ (Or.inl tp))))⟩
  simp only [mg1 h, Option.some.injEq, Value.int.injEq, Value.long.injEq, jrf_inj, jrf_ref, jrf_null, exists_eq_left, exists_eq_left', exists_eq_right, forall_eq, forall_eq', and_true, true_and, not_true_eq_false, not_false_eq_true, false_and, and_false, true_implies, implies_true, false_implies]
  rw [hL]
  refine ⟨fun c => ?_, fun c => no 3 (by decide) (q3 i hi ei ⟨v2, v3⟩ (Or.inr ((nI_eq (b := 6) (by omega) (by decide)).mp c)))⟩
  have L6 : L < 6 := by
    have : ¬ L = 6 := fun e => c (by rw [e]; rfl)
    omega
  unfold wX10_addLine_60
  refine ⟨ad 0, ⟨rfl, mhere h⟩, m_can h (ifb (fun _ => ?_) (fun e => absurd rfl e))⟩
  have n1 : upd n 3 0 1 = nI L := by rw [upd3_1]; exact hL
  have w := q i hi ei ⟨v2, v3⟩ tp L6
  unfold lnI at w
  simp only [mg1 h, mg13 h, n1, Option.some.injEq, Value.int.injEq, Value.long.injEq, jrf_inj, jrf_ref, jrf_null, exists_eq_left, exists_eq_left', exists_eq_right, forall_eq, forall_eq', and_true, true_and, not_true_eq_false, not_false_eq_true, false_and, and_false, true_implies, implies_true, false_implies]
  refine ⟨_, msIu h (g := I 11) rfl (by decide) (by decide) (show L < mlen 11 from L6) rfl, ?_⟩
  simp only [mg1 h, mg14 h, n1, Option.some.injEq, Value.int.injEq, Value.long.injEq, jrf_inj, jrf_ref, jrf_null, exists_eq_left, exists_eq_left', exists_eq_right, forall_eq, forall_eq', and_true, true_and, not_true_eq_false, not_false_eq_true, false_and, and_false, true_implies, implies_true, false_implies]
  refine ⟨_, msIu h (g := I 12) rfl (by decide) (by decide) (show L < mlen 12 from L6) rfl, ?_⟩
  simp only [mg1 h, mg15 h, n1, Option.some.injEq, Value.int.injEq, Value.long.injEq, jrf_inj, jrf_ref, jrf_null, exists_eq_left, exists_eq_left', exists_eq_right, forall_eq, forall_eq', and_true, true_and, not_true_eq_false, not_false_eq_true, false_and, and_false, true_implies, implies_true, false_implies]
  refine ⟨_, msIu h (g := I 13) rfl (by decide) (by decide) (show L < mlen 13 from L6) rfl, ?_⟩
  simp only [mg1 h, mp1 h, n1, nI_1, upd_at, nI_pred, Option.some.injEq, Value.int.injEq, Value.long.injEq, jrf_inj, jrf_ref, jrf_null, exists_eq_left, exists_eq_left', exists_eq_right, forall_eq, forall_eq', and_true, true_and, not_true_eq_false, not_false_eq_true, false_and, and_false, true_implies, implies_true, false_implies]
  exact w
theorem m_addPool (h : mOk ad nm) (hA : n 0 = nI A) (hA10 : A ≤ 10) {x x2 x3 : Int32} {Q : Int32 → jM → Prop}
    (q : ((0 ≤ x ∧ x ≤ 3) ∧ (0 ≤ x2 ∧ x2 ≤ 1000) ∧ (0 ≤ x3 ∧ x3 ≤ 1000)) → A < 10 → Q (nI A) (mM ad nm (upd (upd n 3 0) 0 (nI (A + 1))) (addI A (-1) (nI A) x x2 x3 I) J μ0))
    (q1 : ¬ ((0 ≤ x ∧ x ≤ 3) ∧ (0 ≤ x2 ∧ x2 ≤ 1000) ∧ (0 ≤ x3 ∧ x3 ≤ 1000)) → Q 0 (mM ad nm (upd n 3 1) I J μ0)) (q2 : ((0 ≤ x ∧ x ≤ 3) ∧ (0 ≤ x2 ∧ x2 ≤ 1000) ∧ (0 ≤ x3 ∧ x3 ≤ 1000)) → A = 10 → Q 0 (mM ad nm (upd n 3 2) I J μ0)) : wX10_addPool z (ad 0) x x2 x3 (mM ad nm n I J μ0) Q := by
  have no : ∀ c : Int32, ¬ c = 0 → Q 0 (mM ad nm (upd n 3 c) I J μ0) → wX10_addPool_62 z (ad 0) Q x x2 x3 (some (ad 0)) c (mM ad nm n I J μ0) := fun c hc w => by
    unfold wX10_addPool_62
    exact ⟨ad 0, ⟨rfl, mhere h⟩, m_can h (ifb' (fun e => absurd e hc) (fun _ => w))⟩
  have bad : ¬ ((0 ≤ x ∧ x ≤ 3) ∧ (0 ≤ x2 ∧ x2 ≤ 1000) ∧ (0 ≤ x3 ∧ x3 ≤ 1000)) → wX10_addPool_35 z (ad 0) Q x x2 x3 (mM ad nm n I J μ0) := fun g => by
    unfold wX10_addPool_35 wX10_addPool_36
    exact ⟨fun e => absurd rfl e, fun _ => no 1 (by decide) (q1 g)⟩
  unfold wX10_addPool wX10_addPool_0
  refine m_isIn (ifb' (fun v1 => m_isIn (ifb' (fun v2 => m_isIn (ifb' (fun v3 => ?_) (fun v3 => bad (fun w => v3 w.2.2)))) (fun v2 => bad (fun w => v2 w.2.1)))) (fun v1 => bad (fun w => v1 w.1)))
  unfold wX10_addPool_36
  simp only [mg0 h, Option.some.injEq, Value.int.injEq, Value.long.injEq, jrf_inj, jrf_ref, jrf_null, exists_eq_left, exists_eq_left', exists_eq_right, forall_eq, forall_eq', and_true, true_and, not_true_eq_false, not_false_eq_true, false_and, and_false, true_implies, implies_true, false_implies]
  rw [hA]
  refine ⟨fun _ => ⟨fun c => ?_, fun c => no 2 (by decide) (q2 ⟨v1, v2, v3⟩ ((nI_eq (b := 10) (by omega) (by decide)).mp c))⟩, fun e => absurd e (by decide)⟩
  have A10 : A < 10 := by
    have : ¬ A = 10 := fun e => c (by rw [e]; rfl)
    omega
  unfold wX10_addPool_62
  exact ⟨ad 0, ⟨rfl, mhere h⟩, m_can h (ifb' (fun _ => ⟨mhere h, m_adds h (by rw [upd3_0]; exact hA) A10 (Or.inl ⟨rfl, rfl⟩) (q ⟨v1, v2, v3⟩ A10)⟩) (fun e => absurd rfl e))⟩
theorem m_addAccount (h : mOk ad nm) (hA : n 0 = nI A) (hA10 : A ≤ 10) {x x2 : Int32} {Q : Int32 → jM → Prop}
    (q : ∀ i, i < A → x = nI i → (0 ≤ x2 ∧ x2 ≤ 3) → A < 10 → Q (nI A) (mM ad nm (upd (upd n 3 0) 0 (nI (A + 1))) (addI A x (I 4 i) x2 0 0 I) J μ0))
    (q1 : ¬ (0 ≤ x ∧ x < n 0) → Q 0 (mM ad nm (upd n 3 1) I J μ0)) (q2 : 0 ≤ x ∧ x < n 0 → ¬ (0 ≤ x2 ∧ x2 ≤ 3) → Q 0 (mM ad nm (upd n 3 2) I J μ0)) (q3 : 0 ≤ x ∧ x < n 0 → (0 ≤ x2 ∧ x2 ≤ 3) → A = 10 → Q 0 (mM ad nm (upd n 3 3) I J μ0)) : wX10_addAccount z (ad 0) x x2 (mM ad nm n I J μ0) Q := by
  have no : ∀ c : Int32, ¬ c = 0 → Q 0 (mM ad nm (upd n 3 c) I J μ0) → wX10_addAccount_40 z (ad 0) Q x x2 (some (ad 0)) c (mM ad nm n I J μ0) := fun c hc w => by
    unfold wX10_addAccount_40
    exact ⟨ad 0, ⟨rfl, mhere h⟩, m_can h (ifb' (fun e => absurd e hc) (fun _ => w))⟩
  unfold wX10_addAccount wX10_addAccount_0
  refine ⟨mhere h, m_isAccount h (ifb (fun v => m_isIn (ifb (fun v2 => ?_) (fun v2 => no 2 (by decide) (q2 v v2)))) (fun v => no 1 (by decide) (q1 v)))⟩
  simp only [mg0 h, Option.some.injEq, Value.int.injEq, Value.long.injEq, jrf_inj, jrf_ref, jrf_null, exists_eq_left, exists_eq_left', exists_eq_right, forall_eq, forall_eq', and_true, true_and, not_true_eq_false, not_false_eq_true, false_and, and_false, true_implies, implies_true, false_implies]
  rw [hA]
  refine ⟨fun c => ?_, fun c => no 3 (by decide) (q3 v v2 ((nI_eq (b := 10) (by omega) (by decide)).mp c))⟩
  have A10 : A < 10 := by
    have : ¬ A = 10 := fun e => c (by rw [e]; rfl)
    omega
  obtain ⟨i, hi, ei⟩ := ix_of hA (by omega) v
  unfold wX10_addAccount_40
  exact ⟨ad 0, ⟨rfl, mhere h⟩, m_can h (ifb' (fun _ => ⟨mhere h, m_adds h (by rw [upd3_0]; exact hA) A10 (Or.inr ⟨i, hi, ei, rfl⟩) (q i hi ei v2 A10)⟩) (fun e => absurd rfl e))⟩
end MA
