/-! ===== the reference accrues ===== -/
def wtS (I : Nat → Nat → Int32) (k : Nat) (s : Int64) (j : Nat) (y : Nat → Int64) : Nat → Int64 :=
  vp_updL (vp_updL y (30 + j) (y (30 + j) + (if 0 < s ∧ 0 < (if I 4 j = nI k then y j else 0) then (if I 4 j = nI k then y j else 0) else 0))) (40 + j) (y (40 + j) + (if s < 0 ∧ (if I 4 j = nI k then y j else 0) < 0 then -(if I 4 j = nI k then y j else 0) else 0))
def acc0 (I : Nat → Nat → Int32) (k : Nat) (s : Int64) (y : Nat → Int64) : Nat → Int64 :=
  vp_updL (vp_updL y (10 + k) (y (10 + k) + (if 0 < s then s * (I 9 k).toInt64 else 0))) (20 + k) (y (20 + k) + (if s < 0 then -s * (I 10 k).toInt64 else 0))
def accS (I : Nat → Nat → Int32) (A k : Nat) (y : Nat → Int64) : Nat → Int64 :=
  if I 3 k = -1 then itr (wtS I k (sumF I A y (nI k) k)) A (acc0 I k (sumF I A y (nI k) k) y) else y
def linS (I : Nat → Nat → Int32) (k : Nat) (y : Nat → Int64) : Nat → Int64 := vp_updL y (76 + k) (y (76 + k) + y (70 + k) * (I 13 k).toInt64)
def accF (I : Nat → Nat → Int32) (A Ln : Nat) (y : Nat → Int64) : Nat → Int64 := itr (linS I) Ln (itr (accS I A) A y)
section M8
variable {ad nm : Nat → Nat} {n : Nat → Int32} {I : Nat → Nat → Int32} {J : Nat → Nat → Int64} {μ0 : jM} {z : Nat × Nat} {A Ln : Nat}
theorem mJu (h : mOk ad nm) {y : Nat → Int64} {i : Nat} {x : Int32} (hi : i < 109) (hx : x = nI i) : jaj (mM ad nm n I (upR J 1 y) μ0) (some (ad 1)) x = some (y i) := by
  rw [mJ h (k := 1) (Or.inl rfl) (show i < mlen 1 from hi) hx, upR_same]
theorem msJu (h : mOk ad nm) {y : Nat → Int64} {i : Nat} {x : Int32} {v : Int64} (hi : i < 109) (hx : x = nI i) : jsj (mM ad nm n I (upR J 1 y) μ0) (some (ad 1)) x v = some (mM ad nm n I (upR J 1 (vp_updL y i v)) μ0) := by
  rw [msJ h (k := 1) (Or.inl rfl) (show i < mlen 1 from hi) hx, upR_same, upR_up]
theorem m_accrue (h : mOk ad nm) (hA : n 0 = nI A) (hA10 : A ≤ 10) (hp : parOk A I) (hL : n 1 = nI Ln) (hL6 : Ln ≤ 6) {Q : Unit → jM → Prop} (q : Q () (mM ad nm n I (upR J 1 (accF I A Ln (J 1))) μ0)) : wX10_accrue z (ad 0) (mM ad nm n I J μ0) Q := by
  unfold wX10_accrue wX10_accrue_0
  simp only [Option.some.injEq, Value.int.injEq, Value.long.injEq, jrf_inj, jrf_ref, jrf_null, exists_eq_left, exists_eq_left', exists_eq_right, forall_eq, forall_eq', and_true, true_and, not_true_eq_false, not_false_eq_true, false_and, and_false, true_implies, implies_true, false_implies]
  -- the lines
  have lin : ∀ y, Q () (mM ad nm n I (upR J 1 (itr (linS I) Ln y)) μ0) → ∃ c, wX10_accrue_205 z (ad 0) Q c 0 (mM ad nm n I (upR J 1 y) μ0) := by
    intro y0 q0
    refine jfor (fun f k y => wX10_accrue_205 z (ad 0) Q f (nI k) (mM ad nm n I (upR J 1 y) μ0)) Ln (linS I) y0 ?_ ?_
    · intro f k hk hw
      generalize itr (linS I) k y0 = y at hw ⊢
      show wX10_accrue_205_b z (ad 0) Q (wX10_accrue_205 z (ad 0) Q f) (nI k) _
      unfold wX10_accrue_205_b
      have e0 : nI k + 1 = nI (k + 1) := nI_1 k
      have e1 : (76 : Int32) + nI k = nI (76 + k) := nI_add 76 k
      have e2 : (70 : Int32) + nI k = nI (70 + k) := nI_add 70 k
      simp only [mg1 h, mg3 h, mg15 h, mJu h (show 76 + k < 109 by omega) e1, mJu h (show 70 + k < 109 by omega) e2, msJu h (show 76 + k < 109 by omega) e1, mI h (k := 13) (by omega) (by omega) (show k < mlen 13 by show k < 6; omega) rfl, e0, Option.some.injEq, Value.int.injEq, Value.long.injEq, jrf_inj, jrf_ref, jrf_null, exists_eq_left, exists_eq_left', exists_eq_right, forall_eq, forall_eq', and_true, true_and, not_true_eq_false, not_false_eq_true, false_and, and_false, true_implies, implies_true, false_implies]
      exact ⟨fun c => absurd (hL ▸ c) (nI_ge hk (by omega)), fun _ => hw⟩
    · show wX10_accrue_205_b z (ad 0) Q (wX10_accrue_205 z (ad 0) Q 0) (nI Ln) _
      unfold wX10_accrue_205_b
      simp only [mg1 h, Option.some.injEq, Value.int.injEq, Value.long.injEq, jrf_inj, jrf_ref, jrf_null, exists_eq_left, exists_eq_left', exists_eq_right, forall_eq, forall_eq', and_true, true_and, not_true_eq_false, not_false_eq_true, false_and, and_false, true_implies, implies_true, false_implies]
      exact ⟨fun _ => q0, fun c => absurd (show n 1 ≤ nI Ln by rw [hL]; exact Int32.le_refl _) c⟩
  -- the weights
  have wt : ∀ f k s y, wX10_accrue_2 z (ad 0) Q f (nI (k + 1)) (mM ad nm n I (upR J 1 (itr (wtS I k s) A y)) μ0) → ∃ c, wX10_accrue_91 z (ad 0) (wX10_accrue_2 z (ad 0) Q f) Q c (nI k) s 0 (mM ad nm n I (upR J 1 y) μ0) := by
    intro f k s y0 w0
    refine jfor (fun f2 j y => wX10_accrue_91 z (ad 0) (wX10_accrue_2 z (ad 0) Q f) Q f2 (nI k) s (nI j) (mM ad nm n I (upR J 1 y) μ0)) A (wtS I k s) y0 ?_ ?_
    · intro f2 j hj hw
      generalize itr (wtS I k s) j y0 = y at hw ⊢
      show wX10_accrue_91_b z (ad 0) (wX10_accrue_2 z (ad 0) Q f) Q (wX10_accrue_91 z (ad 0) (wX10_accrue_2 z (ad 0) Q f) Q f2) (nI k) s (nI j) _
      unfold wX10_accrue_91_b
      have e0 : nI j + 1 = nI (j + 1) := nI_1 j
      have e1 : (0 : Int32) + nI j = nI j := Int32.zero_add _
      have e2 : (30 : Int32) + nI j = nI (30 + j) := nI_add 30 j
      have e3 : (40 : Int32) + nI j = nI (40 + j) := nI_add 40 j
      have go : ∀ b, b = (if I 4 j = nI k then y j else 0) → wX10_accrue_124 z (ad 0) (wX10_accrue_2 z (ad 0) Q f) (wX10_accrue_91 z (ad 0) (wX10_accrue_2 z (ad 0) Q f) Q f2) Q (nI k) s (nI j) b (mM ad nm n I (upR J 1 y) μ0) := by
        intro b hb
        unfold wtS at hw
        rw [← hb] at hw
        have two : ∀ u, u = (if 0 < s ∧ 0 < b then b else 0) → wX10_accrue_156 z (ad 0) (wX10_accrue_2 z (ad 0) Q f) (wX10_accrue_91 z (ad 0) (wX10_accrue_2 z (ad 0) Q f) Q f2) Q (nI k) s (nI j) b (some (ad 1)) (30 + nI j) (y (30 + j)) u (mM ad nm n I (upR J 1 y) μ0) := by
          intro u hu
          rw [← hu] at hw
          unfold wX10_accrue_156
          have r := mJu (n := n) (I := I) (J := J) (μ0 := μ0) h (y := vp_updL y (30 + j) (y (30 + j) + u)) (show 40 + j < 109 by omega) e3
          rw [pk_uLn (by omega)] at r
          simp only [mg3 h, msJu h (show 30 + j < 109 by omega) e2, r, msJu h (show 40 + j < 109 by omega) e3, e0, Option.some.injEq, Value.int.injEq, Value.long.injEq, jrf_inj, jrf_ref, jrf_null, exists_eq_left, exists_eq_left', exists_eq_right, forall_eq, forall_eq', and_true, true_and, not_true_eq_false, not_false_eq_true, false_and, and_false, true_implies, implies_true, false_implies]
          refine ⟨fun c => ?_, fun c => ⟨fun d => ?_, fun d => ?_⟩⟩
          · rw [if_neg (fun y => absurd y.1 (Int64.not_lt.mpr c))] at hw; exact hw
          · rw [if_neg (fun y => absurd y.2 (Int64.not_lt.mpr d))] at hw; exact hw
          · rw [if_pos ⟨Int64.not_le.mp c, Int64.not_le.mp d⟩] at hw; exact hw
        unfold wX10_accrue_124 wX10_accrue_155
        simp only [mg3 h, mJu h (show 30 + j < 109 by omega) e2, Option.some.injEq, Value.int.injEq, Value.long.injEq, jrf_inj, jrf_ref, jrf_null, exists_eq_left, exists_eq_left', exists_eq_right, forall_eq, forall_eq', and_true, true_and, not_true_eq_false, not_false_eq_true, false_and, and_false, true_implies, implies_true, false_implies]
        refine ⟨fun c => two _ ?_, fun c => ⟨fun d => two _ ?_, fun d => two _ ?_⟩⟩
        · rw [if_neg (fun y => absurd y.1 (Int64.not_lt.mpr c))]
        · rw [if_neg (fun y => absurd y.2 (Int64.not_lt.mpr d))]
        · rw [if_pos ⟨Int64.not_le.mp c, Int64.not_le.mp d⟩]
      simp only [mg0 h, mg3 h, mg6 h, mJu h (show j < 109 by omega) e1, mI h (k := 4) (by omega) (by omega) (show j < mlen 4 by show j < 10; omega) rfl, Option.some.injEq, Value.int.injEq, Value.long.injEq, jrf_inj, jrf_ref, jrf_null, exists_eq_left, exists_eq_left', exists_eq_right, forall_eq, forall_eq', and_true, true_and, not_true_eq_false, not_false_eq_true, false_and, and_false, true_implies, implies_true, false_implies]
      refine ⟨fun c => absurd (hA ▸ c) (nI_ge hj (by omega)), fun _ => ⟨fun c => go _ ?_, fun c => go _ ?_⟩⟩
      · rw [if_neg c]
      · rw [if_pos c]
    · show wX10_accrue_91_b z (ad 0) (wX10_accrue_2 z (ad 0) Q f) Q (wX10_accrue_91 z (ad 0) (wX10_accrue_2 z (ad 0) Q f) Q 0) (nI k) s (nI A) _
      unfold wX10_accrue_91_b
      have e0 : nI k + 1 = nI (k + 1) := nI_1 k
      simp only [mg0 h, e0, Option.some.injEq, Value.int.injEq, Value.long.injEq, jrf_inj, jrf_ref, jrf_null, exists_eq_left, exists_eq_left', exists_eq_right, forall_eq, forall_eq', and_true, true_and, not_true_eq_false, not_false_eq_true, false_and, and_false, true_implies, implies_true, false_implies]
      exact ⟨fun _ => w0, fun c => absurd (show n 0 ≤ nI A by rw [hA]; exact Int32.le_refl _) c⟩
  -- the pools
  have pools : ∃ c, wX10_accrue_2 z (ad 0) Q c 0 (mM ad nm n I (upR J 1 (J 1)) μ0) := by
    refine jfor (fun f k y => wX10_accrue_2 z (ad 0) Q f (nI k) (mM ad nm n I (upR J 1 y) μ0)) A (accS I A) (J 1) ?_ ?_
    · intro f k hk hw
      generalize itr (accS I A) k (J 1) = y at hw ⊢
      show wX10_accrue_2_b z (ad 0) Q (wX10_accrue_2 z (ad 0) Q f) (nI k) _
      unfold wX10_accrue_2_b
      have e0 : nI k + 1 = nI (k + 1) := nI_1 k
      have e1 : (10 : Int32) + nI k = nI (10 + k) := nI_add 10 k
      have e2 : (20 : Int32) + nI k = nI (20 + k) := nI_add 20 k
      have k10 : k < 10 := by omega
      simp only [mg0 h, Option.some.injEq, Value.int.injEq, Value.long.injEq, jrf_inj, jrf_ref, jrf_null, exists_eq_left, exists_eq_left', exists_eq_right, forall_eq, forall_eq', and_true, true_and, not_true_eq_false, not_false_eq_true, false_and, and_false, true_implies, implies_true, false_implies]
      refine ⟨fun c => absurd (hA ▸ c) (nI_ge hk (by omega)), fun _ => ⟨mhere h, m_isTop h rfl k10 ⟨fun c => ?_, fun c => ⟨mhere h, m_sumOf h hA hA10 hp rfl hk ?_⟩⟩⟩⟩
      · have ht : ¬ I 3 k = -1 := by
          intro c2
          rw [if_pos c2] at c
          exact absurd c (by decide)
        unfold accS at hw
        rw [if_neg ht] at hw
        rw [e0]; exact hw
      · have ht : I 3 k = -1 := by
          by_cases c2 : I 3 k = -1
          · exact c2
          · rw [if_neg c2] at c; exact absurd rfl c
        unfold accS at hw
        rw [if_pos ht] at hw
        rw [upR_same]
        generalize sumF I A y (nI k) k = s at hw ⊢
        simp only [mg3 h, mg11 h, mJu h (show 10 + k < 109 by omega) e1, mI h (k := 9) (by omega) (by omega) (show k < mlen 9 from k10) rfl, Option.some.injEq, Value.int.injEq, Value.long.injEq, jrf_inj, jrf_ref, jrf_null, exists_eq_left, exists_eq_left', exists_eq_right, forall_eq, forall_eq', and_true, true_and, not_true_eq_false, not_false_eq_true, false_and, and_false, true_implies, implies_true, false_implies]
        have two : ∀ u, u = (if 0 < s then s * (I 9 k).toInt64 else 0) → wX10_accrue_54 z (ad 0) (wX10_accrue_2 z (ad 0) Q f) Q (nI k) s (some (ad 1)) (10 + nI k) (y (10 + k)) u (mM ad nm n I (upR J 1 y) μ0) := by
          intro u hu
          unfold acc0 at hw
          rw [← hu] at hw
          unfold wX10_accrue_54
          have r := mJu (n := n) (I := I) (J := J) (μ0 := μ0) h (y := vp_updL y (10 + k) (y (10 + k) + u)) (show 20 + k < 109 by omega) e2
          rw [pk_uLn (by omega)] at r
          simp only [mg3 h, mg12 h, msJu h (show 10 + k < 109 by omega) e1, r, msJu h (show 20 + k < 109 by omega) e2, mI h (k := 10) (by omega) (by omega) (show k < mlen 10 from k10) rfl, Option.some.injEq, Value.int.injEq, Value.long.injEq, jrf_inj, jrf_ref, jrf_null, exists_eq_left, exists_eq_left', exists_eq_right, forall_eq, forall_eq', and_true, true_and, not_true_eq_false, not_false_eq_true, false_and, and_false, true_implies, implies_true, false_implies]
          refine ⟨fun c => wt _ _ _ _ ?_, fun c => wt _ _ _ _ ?_⟩
          · rw [if_neg (Int64.not_lt.mpr c)] at hw; exact hw
          · rw [if_pos (Int64.not_le.mp c)] at hw; exact hw
        refine ⟨fun c => two _ ?_, fun c => two _ ?_⟩
        · rw [if_neg (Int64.not_lt.mpr c)]
        · rw [if_pos (Int64.not_le.mp c)]
    · show wX10_accrue_2_b z (ad 0) Q (wX10_accrue_2 z (ad 0) Q 0) (nI A) _
      unfold wX10_accrue_2_b
      simp only [mg0 h, Option.some.injEq, Value.int.injEq, Value.long.injEq, jrf_inj, jrf_ref, jrf_null, exists_eq_left, exists_eq_left', exists_eq_right, forall_eq, forall_eq', and_true, true_and, not_true_eq_false, not_false_eq_true, false_and, and_false, true_implies, implies_true, false_implies]
      exact ⟨fun _ => lin _ q, fun c => absurd (show n 0 ≤ nI A by rw [hA]; exact Int32.le_refl _) c⟩
  rw [upR_id] at pools
  exact pools
end M8
