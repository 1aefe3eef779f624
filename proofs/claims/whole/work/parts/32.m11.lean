/-! ===== the reference passes a day ===== -/
def fA (I : Nat → Nat → Int32) (k : Nat) : Nat := (I 15 k).toNatClampNeg
/-- flows go to accounts -/
def flOk (F : Nat) (I : Nat → Nat → Int32) : Prop := ∀ k, k < F → ∃ a, a < 10 ∧ I 15 k = nI a
theorem fA_lt {F : Nat} {I : Nat → Nat → Int32} (h : flOk F I) {k : Nat} (hk : k < F) : I 15 k = nI (fA I k) ∧ fA I k < 10 := by
  obtain ⟨p, hp, e⟩ := h k hk
  have e2 : fA I k = p := by unfold fA; rw [e]; exact nI_clamp (by omega)
  rw [e2]
  exact ⟨e, hp⟩
def flwC (I : Nat → Nat → Int32) (d k : Nat) (y : Nat → Int64) : Prop := y (88 + k) < (I 19 k).toInt64 ∧ I 17 k + (y (88 + k)).toInt32 * I 18 k ≤ nI d
def flwS (I : Nat → Nat → Int32) (k : Nat) (y : Nat → Int64) : Nat → Int64 := vp_updL (vp_updL y (fA I k) (y (fA I k) + (I 16 k).toInt64)) (88 + k) (y (88 + k) + 1)
noncomputable def flwF (I : Nat → Nat → Int32) (d k : Nat) : Nat → (Nat → Int64) → Nat → Int64
  | 0, y => y
  | f + 1, y => @ite _ (flwC I d k y) (Classical.propDecidable _) (flwF I d k f (flwS I k y)) y
def flwN (I : Nat → Nat → Int32) (k : Nat) (y : Nat → Int64) : Nat := ((I 19 k).toInt64.toInt - (y (88 + k)).toInt).toNat
noncomputable def flowS (I : Nat → Nat → Int32) (d k : Nat) (y : Nat → Int64) : Nat → Int64 := flwF I d k (flwN I k y) y
theorem flwN_s {I : Nat → Nat → Int32} {k : Nat} {y : Nat → Int64} (h : y (88 + k) < (I 19 k).toInt64) (hf : fA I k < 10) : flwN I k (flwS I k y) + 1 = flwN I k y := by
  have h1 : (y (88 + k)).toInt < (I 19 k).toInt64.toInt := Int64.lt_iff_toInt_lt.mp h
  have h2 := Int64.toInt_lt (I 19 k).toInt64
  have h3 := Int64.le_toInt (y (88 + k))
  have e : flwS I k y (88 + k) = y (88 + k) + 1 := by
    unfold flwS
    rw [pk_uLs]
  have e2 : (y (88 + k) + 1).toInt = (y (88 + k)).toInt + 1 := by
    rw [Int64.toInt_add]
    show Int.bmod ((y (88 + k)).toInt + 1) (2 ^ 64) = _
    rw [Int.bmod_eq_of_le] <;> omega
  unfold flwN
  rw [e, e2]
  omega
section M11
variable {ad nm : Nat → Nat} {n : Nat → Int32} {I : Nat → Nat → Int32} {J : Nat → Nat → Int64} {μ0 : jM} {z : Nat × Nat} {A Ln F : Nat}
/-- one flow's payments of a day -/
theorem m_flow (h : mOk ad nm) {d k : Nat} (hk : k < F) (hF20 : F ≤ 20) (hfl : flOk F I) {K : Int32 → Int32 → jM → Prop} {Q : Unit → jM → Prop} (m : Nat) : ∀ y, flwN I k y = m → K (nI d) (nI (k + 1)) (mM ad nm n I (upR J 1 (flowS I d k y)) μ0) → ∃ c, wX10_passDay_27 z (ad 0) K Q c (nI d) (nI k) (mM ad nm n I (upR J 1 y) μ0) := by
  obtain ⟨ep, lp⟩ := fA_lt hfl hk
  have e0 : nI k + 1 = nI (k + 1) := nI_1 k
  have e1 : (88 : Int32) + nI k = nI (88 + k) := nI_add 88 k
  have e2 : (0 : Int32) + I 15 k = nI (fA I k) := by rw [ep]; exact Int32.zero_add _
  have k20 : k < 20 := by omega
  have stop : ∀ y, ¬ flwC I d k y → K (nI d) (nI (k + 1)) (mM ad nm n I (upR J 1 y) μ0) → ∃ c, wX10_passDay_27 z (ad 0) K Q c (nI d) (nI k) (mM ad nm n I (upR J 1 y) μ0) := by
    intro y hc q
    refine ⟨1, ?_⟩
    show wX10_passDay_27_b z (ad 0) K Q (wX10_passDay_27 z (ad 0) K Q 0) _ _ _
    unfold wX10_passDay_27_b
    simp only [mg3 h, mg21 h, mJu h (show 88 + k < 109 by omega) e1, mI h (k := 19) (by omega) (by omega) (show k < mlen 19 from k20) rfl, e0, Option.some.injEq, Value.int.injEq, Value.long.injEq, jrf_inj, jrf_ref, jrf_null, exists_eq_left, exists_eq_left', exists_eq_right, forall_eq, forall_eq', and_true, true_and, not_true_eq_false, not_false_eq_true, false_and, and_false, true_implies, implies_true, false_implies]
    refine ⟨fun _ => q, fun c => ⟨mhere h, m_due h rfl k20 ⟨fun _ => q, fun d => ?_⟩⟩⟩
    exact absurd ⟨Int64.not_le.mp c, Int32.not_lt.mp d⟩ hc
  induction m with
  | zero =>
    intro y hm q
    unfold flowS at q
    rw [hm] at q
    refine stop y (fun c => ?_) q
    have := flwN_s c.1 lp
    omega
  | succ m ih =>
    intro y hm q
    unfold flowS at q
    rw [hm] at q
    unfold flwF at q
    by_cases c : flwC I d k y
    · rw [if_pos c] at q
      have e := flwN_s c.1 lp
      have e : flwN I k (flwS I k y) = m := by omega
      obtain ⟨f, w⟩ := ih (flwS I k y) e (by unfold flowS; rw [e]; exact q)
      refine ⟨f + 1, ?_⟩
      show wX10_passDay_27_b z (ad 0) K Q (wX10_passDay_27 z (ad 0) K Q f) _ _ _
      unfold wX10_passDay_27_b
      have u1 : ∀ v, vp_updL y (fA I k) v (88 + k) = y (88 + k) := fun v => pk_uLn (by omega)
      simp only [mg3 h, mg21 h, mJu h (show 88 + k < 109 by omega) e1, mI h (k := 19) (by omega) (by omega) (show k < mlen 19 from k20) rfl, e0, Option.some.injEq, Value.int.injEq, Value.long.injEq, jrf_inj, jrf_ref, jrf_null, exists_eq_left, exists_eq_left', exists_eq_right, forall_eq, forall_eq', and_true, true_and, not_true_eq_false, not_false_eq_true, false_and, and_false, true_implies, implies_true, false_implies]
      refine ⟨fun x => absurd c.1 (Int64.not_lt.mpr x), fun _ => ⟨mhere h, m_due h rfl k20 ⟨fun x => absurd c.2 (Int32.not_le.mpr x), fun _ => ?_⟩⟩⟩
      simp only [mg3 h, mg17 h, mg18 h, mI h (k := 15) (by omega) (by omega) (show k < mlen 15 from k20) rfl, mI h (k := 16) (by omega) (by omega) (show k < mlen 16 from k20) rfl, mJu h (show fA I k < 109 by omega) e2, msJu h (show fA I k < 109 by omega) e2, mJu h (show 88 + k < 109 by omega) e1, msJu h (show 88 + k < 109 by omega) e1, u1, Option.some.injEq, Value.int.injEq, Value.long.injEq, jrf_inj, jrf_ref, jrf_null, exists_eq_left, exists_eq_left', exists_eq_right, forall_eq, forall_eq', and_true, true_and, not_true_eq_false, not_false_eq_true, false_and, and_false, true_implies, implies_true, false_implies]
      exact w
    · rw [if_neg c] at q
      exact stop y c q
end M11
