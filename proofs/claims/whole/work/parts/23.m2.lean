/-! ===== the reference's sweep ===== -/
def pI (I : Nat → Nat → Int32) (k : Nat) : Nat := (I 3 k).toNatClampNeg
def upS (I : Nat → Nat → Int32) (k : Nat) (y : Nat → Int64) : Nat → Int64 :=
  if I 3 k ≠ -1 ∧ 0 < surpF I k (y k) then movF k (pI I k) (surpF I k (y k)) y else y
def gotF (I : Nat → Nat → Int32) (k : Nat) (y : Nat → Int64) : Int64 :=
  if 0 < y (pI I k) - (I 8 (pI I k)).toInt64 then (if -(surpF I k (y k)) ≤ y (pI I k) - (I 8 (pI I k)).toInt64 then -(surpF I k (y k)) else y (pI I k) - (I 8 (pI I k)).toInt64) else 0
def dnS (I : Nat → Nat → Int32) (k : Nat) (y : Nat → Int64) : Nat → Int64 :=
  if I 3 k ≠ -1 ∧ surpF I k (y k) < 0 then movF (pI I k) k (gotF I k y) y else y
def sweepF (I : Nat → Nat → Int32) (A : Nat) (y : Nat → Int64) : Nat → Int64 := itr (dnS I) A (itd (upS I) A y)
/-- parents come before their children -/
def parOk (A : Nat) (I : Nat → Nat → Int32) : Prop := ∀ k, k < A → I 3 k = -1 ∨ ∃ p, p < k ∧ I 3 k = nI p
theorem pI_lt {A : Nat} {I : Nat → Nat → Int32} (h : parOk A I) (hA : A ≤ 10) {k : Nat} (hk : k < A) (hn : ¬ I 3 k = -1) : I 3 k = nI (pI I k) ∧ pI I k < k := by
  rcases h k hk with h | ⟨p, hp, e⟩
  · exact absurd h hn
  · have e2 : pI I k = p := by unfold pI; rw [e]; exact nI_clamp (by omega)
    rw [e2]
    exact ⟨e, hp⟩
section M2
variable {ad nm : Nat → Nat} {n : Nat → Int32} {I : Nat → Nat → Int32} {J : Nat → Nat → Int64} {μ0 : jM} {z : Nat × Nat} {A : Nat}
theorem m_sweep (h : mOk ad nm) (hA : n 0 = nI A) (hA10 : A ≤ 10) (hp : parOk A I) {Q : Unit → jM → Prop} (q : Q () (mM ad nm n I (upR J 1 (sweepF I A (J 1))) μ0)) : wX10_sweep z (ad 0) (mM ad nm n I J μ0) Q := by
  unfold wX10_sweep wX10_sweep_0
  simp only [mg0 h, Option.some.injEq, Value.int.injEq, Value.long.injEq, jrf_inj, jrf_ref, jrf_null, exists_eq_left, exists_eq_left', exists_eq_right, forall_eq, forall_eq', and_true, true_and, not_true_eq_false, not_false_eq_true, false_and, and_false, true_implies, implies_true, false_implies]
  have e1 : (-1 : Int32) = (-1 : Int32) := rfl
  -- down through the numbers, then up
  have second : ∀ y : Nat → Int64, Q () (mM ad nm n I (upR J 1 (itr (dnS I) A y)) μ0) → ∃ n2, wX10_sweep_53 z (ad 0) Q n2 0 (mM ad nm n I (upR J 1 y) μ0) := by
    intro y0 q0
    refine jfor (fun f k y => wX10_sweep_53 z (ad 0) Q f (nI k) (mM ad nm n I (upR J 1 y) μ0)) A (dnS I) y0 ?_ ?_
    · intro f k hk hw
      generalize itr (dnS I) k y0 = y at hw ⊢
      show wX10_sweep_53_b z (ad 0) Q (wX10_sweep_53 z (ad 0) Q f) (nI k) _
      unfold wX10_sweep_53_b
      have hk10 : k < 10 := by omega
      have e0 : nI k + 1 = nI (k + 1) := nI_1 k
      simp only [mg0 h, Option.some.injEq, Value.int.injEq, Value.long.injEq, jrf_inj, jrf_ref, jrf_null, exists_eq_left, exists_eq_left', exists_eq_right, forall_eq, forall_eq', and_true, true_and, not_true_eq_false, not_false_eq_true, false_and, and_false, true_implies, implies_true, false_implies]
      refine ⟨fun c => absurd (hA ▸ c) (nI_ge hk (by omega)), fun _ => ⟨mhere h, m_isTop h rfl hk10 ⟨fun c => ?_, fun c => ⟨mhere h, m_surplus h rfl hk10 ⟨fun d => ?_, fun d => ⟨mhere h, m_surplus h rfl hk10 ?_⟩⟩⟩⟩⟩⟩
      · have ht : I 3 k = -1 := by
          by_cases c2 : I 3 k = -1
          · exact c2
          · rw [if_neg c2] at c; exact absurd rfl c
        rw [e0]
        have e3 : dnS I k y = y := by unfold dnS; rw [if_neg (fun x => x.1 ht)]
        rw [e3] at hw
        exact hw
      · rw [e0]
        rw [upR_same] at d
        have e3 : dnS I k y = y := by unfold dnS; rw [if_neg (fun x => absurd x.2 (Int64.not_lt.mpr d))]
        rw [e3] at hw
        exact hw
      · have ht : ¬ I 3 k = -1 := by
          intro c2
          rw [if_pos c2] at c
          exact absurd c (by decide)
        obtain ⟨ep, hpk⟩ := pI_lt hp hA10 hk ht
        rw [upR_same] at d
        have d2 : surpF I k (y k) < 0 := Int64.not_le.mp d
        have e3 : dnS I k y = movF (pI I k) k (gotF I k y) y := by unfold dnS; rw [if_pos ⟨ht, d2⟩]
        rw [e3] at hw
        have p10 : pI I k < 10 := by omega
        have e4 : (0 : Int32) + I 3 k = nI (pI I k) := by rw [ep]; exact Int32.zero_add _
        simp only [mg3 h, mg5 h, mg10 h, mI h (k := 3) (by omega) (by omega) (show k < mlen 3 from hk10) rfl, mJ h (k := 1) (Or.inl rfl) (show pI I k < mlen 1 by show pI I k < 109; omega) e4, mI h (k := 8) (by omega) (by omega) (show pI I k < mlen 8 from p10) ep, upR_same, Option.some.injEq, Value.int.injEq, Value.long.injEq, jrf_inj, jrf_ref, jrf_null, exists_eq_left, exists_eq_left', exists_eq_right, forall_eq, forall_eq', and_true, true_and, not_true_eq_false, not_false_eq_true, false_and, and_false, true_implies, implies_true, false_implies]
        have fin : ∀ v : Int64, v = gotF I k y → wX10_sweep_146 z (ad 0) (wX10_sweep_53 z (ad 0) Q f) Q (nI k) (some (ad 0)) (I 3 k) (nI k) v (mM ad nm n I (upR J 1 y) μ0) := by
          intro v hv
          unfold wX10_sweep_146
          refine ⟨ad 0, ⟨rfl, mhere h⟩, m_moves h ep p10 rfl hk10 ?_⟩
          intro v4 ev4
          rw [ev4, e0, hv, upR_same, upR_up]
          exact hw
        refine ⟨fun c1 => ⟨fun c2 => fin _ ?_, fun c2 => fin _ ?_⟩, fun c1 => fin _ ?_⟩
        · unfold gotF; rw [if_pos c1, if_pos c2]
        · unfold gotF; rw [if_pos c1, if_neg c2]
        · unfold gotF; rw [if_neg c1]
    · show wX10_sweep_53_b z (ad 0) Q (wX10_sweep_53 z (ad 0) Q 0) (nI A) _
      unfold wX10_sweep_53_b
      simp only [mg0 h, Option.some.injEq, Value.int.injEq, Value.long.injEq, jrf_inj, jrf_ref, jrf_null, exists_eq_left, exists_eq_left', exists_eq_right, forall_eq, forall_eq', and_true, true_and, not_true_eq_false, not_false_eq_true, false_and, and_false, true_implies, implies_true, false_implies]
      refine ⟨fun _ => q0, fun c => absurd (show n 0 ≤ nI A by rw [hA]; exact Int32.le_refl _) c⟩
  have first : ∃ f, wX10_sweep_7 z (ad 0) Q f (nI A - 1) (mM ad nm n I (upR J 1 (J 1)) μ0) := by
    refine jford (fun f k y => wX10_sweep_7 z (ad 0) Q f (nI k - 1) (mM ad nm n I (upR J 1 y) μ0)) (upS I) A (J 1) ?_ ?_
    · intro f k y hk hw
      show wX10_sweep_7_b z (ad 0) Q (wX10_sweep_7 z (ad 0) Q f) (nI (k + 1) - 1) _
      rw [nI_pred]
      unfold wX10_sweep_7_b
      have hk10 : k < 10 := by omega
      have e0 : nI k + -1 = nI k - 1 := by rw [Int32.sub_eq_add_neg]
      refine ⟨fun c => absurd c (nI_pos (by omega)), fun _ => ⟨mhere h, m_isTop h rfl hk10 ⟨fun c => ?_, fun c => ⟨mhere h, m_surplus h rfl hk10 ⟨fun d => ?_, fun d => ?_⟩⟩⟩⟩⟩
      · have ht : I 3 k = -1 := by
          by_cases c2 : I 3 k = -1
          · exact c2
          · rw [if_neg c2] at c; exact absurd rfl c
        intro v4 ev4
        rw [ev4, e0]
        have e3 : upS I k y = y := by unfold upS; rw [if_neg (fun x => x.1 ht)]
        rw [e3] at hw
        exact hw
      · intro v4 ev4
        rw [ev4, e0]
        rw [upR_same] at d
        have e3 : upS I k y = y := by unfold upS; rw [if_neg (fun x => absurd x.2 (Int64.not_lt.mpr d))]
        rw [e3] at hw
        exact hw
      · have ht : ¬ I 3 k = -1 := by
          intro c2
          rw [if_pos c2] at c
          exact absurd c (by decide)
        obtain ⟨ep, hpk⟩ := pI_lt hp hA10 hk ht
        rw [upR_same] at d
        have d2 : 0 < surpF I k (y k) := Int64.not_le.mp d
        have e3 : upS I k y = movF k (pI I k) (surpF I k (y k)) y := by unfold upS; rw [if_pos ⟨ht, d2⟩]
        rw [e3] at hw
        simp only [mg5 h, mI h (k := 3) (by omega) (by omega) (show k < mlen 3 from hk10) rfl, Option.some.injEq, Value.int.injEq, Value.long.injEq, jrf_inj, jrf_ref, jrf_null, exists_eq_left, exists_eq_left', exists_eq_right, forall_eq, forall_eq', and_true, true_and, not_true_eq_false, not_false_eq_true, false_and, and_false, true_implies, implies_true, false_implies]
        refine ⟨mhere h, m_surplus h rfl hk10 ⟨mhere h, m_moves h rfl hk10 ep (by omega) ?_⟩⟩
        rw [e0, upR_same, upR_up]
        exact hw
    · show wX10_sweep_7_b z (ad 0) Q (wX10_sweep_7 z (ad 0) Q 0) (nI 0 - 1) _
      unfold wX10_sweep_7_b
      refine ⟨fun _ => ?_, fun c => absurd (by decide) c⟩
      simp only [Option.some.injEq, Value.int.injEq, Value.long.injEq, jrf_inj, jrf_ref, jrf_null, exists_eq_left, exists_eq_left', exists_eq_right, forall_eq, forall_eq', and_true, true_and, not_true_eq_false, not_false_eq_true, false_and, and_false, true_implies, implies_true, false_implies]
      exact second _ q
  rw [upR_id] at first
  rw [hA]
  exact first
end M2
