/-! ===== the reference keeps, goes back, settles ===== -/
def cpF (a b : Nat → Int64) : Nat → Int64 := fun i => if i < 109 then a i else b i
def cpS (a : Nat → Int64) (k : Nat) (o : Nat → Int64) : Nat → Int64 := vp_updL o k (a k)
theorem cp_itr {a b : Nat → Int64} : ∀ m, itr (cpS a) m b = fun i => if i < m then a i else b i := by
  intro m
  induction m with
  | zero => funext i; exact (if_neg (Nat.not_lt_zero i)).symm
  | succ m ih =>
    show cpS a m (itr (cpS a) m b) = _
    rw [ih]
    funext i
    unfold cpS vp_updL
    by_cases h : i = m
    · subst h; simp
    · simp only [h]
      by_cases h2 : i < m
      · simp [h2, Nat.lt_succ_of_lt h2]
      · have h3 : ¬ i < m + 1 := by omega
        simp [h2, h3]
def stlF (I : Nat → Nat → Int32) : Nat → Nat → Option Nat
  | 0, _ => none
  | f + 1, d => if stF I d = true then some d else stlF I f (d + 1)
section M13
variable {ad nm : Nat → Nat} {n : Nat → Int32} {I : Nat → Nat → Int32} {J : Nat → Nat → Int64} {μ0 : jM} {z : Nat × Nat} {A Ln F : Nat}
theorem upR_tw {α : Type} {f : Nat → Nat → α} {k : Nat} {g g' : Nat → α} : upR (upR f k g) k g' = upR f k g' := by
  funext j
  unfold upR
  by_cases h : j = k
  · simp [h]
  · simp [h]
theorem upR_self {α : Type} {f : Nat → Nat → α} {k : Nat} : upR f k (f k) = f := by
  funext j
  unfold upR
  by_cases h : j = k
  · simp [h]
  · simp [h]
theorem m_keep (h : mOk ad nm) {Q : Unit → jM → Prop} (q : Q () (mM ad nm n I (upR J 2 (cpF (J 1) (J 2))) μ0)) : wX10_keep z (ad 0) (mM ad nm n I J μ0) Q := by
  unfold wX10_keep wX10_keep_0
  simp only [Option.some.injEq, Value.int.injEq, Value.long.injEq, jrf_inj, jrf_ref, jrf_null, exists_eq_left, exists_eq_left', exists_eq_right, forall_eq, forall_eq', and_true, true_and, not_true_eq_false, not_false_eq_true, false_and, and_false, true_implies, implies_true, false_implies]
  have all : ∃ c, wX10_keep_2 z (ad 0) Q c 0 (mM ad nm n I (upR J 2 (J 2)) μ0) := by
    refine jfor (fun f k y => wX10_keep_2 z (ad 0) Q f (nI k) (mM ad nm n I (upR J 2 y) μ0)) 109 (cpS (J 1)) (J 2) ?_ ?_
    · intro f k hk hw
      generalize itr (cpS (J 1)) k (J 2) = y at hw ⊢
      show wX10_keep_2_b z (ad 0) Q (wX10_keep_2 z (ad 0) Q f) (nI k) _
      unfold wX10_keep_2_b
      have e0 : nI k + 1 = nI (k + 1) := nI_1 k
      have r := mJ (n := n) (I := I) (J := upR J 2 y) (μ0 := μ0) h (k := 1) (Or.inl rfl) (show k < mlen 1 from hk) rfl
      have r1 : upR J 2 y 1 = J 1 := if_neg (by decide)
      have s1 := fun v => msJ (n := n) (I := I) (J := upR J 2 y) (μ0 := μ0) (v := v) h (k := 2) (Or.inr (Or.inl rfl)) (show k < mlen 2 from hk) rfl
      have r2 : upR J 2 y 2 = y := if_pos rfl
      rw [r1] at r
      simp only [mg3 h, mg4 h, r, s1, r2, upR_tw, e0, Option.some.injEq, Value.int.injEq, Value.long.injEq, jrf_inj, jrf_ref, jrf_null, exists_eq_left, exists_eq_left', exists_eq_right, forall_eq, forall_eq', and_true, true_and, not_true_eq_false, not_false_eq_true, false_and, and_false, true_implies, implies_true, false_implies]
      exact ⟨fun c => absurd (show nI 109 ≤ nI k from c) (nI_ge hk (by omega)), fun _ => hw⟩
    · show wX10_keep_2_b z (ad 0) Q (wX10_keep_2 z (ad 0) Q 0) (nI 109) _
      unfold wX10_keep_2_b
      rw [cp_itr]
      exact ⟨fun _ => q, fun c => absurd (Int32.le_refl _) c⟩
  rw [upR_self] at all
  exact all
theorem m_goBack (h : mOk ad nm) {Q : Unit → jM → Prop} (q : Q () (mM ad nm n I (upR J 1 (cpF (J 2) (J 1))) μ0)) : wX10_goBack z (ad 0) (mM ad nm n I J μ0) Q := by
  unfold wX10_goBack wX10_goBack_0
  simp only [Option.some.injEq, Value.int.injEq, Value.long.injEq, jrf_inj, jrf_ref, jrf_null, exists_eq_left, exists_eq_left', exists_eq_right, forall_eq, forall_eq', and_true, true_and, not_true_eq_false, not_false_eq_true, false_and, and_false, true_implies, implies_true, false_implies]
  have all : ∃ c, wX10_goBack_2 z (ad 0) Q c 0 (mM ad nm n I (upR J 1 (J 1)) μ0) := by
    refine jfor (fun f k y => wX10_goBack_2 z (ad 0) Q f (nI k) (mM ad nm n I (upR J 1 y) μ0)) 109 (cpS (J 2)) (J 1) ?_ ?_
    · intro f k hk hw
      generalize itr (cpS (J 2)) k (J 1) = y at hw ⊢
      show wX10_goBack_2_b z (ad 0) Q (wX10_goBack_2 z (ad 0) Q f) (nI k) _
      unfold wX10_goBack_2_b
      have e0 : nI k + 1 = nI (k + 1) := nI_1 k
      have r := mJ (n := n) (I := I) (J := upR J 1 y) (μ0 := μ0) h (k := 2) (Or.inr (Or.inl rfl)) (show k < mlen 2 from hk) rfl
      have r1 : upR J 1 y 2 = J 2 := if_neg (by decide)
      rw [r1] at r
      simp only [mg3 h, mg4 h, r, msJu h hk rfl, e0, Option.some.injEq, Value.int.injEq, Value.long.injEq, jrf_inj, jrf_ref, jrf_null, exists_eq_left, exists_eq_left', exists_eq_right, forall_eq, forall_eq', and_true, true_and, not_true_eq_false, not_false_eq_true, false_and, and_false, true_implies, implies_true, false_implies]
      exact ⟨fun c => absurd (show nI 109 ≤ nI k from c) (nI_ge hk (by omega)), fun _ => hw⟩
    · show wX10_goBack_2_b z (ad 0) Q (wX10_goBack_2 z (ad 0) Q 0) (nI 109) _
      unfold wX10_goBack_2_b
      rw [cp_itr]
      exact ⟨fun _ => q, fun c => absurd (Int32.le_refl _) c⟩
  rw [upR_self] at all
  exact all
end M13
