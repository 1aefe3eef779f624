/-! ===== the reference: who gets, who gives ===== -/
section M4
variable {ad nm : Nat → Nat} {n : Nat → Int32} {I : Nat → Nat → Int32} {J : Nat → Nat → Int64} {μ0 : jM} {z : Nat × Nat} {A : Nat}
theorem getS_pos {y : Nat → Int64} {p k : Nat} {o : Option Nat} (h : I 4 k = nI p ∧ 0 ≤ y k ∧ 0 < rmF I A y (bI I k) ∧ (∀ g, o = some g → rmF I A y (bI I g) < rmF I A y (bI I k))) : getS I A y p k o = some k := by
  unfold getS; exact if_pos h
theorem getS_neg {y : Nat → Int64} {p k : Nat} {o : Option Nat} (h : ¬ (I 4 k = nI p ∧ 0 ≤ y k ∧ 0 < rmF I A y (bI I k) ∧ (∀ g, o = some g → rmF I A y (bI I g) < rmF I A y (bI I k)))) : getS I A y p k o = o := by
  unfold getS; exact if_neg h
theorem givS_pos {y : Nat → Int64} {k : Nat} {o : Option Nat} (h : 0 < y k ∧ 0 < excF I A y (bI I k) ∧ ¬ getF I A y (tI I k) = none ∧ (∀ g, o = some g → gvF I A y k g)) : givS I A y k o = some k := by
  unfold givS; exact if_pos h
theorem givS_neg {y : Nat → Int64} {k : Nat} {o : Option Nat} (h : ¬ (0 < y k ∧ 0 < excF I A y (bI I k) ∧ ¬ getF I A y (tI I k) = none ∧ (∀ g, o = some g → gvF I A y k g))) : givS I A y k o = o := by
  unfold givS; exact if_neg h
theorem m_getter (h : mOk ad nm) (hA : n 0 = nI A) (hA10 : A ≤ 10) (ha : acOk A I) {x : Int32} {p : Nat} (hx : x = nI p) {Q : Int32 → jM → Prop} (q : Q (oI (getF I A (J 1) p)) (mM ad nm n I J μ0)) : wX10_getter z (ad 0) x (mM ad nm n I J μ0) Q := by
  unfold wX10_getter wX10_getter_0
  subst hx
  simp only [Option.some.injEq, Value.int.injEq, Value.long.injEq, jrf_inj, jrf_ref, jrf_null, exists_eq_left, exists_eq_left', exists_eq_right, forall_eq, forall_eq', and_true, true_and, not_true_eq_false, not_false_eq_true, false_and, and_false, true_implies, implies_true, false_implies]
  have hlt := itr_lt (getS_or I A (J 1) p)
  refine jfor (fun f k o => wX10_getter_4 z (ad 0) Q f (nI p) (oI o) (nI k) (mM ad nm n I J μ0)) A (getS I A (J 1) p) none ?_ ?_
  · intro f k hk hw
    have hl := hlt k
    generalize itr (getS I A (J 1) p) k none = o at hw hl ⊢
    show wX10_getter_4_b z (ad 0) Q (wX10_getter_4 z (ad 0) Q f) (nI p) (oI o) (nI k) _
    unfold wX10_getter_4_b
    have e0 : nI k + 1 = nI (k + 1) := nI_1 k
    have e1 : (0 : Int32) + nI k = nI k := Int32.zero_add _
    obtain ⟨a1, a2, a3, a4⟩ := ha k hk
    have k10 : k < 10 := by omega
    have hk4 := mI (n := n) (I := I) (J := J) (μ0 := μ0) h (k := 4) (by omega) (by omega) (show k < mlen 4 from k10) rfl
    have hk5 := mI (n := n) (I := I) (J := J) (μ0 := μ0) h (k := 5) (by omega) (by omega) (show k < mlen 5 from k10) rfl
    simp only [mg0 h, mg7 h, mg3 h, mg6 h, hk4, hk5, mJ h (k := 1) (Or.inl rfl) (show k < mlen 1 by show k < 109; omega) e1, e0, Option.some.injEq, Value.int.injEq, Value.long.injEq, jrf_inj, jrf_ref, jrf_null, exists_eq_left, exists_eq_left', exists_eq_right, forall_eq, forall_eq', and_true, true_and, not_true_eq_false, not_false_eq_true, false_and, and_false, true_implies, implies_true, false_implies]
    refine ⟨fun c => absurd (hA ▸ c) (nI_ge hk (by omega)), fun _ => ⟨fun c => ?_, fun c => ⟨fun d => ?_, fun d => ⟨mhere h, m_room h hA hA10 a3 a4 ?_⟩⟩⟩⟩
    · rw [getS_neg (fun y => c y.1)] at hw; exact hw
    · rw [getS_neg (fun y => absurd y.2.1 (Int64.not_le.mpr d))] at hw; exact hw
    simp only [mg7 h, hk5, e0, Option.some.injEq, Value.int.injEq, Value.long.injEq, jrf_inj, jrf_ref, jrf_null, exists_eq_left, exists_eq_left', exists_eq_right, forall_eq, forall_eq', and_true, true_and, not_true_eq_false, not_false_eq_true, false_and, and_false, true_implies, implies_true, false_implies]
    refine ⟨fun e => ?_, fun e => ⟨fun f => ?_, fun f => ⟨mhere h, m_room h hA hA10 a3 a4 ?_⟩⟩⟩
    · rw [getS_neg (fun y => absurd y.2.2.1 (Int64.not_lt.mpr e))] at hw; exact hw
    · have ho : o = none := (oI_none (fun g hg => by have := hl g hg; omega)).mp f
      rw [getS_pos ⟨c, Int64.not_lt.mp d, Int64.not_le.mp e, fun g hg => by rw [ho] at hg; cases hg⟩] at hw
      exact hw
    · have ho : ¬ o = none := fun y => f ((oI_none (fun g hg => by have := hl g hg; omega)).mpr y)
      cases o with
      | none => exact absurd rfl ho
      | some g =>
        have hg := hl g rfl
        obtain ⟨b1, b2, b3, b4⟩ := ha g (by omega)
        simp only [mg7 h, oI, mI h (k := 5) (by omega) (by omega) (show g < mlen 5 by show g < 10; omega) rfl, Option.some.injEq, Value.int.injEq, Value.long.injEq, jrf_inj, jrf_ref, jrf_null, exists_eq_left, exists_eq_left', exists_eq_right, forall_eq, forall_eq', and_true, true_and, not_true_eq_false, not_false_eq_true, false_and, and_false, true_implies, implies_true, false_implies]
        refine ⟨mhere h, m_room h hA hA10 b3 b4 ⟨fun e2 => ?_, fun e2 => ?_⟩⟩
        · rw [getS_neg (fun y => absurd (y.2.2.2 g rfl) (Int64.not_lt.mpr e2))] at hw; exact hw
        · rw [getS_pos ⟨c, Int64.not_lt.mp d, Int64.not_le.mp e, fun g' hg' => by cases hg'; exact Int64.not_le.mp e2⟩] at hw
          exact hw
  · show wX10_getter_4_b z (ad 0) Q (wX10_getter_4 z (ad 0) Q 0) (nI p) _ (nI A) _
    unfold wX10_getter_4_b
    simp only [mg0 h, Option.some.injEq, Value.int.injEq, Value.long.injEq, jrf_inj, jrf_ref, jrf_null, exists_eq_left, exists_eq_left', exists_eq_right, forall_eq, forall_eq', and_true, true_and, not_true_eq_false, not_false_eq_true, false_and, and_false, true_implies, implies_true, false_implies]
    exact ⟨fun _ => q, fun c => absurd (show n 0 ≤ nI A by rw [hA]; exact Int32.le_refl _) c⟩
theorem m_givesFirst (h : mOk ad nm) (hA : n 0 = nI A) (hA10 : A ≤ 10) (ha : acOk A I) {x x2 : Int32} {k g : Nat} (hx : x = nI k) (hk : k < A) (hx2 : x2 = nI g) (hg : g < A) {Q : Int32 → jM → Prop} (q1 : gvF I A (J 1) k g → Q 1 (mM ad nm n I J μ0)) (q0 : ¬ gvF I A (J 1) k g → Q 0 (mM ad nm n I J μ0)) : wX10_givesFirst z (ad 0) x x2 (mM ad nm n I J μ0) Q := by
  unfold wX10_givesFirst wX10_givesFirst_0
  subst hx hx2
  obtain ⟨a1, a2, a3, a4⟩ := ha k hk
  obtain ⟨b1, b2, b3, b4⟩ := ha g hg
  have e1 : (0 : Int32) + nI k = nI k := Int32.zero_add _
  have e2 : (0 : Int32) + nI g = nI g := Int32.zero_add _
  have hk5 := mI (n := n) (I := I) (J := J) (μ0 := μ0) h (k := 5) (by omega) (by omega) (show k < mlen 5 by show k < 10; omega) rfl
  have hg5 := mI (n := n) (I := I) (J := J) (μ0 := μ0) h (k := 5) (by omega) (by omega) (show g < mlen 5 by show g < 10; omega) rfl
  simp only [mg7 h, hk5, hg5, Option.some.injEq, Value.int.injEq, Value.long.injEq, jrf_inj, jrf_ref, jrf_null, exists_eq_left, exists_eq_left', exists_eq_right, forall_eq, forall_eq', and_true, true_and, not_true_eq_false, not_false_eq_true, false_and, and_false, true_implies, implies_true, false_implies]
  refine ⟨mhere h, m_excess h hA hA10 a3 a4 ?_⟩
  simp only [mg7 h, hg5, Option.some.injEq, Value.int.injEq, Value.long.injEq, jrf_inj, jrf_ref, jrf_null, exists_eq_left, exists_eq_left', exists_eq_right, forall_eq, forall_eq', and_true, true_and, not_true_eq_false, not_false_eq_true, false_and, and_false, true_implies, implies_true, false_implies]
  refine ⟨mhere h, m_excess h hA hA10 b3 b4 ?_⟩
  simp only [mg3 h, mg7 h, hk5, hg5, mJ h (k := 1) (Or.inl rfl) (show k < mlen 1 by show k < 109; omega) e1, mJ h (k := 1) (Or.inl rfl) (show g < mlen 1 by show g < 109; omega) e2, Option.some.injEq, Value.int.injEq, Value.long.injEq, jrf_inj, jrf_ref, jrf_null, exists_eq_left, exists_eq_left', exists_eq_right, forall_eq, forall_eq', and_true, true_and, not_true_eq_false, not_false_eq_true, false_and, and_false, true_implies, implies_true, false_implies]
  refine ⟨fun c => q1 (Or.inl c), fun c => ⟨fun d => q0 ?_, fun d => ⟨fun e => q1 (Or.inr ⟨d, Or.inl e⟩), fun e => ⟨fun f => q0 ?_, fun f => ⟨fun o => q0 ?_, fun o => q1 (Or.inr ⟨d, Or.inr ⟨f, Int64.not_le.mp o⟩⟩)⟩⟩⟩⟩⟩
  · exact fun y => y.elim c (fun y => d y.1)
  · exact fun y => y.elim c (fun y => y.2.elim e (fun y => f y.1))
  · exact fun y => y.elim c (fun y => y.2.elim e (fun y => absurd y.2 (Int64.not_lt.mpr o)))
theorem m_giver (h : mOk ad nm) (hA : n 0 = nI A) (hA10 : A ≤ 10) (ha : acOk A I) {Q : Int32 → jM → Prop} (q : Q (oI (givF I A (J 1))) (mM ad nm n I J μ0)) : wX10_giver z (ad 0) (mM ad nm n I J μ0) Q := by
  unfold wX10_giver wX10_giver_0
  simp only [Option.some.injEq, Value.int.injEq, Value.long.injEq, jrf_inj, jrf_ref, jrf_null, exists_eq_left, exists_eq_left', exists_eq_right, forall_eq, forall_eq', and_true, true_and, not_true_eq_false, not_false_eq_true, false_and, and_false, true_implies, implies_true, false_implies]
  have hlt := itr_lt (givS_or I A (J 1))
  refine jfor (fun f k o => wX10_giver_4 z (ad 0) Q f (oI o) (nI k) (mM ad nm n I J μ0)) A (givS I A (J 1)) none ?_ ?_
  · intro f k hk hw
    have hl := hlt k
    generalize itr (givS I A (J 1)) k none = o at hw hl ⊢
    show wX10_giver_4_b z (ad 0) Q (wX10_giver_4 z (ad 0) Q f) (oI o) (nI k) _
    unfold wX10_giver_4_b
    have e0 : nI k + 1 = nI (k + 1) := nI_1 k
    have e1 : (0 : Int32) + nI k = nI k := Int32.zero_add _
    obtain ⟨a1, a2, a3, a4⟩ := ha k hk
    have k10 : k < 10 := by omega
    have hk4 := mI (n := n) (I := I) (J := J) (μ0 := μ0) h (k := 4) (by omega) (by omega) (show k < mlen 4 from k10) rfl
    have hk5 := mI (n := n) (I := I) (J := J) (μ0 := μ0) h (k := 5) (by omega) (by omega) (show k < mlen 5 from k10) rfl
    have hgt : ∀ g, getF I A (J 1) (tI I k) = some g → g < 2 ^ 31 := fun g hg => by have := itr_lt (getS_or I A (J 1) (tI I k)) A g hg; omega
    simp only [mg0 h, mg7 h, mg3 h, mg6 h, hk4, hk5, mJ h (k := 1) (Or.inl rfl) (show k < mlen 1 by show k < 109; omega) e1, e0, Option.some.injEq, Value.int.injEq, Value.long.injEq, jrf_inj, jrf_ref, jrf_null, exists_eq_left, exists_eq_left', exists_eq_right, forall_eq, forall_eq', and_true, true_and, not_true_eq_false, not_false_eq_true, false_and, and_false, true_implies, implies_true, false_implies]
    refine ⟨fun c => absurd (hA ▸ c) (nI_ge hk (by omega)), fun _ => ⟨fun c => ?_, fun c => ⟨mhere h, m_excess h hA hA10 a3 a4 ?_⟩⟩⟩
    · rw [givS_neg (fun y => absurd y.1 (Int64.not_lt.mpr c))] at hw; exact hw
    simp only [mg6 h, hk4, e0, Option.some.injEq, Value.int.injEq, Value.long.injEq, jrf_inj, jrf_ref, jrf_null, exists_eq_left, exists_eq_left', exists_eq_right, forall_eq, forall_eq', and_true, true_and, not_true_eq_false, not_false_eq_true, false_and, and_false, true_implies, implies_true, false_implies]
    refine ⟨fun d => ?_, fun d => ⟨mhere h, m_getter h hA hA10 ha a1 ?_⟩⟩
    · rw [givS_neg (fun y => absurd y.2.1 (Int64.not_lt.mpr d))] at hw; exact hw
    refine ⟨fun e => ?_, fun e => ⟨fun f => ?_, fun f => ⟨mhere h, ?_⟩⟩⟩
    · rw [givS_neg (fun y => y.2.2.1 ((oI_none hgt).mp e))] at hw; exact hw
    · have ho : o = none := (oI_none (fun g hg => by have := hl g hg; omega)).mp f
      rw [givS_pos ⟨Int64.not_le.mp c, Int64.not_le.mp d, fun y => e ((oI_none hgt).mpr y), fun g hg => by rw [ho] at hg; cases hg⟩] at hw
      exact hw
    · have ho : ¬ o = none := fun y => f ((oI_none (fun g hg => by have := hl g hg; omega)).mpr y)
      cases o with
      | none => exact absurd rfl ho
      | some g =>
        have hg := hl g rfl
        refine m_givesFirst h hA hA10 ha rfl hk rfl (by omega) (fun y => ⟨fun e2 => absurd e2 (by decide), fun _ => ?_⟩) (fun y => ⟨fun _ => ?_, fun e2 => absurd rfl e2⟩)
        · rw [givS_pos ⟨Int64.not_le.mp c, Int64.not_le.mp d, fun y => e ((oI_none hgt).mpr y), fun g' hg' => by cases hg'; exact y⟩] at hw
          exact hw
        · rw [givS_neg (fun y2 => y (y2.2.2.2 g rfl))] at hw
          exact hw
  · show wX10_giver_4_b z (ad 0) Q (wX10_giver_4 z (ad 0) Q 0) _ (nI A) _
    unfold wX10_giver_4_b
    simp only [mg0 h, Option.some.injEq, Value.int.injEq, Value.long.injEq, jrf_inj, jrf_ref, jrf_null, exists_eq_left, exists_eq_left', exists_eq_right, forall_eq, forall_eq', and_true, true_and, not_true_eq_false, not_false_eq_true, false_and, and_false, true_implies, implies_true, false_implies]
    exact ⟨fun _ => q, fun c => absurd (show n 0 ≤ nI A by rw [hA]; exact Int32.le_refl _) c⟩
end M4
