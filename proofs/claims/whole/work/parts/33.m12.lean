/-! ===== the reference passes a day, the whole of it ===== -/
noncomputable def covP (I : Nat → Nat → Int32) (Ln fc k : Nat) (y : Nat → Int64) : Nat → Int64 := if I 3 k = -1 then covF I Ln (decide (y k < 0)) k fc y else y
noncomputable def setl1 (I : Nat → Nat → Int32) (A F d : Nat) (y : Nat → Int64) : Nat → Int64 := sweepF I A (itr (flowS I d) F y)
noncomputable def setlF (I : Nat → Nat → Int32) (A Ln F fc fe d : Nat) (y : Nat → Int64) : Nat → Int64 := easeF I A fe (itr (covP I Ln fc) A (setl1 I A F d y))
def setlE (I : Nat → Nat → Int32) (A Ln F fc fe d : Nat) (y : Nat → Int64) : Prop :=
  (∀ k, k < A → I 3 k = -1 → covEnds I Ln (decide (itr (covP I Ln fc) k (setl1 I A F d y) k < 0)) k fc (itr (covP I Ln fc) k (setl1 I A F d y))) ∧ easeEnds I A fe (itr (covP I Ln fc) A (setl1 I A F d y))
def dayW (d : Nat) (y : Nat → Int64) : Nat → Int64 := vp_updL y 108 (nI (d + 1)).toInt64
def restF (I : Nat → Nat → Int32) (A Ln d : Nat) (s : (Nat → Int64) × (Nat → Int64)) : (Nat → Int64) × (Nat → Int64) :=
  if nI (d + 1) - nI (d + 1) / 20 * 20 = 0 then (dayW d (bkF I A Ln (accF I A Ln s.1, s.2)).1, (bkF I A Ln (accF I A Ln s.1, s.2)).2) else (dayW d (accF I A Ln s.1), s.2)
noncomputable def passF (I : Nat → Nat → Int32) (A Ln F fc fe d : Nat) (s : (Nat → Int64) × (Nat → Int64)) : (Nat → Int64) × (Nat → Int64) :=
  restF I A Ln d (if stF I d = true then setlF I A Ln F fc fe d s.1 else s.1, s.2)
section M12
variable {ad nm : Nat → Nat} {n : Nat → Int32} {I : Nat → Nat → Int32} {J : Nat → Nat → Int64} {μ0 : jM} {z : Nat × Nat} {A Ln F : Nat}
theorem m_rest (h : mOk ad nm) (hA : n 0 = nI A) (hA10 : A ≤ 10) (hp : parOk A I) (hL : n 1 = nI Ln) (hL6 : Ln ≤ 6) (hln : lnOk Ln I) {d : Nat} {s : (Nat → Int64) × (Nat → Int64)} {Q : Unit → jM → Prop} (q : Q () (mM ad nm n I (uJ J (restF I A Ln d s)) μ0)) : wX10_passDay_148 z (ad 0) Q (nI d) (mM ad nm n I (uJ J s) μ0) := by
  unfold wX10_passDay_148
  refine ⟨mhere h, m_accrue h hA hA10 hp hL hL6 ?_⟩
  rw [uJ_u1, uJ_1]
  have e0 : nI d + 1 = nI (d + 1) := nI_1 d
  have e1 : (108 : Int32) = nI 108 := rfl
  unfold restF at q
  simp only [e0, mg3 h, msJ1 h (show 108 < 109 by omega) e1, Option.some.injEq, Value.int.injEq, Value.long.injEq, jrf_inj, jrf_ref, jrf_null, exists_eq_left, exists_eq_left', exists_eq_right, forall_eq, forall_eq', and_true, true_and, not_true_eq_false, not_false_eq_true, false_and, and_false, true_implies, implies_true, false_implies]
  refine ⟨fun c => ?_, fun c => ⟨mhere h, m_bookInterest h hA hA10 hL hL6 hln ?_⟩⟩
  · rw [if_neg c] at q; exact q
  · rw [if_pos c] at q
    simp only [mg3 h, msJ1 h (show 108 < 109 by omega) e1, Option.some.injEq, Value.int.injEq, Value.long.injEq, jrf_inj, jrf_ref, jrf_null, exists_eq_left, exists_eq_left', exists_eq_right, forall_eq, forall_eq', and_true, true_and, not_true_eq_false, not_false_eq_true, false_and, and_false, true_implies, implies_true, false_implies]
    exact q
theorem m_passDay (h : mOk ad nm) (hA : n 0 = nI A) (hA10 : A ≤ 10) (hp : parOk A I) (ha : acOk A I) (hL : n 1 = nI Ln) (hL6 : Ln ≤ 6) (hln : lnOk Ln I) (hF : n 2 = nI F) (hF20 : F ≤ 20) (hfl : flOk F I) {d : Nat} (hd : d ≤ 450 ∨ (d < 2 ^ 31 ∧ I 20 d = 0)) {s : (Nat → Int64) × (Nat → Int64)} (hs : s.1 108 = (nI d).toInt64) (fc fe : Nat) (he : stF I d = true → setlE I A Ln F fc fe d s.1) {Q : Unit → jM → Prop} (q : Q () (mM ad nm n I (uJ J (passF I A Ln F fc fe d s)) μ0)) : wX10_passDay z (ad 0) (mM ad nm n I (uJ J s) μ0) Q := by
  unfold wX10_passDay wX10_passDay_0
  have e1 : (108 : Int32) = nI 108 := rfl
  simp only [mg3 h, mJ1 h (show 108 < 109 by omega) e1, hs, Int32.toInt32_toInt64, Option.some.injEq, Value.int.injEq, Value.long.injEq, jrf_inj, jrf_ref, jrf_null, exists_eq_left, exists_eq_left', exists_eq_right, forall_eq, forall_eq', and_true, true_and, not_true_eq_false, not_false_eq_true, false_and, and_false, true_implies, implies_true, false_implies]
  unfold passF at q
  refine ⟨mhere h, m_isSettlement h rfl hd ⟨fun c => ?_, fun c => ?_⟩⟩
  · have hst : ¬ stF I d = true := fun e => by rw [e] at c; exact absurd c (by decide)
    rw [if_neg hst] at q
    exact m_rest h hA hA10 hp hL hL6 hln q
  have hst : stF I d = true := by
    cases e : stF I d with
    | true => rfl
    | false => rw [e] at c; exact absurd rfl c
  rw [if_pos hst] at q
  obtain ⟨he1, he2⟩ := he hst
  unfold setlF at q
  refine jfor (fun f k y => wX10_passDay_19 z (ad 0) Q f (nI d) (nI k) (mM ad nm n I (uJ J (y, s.2)) μ0)) F (flowS I d) s.1 ?_ ?_
  · intro f k hk hw
    generalize itr (flowS I d) k s.1 = y at hw ⊢
    show wX10_passDay_19_b z (ad 0) Q (wX10_passDay_19 z (ad 0) Q f) (nI d) (nI k) _
    unfold wX10_passDay_19_b
    simp only [mg2 h, Option.some.injEq, Value.int.injEq, Value.long.injEq, jrf_inj, jrf_ref, jrf_null, exists_eq_left, exists_eq_left', exists_eq_right, forall_eq, forall_eq', and_true, true_and, not_true_eq_false, not_false_eq_true, false_and, and_false, true_implies, implies_true, false_implies]
    refine ⟨fun c => absurd (hF ▸ c) (nI_ge hk (by omega)), fun _ => ?_⟩
    have := m_flow (ad := ad) (nm := nm) (n := n) (I := I) (J := uJ J (y, s.2)) (μ0 := μ0) (z := z) (K := wX10_passDay_19 z (ad 0) Q f) (Q := Q) h hk hF20 hfl _ y rfl (by rw [uJ_u1]; exact hw)
    rw [uJ_u1] at this
    exact this
  · show wX10_passDay_19_b z (ad 0) Q (wX10_passDay_19 z (ad 0) Q 0) (nI d) (nI F) _
    unfold wX10_passDay_19_b
    simp only [mg2 h, Option.some.injEq, Value.int.injEq, Value.long.injEq, jrf_inj, jrf_ref, jrf_null, exists_eq_left, exists_eq_left', exists_eq_right, forall_eq, forall_eq', and_true, true_and, not_true_eq_false, not_false_eq_true, false_and, and_false, true_implies, implies_true, false_implies]
    refine ⟨fun _ => ⟨mhere h, m_sweep h hA hA10 hp ?_⟩, fun c => absurd (show n 2 ≤ nI F by rw [hF]; exact Int32.le_refl _) c⟩
    rw [uJ_u1, uJ_1]
    have ey : sweepF I A (itr (flowS I d) F s.1) = setl1 I A F d s.1 := rfl
    show ∃ c, wX10_passDay_117 z (ad 0) Q c (nI d) 0 (mM ad nm n I (uJ J (setl1 I A F d s.1, s.2)) μ0)
    generalize setl1 I A F d s.1 = y1 at he1 he2 q ⊢
    refine jfor (fun f k y => wX10_passDay_117 z (ad 0) Q f (nI d) (nI k) (mM ad nm n I (uJ J (y, s.2)) μ0)) A (covP I Ln fc) y1 ?_ ?_
    · intro f k hk hw
      have hek := he1 k hk
      generalize itr (covP I Ln fc) k y1 = y at hw hek ⊢
      show wX10_passDay_117_b z (ad 0) Q (wX10_passDay_117 z (ad 0) Q f) (nI d) (nI k) _
      unfold wX10_passDay_117_b
      have e0 : nI k + 1 = nI (k + 1) := nI_1 k
      simp only [mg0 h, e0, Option.some.injEq, Value.int.injEq, Value.long.injEq, jrf_inj, jrf_ref, jrf_null, exists_eq_left, exists_eq_left', exists_eq_right, forall_eq, forall_eq', and_true, true_and, not_true_eq_false, not_false_eq_true, false_and, and_false, true_implies, implies_true, false_implies]
      unfold covP at hw
      refine ⟨fun c => absurd (hA ▸ c) (nI_ge hk (by omega)), fun _ => ⟨mhere h, m_isTop h rfl (by omega) ⟨fun c => ?_, fun c => ?_⟩⟩⟩
      · have ht : ¬ I 3 k = -1 := by
          intro c2
          rw [if_pos c2] at c
          exact absurd c (by decide)
        rw [if_neg ht] at hw
        exact hw
      · have ht : I 3 k = -1 := by
          by_cases c2 : I 3 k = -1
          · exact c2
          · rw [if_neg c2] at c; exact absurd rfl c
        rw [if_pos ht] at hw
        refine ⟨mhere h, m_cover h hL hL6 rfl (by omega) fc (by rw [uJ_1]; exact hek ht) ?_⟩
        rw [uJ_u1, uJ_1]
        exact hw
    · show wX10_passDay_117_b z (ad 0) Q (wX10_passDay_117 z (ad 0) Q 0) (nI d) (nI A) _
      unfold wX10_passDay_117_b
      simp only [mg0 h, Option.some.injEq, Value.int.injEq, Value.long.injEq, jrf_inj, jrf_ref, jrf_null, exists_eq_left, exists_eq_left', exists_eq_right, forall_eq, forall_eq', and_true, true_and, not_true_eq_false, not_false_eq_true, false_and, and_false, true_implies, implies_true, false_implies]
      refine ⟨fun _ => ⟨mhere h, m_ease h hA hA10 ha fe (by rw [uJ_1]; exact he2) ?_⟩, fun c => absurd (show n 0 ≤ nI A by rw [hA]; exact Int32.le_refl _) c⟩
      rw [uJ_u1, uJ_1]
      exact m_rest h hA hA10 hp hL hL6 hln q
end M12
