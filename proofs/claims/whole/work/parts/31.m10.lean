/-! ===== the reference books interest ===== -/
def bkW (k : Nat) (cr db : Int64) (y : Nat → Int64) : Nat → Int64 :=
  vp_updL (vp_updL (vp_updL y (10 + k) (y (10 + k) - y (10 + k) / 3600000 * 3600000)) (20 + k) (y (20 + k) - y (20 + k) / 3600000 * 3600000)) (60 + k) (y (60 + k) + (cr - db))
def bkS (I : Nat → Nat → Int32) (A k : Nat) (s : (Nat → Int64) × (Nat → Int64)) : (Nat → Int64) × (Nat → Int64) :=
  if I 3 k = -1 then (bkW k (s.1 (10 + k) / 3600000) (s.1 (20 + k) / 3600000) (splF I A k (s.1 (20 + k) / 3600000) 40 (-1) (splF I A k (s.1 (10 + k) / 3600000) 30 1 s)).1, (splF I A k (s.1 (20 + k) / 3600000) 40 (-1) (splF I A k (s.1 (10 + k) / 3600000) 30 1 s)).2) else s
def wzS (k : Nat) (y : Nat → Int64) : Nat → Int64 := vp_updL (vp_updL y (30 + k) 0) (40 + k) 0
def pL (I : Nat → Nat → Int32) (k : Nat) : Nat := (I 11 k).toNatClampNeg
def lcW (I : Nat → Nat → Int32) (k : Nat) (c : Int64) (y : Nat → Int64) : Nat → Int64 :=
  vp_updL (vp_updL (vp_updL y (76 + k) (y (76 + k) - y (76 + k) / 3600000 * 3600000)) (82 + k) (y (82 + k) + c)) (pL I k) (y (pL I k) - c)
def lcS (I : Nat → Nat → Int32) (k : Nat) (y : Nat → Int64) : Nat → Int64 := lcW I k (y (76 + k) / 3600000) y
def bkF (I : Nat → Nat → Int32) (A Ln : Nat) (s : (Nat → Int64) × (Nat → Int64)) : (Nat → Int64) × (Nat → Int64) := (itr (lcS I) Ln (itr wzS A (itr (bkS I A) A s).1), (itr (bkS I A) A s).2)
/-- lines belong to pools -/
def lnOk (Ln : Nat) (I : Nat → Nat → Int32) : Prop := ∀ k, k < Ln → ∃ p, p < 10 ∧ I 11 k = nI p
theorem pL_lt {Ln : Nat} {I : Nat → Nat → Int32} (h : lnOk Ln I) {k : Nat} (hk : k < Ln) : I 11 k = nI (pL I k) ∧ pL I k < 10 := by
  obtain ⟨p, hp, e⟩ := h k hk
  have e2 : pL I k = p := by unfold pL; rw [e]; exact nI_clamp (by omega)
  rw [e2]
  exact ⟨e, hp⟩
section M10
variable {ad nm : Nat → Nat} {n : Nat → Int32} {I : Nat → Nat → Int32} {J : Nat → Nat → Int64} {μ0 : jM} {z : Nat × Nat} {A Ln : Nat}
theorem m_bookInterest (h : mOk ad nm) (hA : n 0 = nI A) (hA10 : A ≤ 10) (hL : n 1 = nI Ln) (hL6 : Ln ≤ 6) (hln : lnOk Ln I) {s : (Nat → Int64) × (Nat → Int64)} {Q : Unit → jM → Prop} (q : Q () (mM ad nm n I (uJ J (bkF I A Ln s)) μ0)) : wX10_bookInterest z (ad 0) (mM ad nm n I (uJ J s) μ0) Q := by
  unfold wX10_bookInterest wX10_bookInterest_0
  simp only [Option.some.injEq, Value.int.injEq, Value.long.injEq, jrf_inj, jrf_ref, jrf_null, exists_eq_left, exists_eq_left', exists_eq_right, forall_eq, forall_eq', and_true, true_and, not_true_eq_false, not_false_eq_true, false_and, and_false, true_implies, implies_true, false_implies]
  have lin : ∀ s : (Nat → Int64) × (Nat → Int64), Q () (mM ad nm n I (uJ J (itr (lcS I) Ln s.1, s.2)) μ0) → ∃ c, wX10_bookInterest_156 z (ad 0) Q c 0 (mM ad nm n I (uJ J s) μ0) := by
    intro s q0
    refine jfor (fun f k y => wX10_bookInterest_156 z (ad 0) Q f (nI k) (mM ad nm n I (uJ J (y, s.2)) μ0)) Ln (lcS I) s.1 ?_ ?_
    · intro f k hk hw
      generalize itr (lcS I) k s.1 = y at hw ⊢
      show wX10_bookInterest_156_b z (ad 0) Q (wX10_bookInterest_156 z (ad 0) Q f) (nI k) _
      unfold wX10_bookInterest_156_b
      obtain ⟨ep, lp⟩ := pL_lt hln hk
      have e0 : nI k + 1 = nI (k + 1) := nI_1 k
      have e1 : (76 : Int32) + nI k = nI (76 + k) := nI_add 76 k
      have e2 : (82 : Int32) + nI k = nI (82 + k) := nI_add 82 k
      have e3 : (0 : Int32) + I 11 k = nI (pL I k) := by rw [ep]; exact Int32.zero_add _
      unfold lcS lcW at hw
      have u1 : ∀ r, vp_updL y (76 + k) r (82 + k) = y (82 + k) := fun r => pk_uLn (by omega)
      have u2 : ∀ r c, vp_updL (vp_updL y (76 + k) r) (82 + k) c (pL I k) = y (pL I k) := fun r c => by rw [pk_uLn (by omega), pk_uLn (by omega)]
      simp only [mg1 h, mg3 h, mg13 h, mJ1 h (show 76 + k < 109 by omega) e1, msJ1 h (show 76 + k < 109 by omega) e1, mJ1 h (show 82 + k < 109 by omega) e2, msJ1 h (show 82 + k < 109 by omega) e2, mJ1 h (show pL I k < 109 by omega) e3, msJ1 h (show pL I k < 109 by omega) e3, mI h (k := 11) (by omega) (by omega) (show k < mlen 11 by show k < 6; omega) rfl, e0, u1, u2, Option.some.injEq, Value.int.injEq, Value.long.injEq, jrf_inj, jrf_ref, jrf_null, exists_eq_left, exists_eq_left', exists_eq_right, forall_eq, forall_eq', and_true, true_and, not_true_eq_false, not_false_eq_true, false_and, and_false, true_implies, implies_true, false_implies]
      exact ⟨fun c => absurd (hL ▸ c) (nI_ge hk (by omega)), fun _ => hw⟩
    · show wX10_bookInterest_156_b z (ad 0) Q (wX10_bookInterest_156 z (ad 0) Q 0) (nI Ln) _
      unfold wX10_bookInterest_156_b
      simp only [mg1 h, Option.some.injEq, Value.int.injEq, Value.long.injEq, jrf_inj, jrf_ref, jrf_null, exists_eq_left, exists_eq_left', exists_eq_right, forall_eq, forall_eq', and_true, true_and, not_true_eq_false, not_false_eq_true, false_and, and_false, true_implies, implies_true, false_implies]
      exact ⟨fun _ => q0, fun c => absurd (show n 1 ≤ nI Ln by rw [hL]; exact Int32.le_refl _) c⟩
  have wz : ∀ s : (Nat → Int64) × (Nat → Int64), Q () (mM ad nm n I (uJ J (itr (lcS I) Ln (itr wzS A s.1), s.2)) μ0) → ∃ c, wX10_bookInterest_120 z (ad 0) Q c 0 (mM ad nm n I (uJ J s) μ0) := by
    intro s q0
    refine jfor (fun f k y => wX10_bookInterest_120 z (ad 0) Q f (nI k) (mM ad nm n I (uJ J (y, s.2)) μ0)) A wzS s.1 ?_ ?_
    · intro f k hk hw
      generalize itr wzS k s.1 = y at hw ⊢
      show wX10_bookInterest_120_b z (ad 0) Q (wX10_bookInterest_120 z (ad 0) Q f) (nI k) _
      unfold wX10_bookInterest_120_b
      have e0 : nI k + 1 = nI (k + 1) := nI_1 k
      have e1 : (30 : Int32) + nI k = nI (30 + k) := nI_add 30 k
      have e2 : (40 : Int32) + nI k = nI (40 + k) := nI_add 40 k
      simp only [mg0 h, mg3 h, msJ1 h (show 30 + k < 109 by omega) e1, msJ1 h (show 40 + k < 109 by omega) e2, e0, Option.some.injEq, Value.int.injEq, Value.long.injEq, jrf_inj, jrf_ref, jrf_null, exists_eq_left, exists_eq_left', exists_eq_right, forall_eq, forall_eq', and_true, true_and, not_true_eq_false, not_false_eq_true, false_and, and_false, true_implies, implies_true, false_implies]
      exact ⟨fun c => absurd (hA ▸ c) (nI_ge hk (by omega)), fun _ => hw⟩
    · show wX10_bookInterest_120_b z (ad 0) Q (wX10_bookInterest_120 z (ad 0) Q 0) (nI A) _
      unfold wX10_bookInterest_120_b
      simp only [mg0 h, Option.some.injEq, Value.int.injEq, Value.long.injEq, jrf_inj, jrf_ref, jrf_null, exists_eq_left, exists_eq_left', exists_eq_right, forall_eq, forall_eq', and_true, true_and, not_true_eq_false, not_false_eq_true, false_and, and_false, true_implies, implies_true, false_implies]
      exact ⟨fun _ => lin _ q0, fun c => absurd (show n 0 ≤ nI A by rw [hA]; exact Int32.le_refl _) c⟩
  refine jfor (fun f k s => wX10_bookInterest_2 z (ad 0) Q f (nI k) (mM ad nm n I (uJ J s) μ0)) A (bkS I A) s ?_ ?_
  · intro f k hk hw
    generalize itr (bkS I A) k s = t at hw ⊢
    show wX10_bookInterest_2_b z (ad 0) Q (wX10_bookInterest_2 z (ad 0) Q f) (nI k) _
    unfold wX10_bookInterest_2_b
    have k10 : k < 10 := by omega
    have e0 : nI k + 1 = nI (k + 1) := nI_1 k
    have e1 : (10 : Int32) + nI k = nI (10 + k) := nI_add 10 k
    have e2 : (20 : Int32) + nI k = nI (20 + k) := nI_add 20 k
    have e3 : (60 : Int32) + nI k = nI (60 + k) := nI_add 60 k
    simp only [mg0 h, e0, Option.some.injEq, Value.int.injEq, Value.long.injEq, jrf_inj, jrf_ref, jrf_null, exists_eq_left, exists_eq_left', exists_eq_right, forall_eq, forall_eq', and_true, true_and, not_true_eq_false, not_false_eq_true, false_and, and_false, true_implies, implies_true, false_implies]
    unfold bkS at hw
    refine ⟨fun c => absurd (hA ▸ c) (nI_ge hk (by omega)), fun _ => ⟨mhere h, m_isTop h rfl k10 ⟨fun c => ?_, fun c => ?_⟩⟩⟩
    · have ht : ¬ I 3 k = -1 := by
        intro c2
        rw [if_pos c2] at c
        exact absurd c (by decide)
      rw [if_neg ht] at hw
      exact hw
    · have ht : I 3 k = -1 := by
        by_cases c2 : I 3 k = -1
        · exact c2
        · rw [if_neg c2] at c; exact absurd rfl c
      rw [if_pos ht] at hw
      simp only [mg3 h, mJ1 h (show 10 + k < 109 by omega) e1, mJ1 h (show 20 + k < 109 by omega) e2, Option.some.injEq, Value.int.injEq, Value.long.injEq, jrf_inj, jrf_ref, jrf_null, exists_eq_left, exists_eq_left', exists_eq_right, forall_eq, forall_eq', and_true, true_and, not_true_eq_false, not_false_eq_true, false_and, and_false, true_implies, implies_true, false_implies]
      refine ⟨mhere h, m_split h hA hA10 rfl (wo := 30) rfl (by omega) ⟨mhere h, m_split h hA hA10 rfl (wo := 40) rfl (by omega) ?_⟩⟩
      generalize splF I A k (t.1 (20 + k) / 3600000) 40 (-1) (splF I A k (t.1 (10 + k) / 3600000) 30 1 t) = t2 at hw ⊢
      generalize t.1 (10 + k) / 3600000 = cr at hw ⊢
      generalize t.1 (20 + k) / 3600000 = db at hw ⊢
      unfold bkW at hw
      have u1 : ∀ v, vp_updL t2.1 (10 + k) v (20 + k) = t2.1 (20 + k) := fun v => pk_uLn (by omega)
      have u2 : ∀ v w, vp_updL (vp_updL t2.1 (10 + k) v) (20 + k) w (60 + k) = t2.1 (60 + k) := fun v w => by rw [pk_uLn (by omega), pk_uLn (by omega)]
      simp only [mg3 h, mJ1 h (show 10 + k < 109 by omega) e1, msJ1 h (show 10 + k < 109 by omega) e1, mJ1 h (show 20 + k < 109 by omega) e2, msJ1 h (show 20 + k < 109 by omega) e2, mJ1 h (show 60 + k < 109 by omega) e3, msJ1 h (show 60 + k < 109 by omega) e3, u1, u2, Option.some.injEq, Value.int.injEq, Value.long.injEq, jrf_inj, jrf_ref, jrf_null, exists_eq_left, exists_eq_left', exists_eq_right, forall_eq, forall_eq', and_true, true_and, not_true_eq_false, not_false_eq_true, false_and, and_false, true_implies, implies_true, false_implies]
      exact hw
  · show wX10_bookInterest_2_b z (ad 0) Q (wX10_bookInterest_2 z (ad 0) Q 0) (nI A) _
    unfold wX10_bookInterest_2_b
    simp only [mg0 h, Option.some.injEq, Value.int.injEq, Value.long.injEq, jrf_inj, jrf_ref, jrf_null, exists_eq_left, exists_eq_left', exists_eq_right, forall_eq, forall_eq', and_true, true_and, not_true_eq_false, not_false_eq_true, false_and, and_false, true_implies, implies_true, false_implies]
    exact ⟨fun _ => wz _ q, fun c => absurd (show n 0 ≤ nI A by rw [hA]; exact Int32.le_refl _) c⟩
end M10
