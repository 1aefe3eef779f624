/-! ===== the reference adds accounts ===== -/
def addI (A : Nat) (pr tp bk cr db : Int32) (I : Nat → Nat → Int32) : Nat → Nat → Int32 :=
  upR (upR (upR (upR (upR I 3 (upd (I 3) A pr)) 4 (upd (I 4) A tp)) 5 (upd (I 5) A bk)) 9 (upd (I 9) A cr)) 10 (upd (I 10) A db)
theorem upR_o {α : Type} {f : Nat → Nat → α} {k j : Nat} {g : Nat → α} (h : j ≠ k) : upR f k g j = f j := if_neg h
section N4
variable {ad nm : Nat → Nat} {n : Nat → Int32} {I : Nat → Nat → Int32} {J : Nat → Nat → Int64} {μ0 : jM} {z : Nat × Nat} {A Ln F : Nat}
theorem msIu (h : mOk ad nm) {I' : Nat → Nat → Int32} {g : Nat → Int32} {k i : Nat} {x v : Int32} (hg : I' k = g) (h3 : 3 ≤ k) (hk : k ≤ 19) (hi : i < mlen k) (hx : x = nI i) : jsi 0 (mM ad nm n I' J μ0) (some (ad k)) x v = some (mM ad nm n (upR I' k (upd g i v)) J μ0) := by
  rw [msI h h3 hk hi hx, hg]
theorem m_adds36 (h : mOk ad nm) (hA : n 0 = nI A) (hA10 : A < 10) {pr tp bk cr db x t1 : Int32} (hx : x = nI A) (ht : t1 = nI A) {Q : Int32 → jM → Prop} (q : Q (nI A) (mM ad nm (upd n 0 (nI (A + 1))) (addI A pr tp bk cr db I) J μ0)) : wX10_adds_36 z (ad 0) Q bk cr db x (some (ad 4)) t1 tp (mM ad nm n (upR I 3 (upd (I 3) A pr)) J μ0) := by
  unfold wX10_adds_36
  subst hx ht
  have e0 : nI A + 1 = nI (A + 1) := nI_1 A
  unfold addI at q
  rw [msIu h (upR_o (by decide)) (by decide) (by decide) (show A < mlen 4 from hA10) rfl]
  simp only [mg0 h, mg7 h, mg11 h, mg12 h, mp0 h, hA, e0, Option.some.injEq, Value.int.injEq, Value.long.injEq, jrf_inj, jrf_ref, jrf_null, exists_eq_left, exists_eq_left', exists_eq_right, forall_eq, forall_eq', and_true, true_and, not_true_eq_false, not_false_eq_true, false_and, and_false, true_implies, implies_true, false_implies]
  refine ⟨_, msIu h (g := I 5) rfl (by decide) (by decide) (show A < mlen 5 from hA10) rfl, ?_⟩
  simp only [mg0 h, mg7 h, mg11 h, mg12 h, mp0 h, hA, e0, Option.some.injEq, Value.int.injEq, Value.long.injEq, jrf_inj, jrf_ref, jrf_null, exists_eq_left, exists_eq_left', exists_eq_right, forall_eq, forall_eq', and_true, true_and, not_true_eq_false, not_false_eq_true, false_and, and_false, true_implies, implies_true, false_implies]
  refine ⟨_, msIu h (g := I 9) rfl (by decide) (by decide) (show A < mlen 9 from hA10) rfl, ?_⟩
  simp only [mg0 h, mg7 h, mg11 h, mg12 h, mp0 h, hA, e0, Option.some.injEq, Value.int.injEq, Value.long.injEq, jrf_inj, jrf_ref, jrf_null, exists_eq_left, exists_eq_left', exists_eq_right, forall_eq, forall_eq', and_true, true_and, not_true_eq_false, not_false_eq_true, false_and, and_false, true_implies, implies_true, false_implies]
  refine ⟨_, msIu h (g := I 10) rfl (by decide) (by decide) (show A < mlen 10 from hA10) rfl, ?_⟩
  simp only [mg0 h, mg7 h, mg11 h, mg12 h, mp0 h, hA, e0, Option.some.injEq, Value.int.injEq, Value.long.injEq, jrf_inj, jrf_ref, jrf_null, exists_eq_left, exists_eq_left', exists_eq_right, forall_eq, forall_eq', and_true, true_and, not_true_eq_false, not_false_eq_true, false_and, and_false, true_implies, implies_true, false_implies]
  exact q
theorem m_adds (h : mOk ad nm) (hA : n 0 = nI A) (hA10 : A < 10) {pr tp bk cr db : Int32} (ht : (pr = -1 ∧ tp = nI A) ∨ ∃ p, p < A ∧ pr = nI p ∧ tp = I 4 p) {Q : Int32 → jM → Prop} (q : Q (nI A) (mM ad nm (upd n 0 (nI (A + 1))) (addI A pr tp bk cr db I) J μ0)) : wX10_adds z (ad 0) pr bk cr db (mM ad nm n I J μ0) Q := by
  unfold wX10_adds wX10_adds_0
  simp only [mg0 h, mg5 h, mg6 h, hA, msI h (k := 3) (by decide) (by decide) (show A < mlen 3 from hA10) rfl, Option.some.injEq, Value.int.injEq, Value.long.injEq, jrf_inj, jrf_ref, jrf_null, exists_eq_left, exists_eq_left', exists_eq_right, forall_eq, forall_eq', and_true, true_and, not_true_eq_false, not_false_eq_true, false_and, and_false, true_implies, implies_true, false_implies]
  rcases ht with ⟨hp, ht⟩ | ⟨p, lp, hp, ht⟩
  · subst ht
    exact ⟨fun c => absurd hp c, fun _ => m_adds36 h hA hA10 rfl rfl q⟩
  · have hne : ¬ pr = -1 := fun e => by have := nI_pos (n := p) (by omega); rw [← hp, e] at this; exact this (by decide)
    refine ⟨fun _ => ?_, fun c => absurd c hne⟩
    have r := mI (n := n) (I := upR I 3 (upd (I 3) A pr)) (J := J) (μ0 := μ0) h (k := 4) (by decide) (by decide) (show p < mlen 4 by show p < 10; omega) hp
    rw [upR_o (by decide)] at r
    simp only [r, Option.some.injEq, Value.int.injEq, Value.long.injEq, jrf_inj, jrf_ref, jrf_null, exists_eq_left, exists_eq_left', exists_eq_right, forall_eq, forall_eq', and_true, true_and, not_true_eq_false, not_false_eq_true, false_and, and_false, true_implies, implies_true, false_implies]
    exact m_adds36 h hA hA10 rfl rfl (by rw [← ht]; exact q)
end N4
