/-! ===== the reference eases banks ===== -/
theorem itr_prop {f : Nat → Option Nat → Option Nat} {P : Nat → Prop} (h : ∀ k o, (f k o = some k ∧ P k) ∨ f k o = o) : ∀ n g, itr f n none = some g → g < n ∧ P g := by
  intro n
  induction n with
  | zero => intro g e; cases e
  | succ n ih =>
    intro g e
    have e : f n (itr f n none) = some g := e
    rcases h n (itr f n none) with ⟨c, p⟩ | c
    · rw [c] at e; cases e; exact ⟨by omega, p⟩
    · rw [c] at e; have := ih g e; exact ⟨by omega, this.2⟩
theorem getF_some {I : Nat → Nat → Int32} {A : Nat} {y : Nat → Int64} {p g : Nat} (h : getF I A y p = some g) : g < A ∧ I 4 g = nI p ∧ 0 ≤ y g ∧ 0 < rmF I A y (bI I g) := by
  refine itr_prop (P := fun g => I 4 g = nI p ∧ 0 ≤ y g ∧ 0 < rmF I A y (bI I g)) (fun k o => ?_) A g h
  by_cases c : I 4 k = nI p ∧ 0 ≤ y k ∧ 0 < rmF I A y (bI I k) ∧ (∀ g, o = some g → rmF I A y (bI I g) < rmF I A y (bI I k))
  · exact Or.inl ⟨getS_pos c, c.1, c.2.1, c.2.2.1⟩
  · exact Or.inr (getS_neg c)
theorem givF_some {I : Nat → Nat → Int32} {A : Nat} {y : Nat → Int64} {g : Nat} (h : givF I A y = some g) : g < A ∧ 0 < y g ∧ 0 < excF I A y (bI I g) ∧ ¬ getF I A y (tI I g) = none := by
  refine itr_prop (P := fun g => 0 < y g ∧ 0 < excF I A y (bI I g) ∧ ¬ getF I A y (tI I g) = none) (fun k o => ?_) A g h
  by_cases c : 0 < y k ∧ 0 < excF I A y (bI I k) ∧ ¬ getF I A y (tI I k) = none ∧ (∀ g, o = some g → gvF I A y k g)
  · exact Or.inl ⟨givS_pos c, c.1, c.2.1, c.2.2.1⟩
  · exact Or.inr (givS_neg c)
/-- how much goes from i to j -/
def amtF (I : Nat → Nat → Int32) (A : Nat) (i j : Nat) (y : Nat → Int64) : Int64 :=
  if (if excF I A y (bI I i) ≤ y i then excF I A y (bI I i) else y i) ≤ rmF I A y (bI I j) then (if excF I A y (bI I i) ≤ y i then excF I A y (bI I i) else y i) else rmF I A y (bI I j)
noncomputable def nextE (I : Nat → Nat → Int32) (A : Nat) (y : Nat → Int64) : Option (Nat → Int64) := (givF I A y).bind (fun i => (getF I A y (tI I i)).map (fun j => movF i j (amtF I A i j y) y))
noncomputable def easeF (I : Nat → Nat → Int32) (A : Nat) : Nat → (Nat → Int64) → Nat → Int64
  | 0, y => y
  | f + 1, y => match nextE I A y with
    | none => y
    | some y' => easeF I A f y'
def easeEnds (I : Nat → Nat → Int32) (A : Nat) : Nat → (Nat → Int64) → Prop
  | 0, y => nextE I A y = none
  | f + 1, y => ∀ y', nextE I A y = some y' → easeEnds I A f y'
section M5
variable {ad nm : Nat → Nat} {n : Nat → Int32} {I : Nat → Nat → Int32} {J : Nat → Nat → Int64} {μ0 : jM} {z : Nat × Nat} {A : Nat}
theorem m_ease (h : mOk ad nm) (hA : n 0 = nI A) (hA10 : A ≤ 10) (ha : acOk A I) (f : Nat) (he : easeEnds I A f (J 1)) {Q : Unit → jM → Prop} (q : Q () (mM ad nm n I (upR J 1 (easeF I A f (J 1))) μ0)) : wX10_ease z (ad 0) (mM ad nm n I J μ0) Q := by
  unfold wX10_ease wX10_ease_0
  refine ⟨mhere h, m_giver h hA hA10 ha ?_⟩
  have loop : ∀ f y, easeEnds I A f y → Q () (mM ad nm n I (upR J 1 (easeF I A f y)) μ0) → ∃ c, wX10_ease_5 z (ad 0) Q c (oI (givF I A y)) (mM ad nm n I (upR J 1 y) μ0) := by
    intro f
    induction f with
    | zero =>
      intro y he q
      have hn : givF I A y = none := by
        have he : nextE I A y = none := he
        cases hg : givF I A y with
        | none => rfl
        | some i =>
          obtain ⟨-, -, -, hgt⟩ := givF_some hg
          unfold nextE at he
          rw [hg] at he
          cases ht : getF I A y (tI I i) with
          | none => exact absurd ht hgt
          | some j => rw [Option.bind_some, ht] at he; cases he
      refine ⟨1, ?_⟩
      show wX10_ease_5_b z (ad 0) Q (wX10_ease_5 z (ad 0) Q 0) _ _
      unfold wX10_ease_5_b
      rw [hn]
      exact ⟨fun _ => q, fun c => absurd rfl c⟩
    | succ f ih =>
      intro y he q
      cases hg : givF I A y with
      | none =>
        have hn : nextE I A y = none := by unfold nextE; rw [hg]; rfl
        have q : Q () (mM ad nm n I (upR J 1 (easeF I A (f + 1) y)) μ0) := q
        unfold easeF at q
        rw [hn] at q
        refine ⟨1, ?_⟩
        show wX10_ease_5_b z (ad 0) Q (wX10_ease_5 z (ad 0) Q 0) _ _
        unfold wX10_ease_5_b
        exact ⟨fun _ => q, fun c => absurd rfl c⟩
      | some i =>
        obtain ⟨hi, hyi, hex, hgt⟩ := givF_some hg
        obtain ⟨a1, a2, a3, a4⟩ := ha i hi
        cases ht : getF I A y (tI I i) with
        | none => exact absurd ht hgt
        | some j =>
          obtain ⟨hj, -, -, -⟩ := getF_some ht
          obtain ⟨b1, b2, b3, b4⟩ := ha j hj
          have hn : nextE I A y = some (movF i j (amtF I A i j y) y) := by unfold nextE; rw [hg, Option.bind_some, ht]; rfl
          have he2 := he _ hn
          unfold easeF at q
          rw [hn] at q
          obtain ⟨c, hw⟩ := ih _ he2 q
          refine ⟨c + 1, ?_⟩
          show wX10_ease_5_b z (ad 0) Q (wX10_ease_5 z (ad 0) Q c) _ _
          unfold wX10_ease_5_b
          have e1 : (0 : Int32) + nI i = nI i := Int32.zero_add _
          have hne : ¬ nI i = -1 := fun e => by have := nI_pos (n := i) (by omega); rw [e] at this; exact this (by decide)
          have hi4 := mI (n := n) (I := I) (J := upR J 1 y) (μ0 := μ0) h (k := 4) (by omega) (by omega) (show i < mlen 4 by show i < 10; omega) rfl
          have hi5 := mI (n := n) (I := I) (J := upR J 1 y) (μ0 := μ0) h (k := 5) (by omega) (by omega) (show i < mlen 5 by show i < 10; omega) rfl
          have hj5 := mI (n := n) (I := I) (J := upR J 1 y) (μ0 := μ0) h (k := 5) (by omega) (by omega) (show j < mlen 5 by show j < 10; omega) rfl
          have hyJ := mJ (n := n) (I := I) (J := upR J 1 y) (μ0 := μ0) h (k := 1) (Or.inl rfl) (show i < mlen 1 by show i < 109; omega) e1
          rw [upR_same] at hyJ
          refine ⟨fun e => absurd e hne, fun _ => ?_⟩
          simp only [mg6 h, hi4, oI, Option.some.injEq, Value.int.injEq, Value.long.injEq, jrf_inj, jrf_ref, jrf_null, exists_eq_left, exists_eq_left', exists_eq_right, forall_eq, forall_eq', and_true, true_and, not_true_eq_false, not_false_eq_true, false_and, and_false, true_implies, implies_true, false_implies]
          refine ⟨mhere h, m_getter h hA hA10 ha a1 ?_⟩
          simp only [mg7 h, hi5, upR_same, ht, oI, Option.some.injEq, Value.int.injEq, Value.long.injEq, jrf_inj, jrf_ref, jrf_null, exists_eq_left, exists_eq_left', exists_eq_right, forall_eq, forall_eq', and_true, true_and, not_true_eq_false, not_false_eq_true, false_and, and_false, true_implies, implies_true, false_implies]
          refine ⟨mhere h, m_excess h hA hA10 a3 a4 ?_⟩
          simp only [mg3 h, hyJ, upR_same, Option.some.injEq, Value.int.injEq, Value.long.injEq, jrf_inj, jrf_ref, jrf_null, exists_eq_left, exists_eq_left', exists_eq_right, forall_eq, forall_eq', and_true, true_and, not_true_eq_false, not_false_eq_true, false_and, and_false, true_implies, implies_true, false_implies]
          have fin : ∀ v, v = amtF I A i j y → wX10_ease_87 z (ad 0) (wX10_ease_5 z (ad 0) Q c) Q (nI i) (nI j) v (mM ad nm n I (upR J 1 y) μ0) := by
            intro v hv
            unfold wX10_ease_87
            refine ⟨mhere h, m_moves h rfl (by omega) rfl (by omega) ⟨mhere h, m_giver h hA hA10 ha ?_⟩⟩
            rw [upR_same, upR_up, upR_same, hv]
            exact hw
          have mid : ∀ v, v = (if excF I A y (bI I i) ≤ y i then excF I A y (bI I i) else y i) → wX10_ease_57 z (ad 0) (wX10_ease_5 z (ad 0) Q c) Q (nI i) (nI j) v (mM ad nm n I (upR J 1 y) μ0) := by
            intro v hv
            unfold wX10_ease_57
            simp only [mg7 h, hj5, Option.some.injEq, Value.int.injEq, Value.long.injEq, jrf_inj, jrf_ref, jrf_null, exists_eq_left, exists_eq_left', exists_eq_right, forall_eq, forall_eq', and_true, true_and, not_true_eq_false, not_false_eq_true, false_and, and_false, true_implies, implies_true, false_implies]
            refine ⟨mhere h, m_room h hA hA10 b3 b4 ?_⟩
            simp only [mg7 h, hj5, upR_same, Option.some.injEq, Value.int.injEq, Value.long.injEq, jrf_inj, jrf_ref, jrf_null, exists_eq_left, exists_eq_left', exists_eq_right, forall_eq, forall_eq', and_true, true_and, not_true_eq_false, not_false_eq_true, false_and, and_false, true_implies, implies_true, false_implies]
            refine ⟨fun d => fin _ ?_, fun d => ⟨mhere h, m_room h hA hA10 b3 b4 (fin _ ?_)⟩⟩
            · rw [hv] at d ⊢
              unfold amtF
              rw [if_pos d]
            · rw [hv] at d
              rw [upR_same]
              unfold amtF
              rw [if_neg d]
          refine ⟨fun d => mid _ ?_, fun d => mid _ ?_⟩
          · rw [if_pos d]
          · rw [if_neg d]
  have := loop f (J 1) he q
  rw [upR_id] at this
  exact this
end M5
