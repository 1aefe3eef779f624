/-! ===== the reference: what an account gets, days, sums ===== -/
def getsF (k : Nat) (v : Int64) (y : Nat → Int64) : Nat → Int64 := vp_updL (vp_updL y k (y k + v)) (50 + k) (y (50 + k) + v)
def stF (I : Nat → Nat → Int32) (d : Nat) : Bool := decide (¬ (5 : Int32) ≤ nI d - nI d / 7 * 7) && decide (I 20 d = 0)
def belF (I : Nat → Nat → Int32) (t : Nat) : Nat → Nat → Bool
  | 0, k => decide (k = t)
  | f + 1, k => if k = t then true else if I 3 k = -1 then false else belF I t f (pI I k)
def blF (I : Nat → Nat → Int32) (t k : Nat) : Bool := belF I t k k
def sumS (I : Nat → Nat → Int32) (y : Nat → Int64) (p : Int32) (t k : Nat) (s : Int64) : Int64 := s + (if I 4 k = p ∧ blF I t k = true then y k else 0)
def sumF (I : Nat → Nat → Int32) (A : Nat) (y : Nat → Int64) (p : Int32) (t : Nat) : Int64 := itr (sumS I y p t) A 0
section M7
variable {ad nm : Nat → Nat} {n : Nat → Int32} {I : Nat → Nat → Int32} {J : Nat → Nat → Int64} {μ0 : jM} {z : Nat × Nat} {A : Nat}
theorem m_gets (h : mOk ad nm) {x : Int32} {k : Nat} {v : Int64} (hx : x = nI k) (hk : k < 10) {Q : Unit → jM → Prop} (q : Q () (mM ad nm n I (upR J 1 (getsF k v (J 1))) μ0)) : wX10_gets z (ad 0) x v (mM ad nm n I J μ0) Q := by
  unfold wX10_gets wX10_gets_0
  subst hx
  have e1 : (0 : Int32) + nI k = nI k := Int32.zero_add _
  have e2 : (50 : Int32) + nI k = nI (50 + k) := nI_add 50 k
  have l1 : k < mlen 1 := by show k < 109; omega
  have l2 : 50 + k < mlen 1 := by show 50 + k < 109; omega
  have r := mJ (n := n) (I := I) (J := J) (μ0 := μ0) h (k := 1) (Or.inl rfl) l1 e1
  have s1 := msJ (n := n) (I := I) (J := J) (μ0 := μ0) h (k := 1) (v := J 1 k + v) (Or.inl rfl) l1 e1
  have r2 := mJ (n := n) (I := I) (J := upR J 1 (vp_updL (J 1) k (J 1 k + v))) (μ0 := μ0) h (k := 1) (Or.inl rfl) l2 e2
  rw [upR_same, pk_uLn (by omega)] at r2
  have s2 := fun u => msJ (n := n) (I := I) (J := upR J 1 (vp_updL (J 1) k (J 1 k + v))) (μ0 := μ0) h (k := 1) (v := u) (Or.inl rfl) l2 e2
  simp only [mg3 h, r, s1, r2, s2, upR_same, upR_up, Option.some.injEq, Value.int.injEq, Value.long.injEq, jrf_inj, jrf_ref, jrf_null, exists_eq_left, exists_eq_left', exists_eq_right, forall_eq, forall_eq', and_true, true_and, not_true_eq_false, not_false_eq_true, false_and, and_false, true_implies, implies_true, false_implies]
  exact q
theorem m_due (h : mOk ad nm) {x t : Int32} {k : Nat} (hx : x = nI k) (hk : k < 20) {Q : Int32 → jM → Prop} (q : Q (I 17 k + t * I 18 k) (mM ad nm n I J μ0)) : wX10_due z (ad 0) x t (mM ad nm n I J μ0) Q := by
  unfold wX10_due wX10_due_0
  subst hx
  simp only [mg19 h, mg20 h, mI h (k := 17) (by omega) (by omega) (show k < mlen 17 from hk) rfl, mI h (k := 18) (by omega) (by omega) (show k < mlen 18 from hk) rfl, Option.some.injEq, Value.int.injEq, Value.long.injEq, jrf_inj, jrf_ref, jrf_null, exists_eq_left, exists_eq_left', exists_eq_right, forall_eq, forall_eq', and_true, true_and, not_true_eq_false, not_false_eq_true, false_and, and_false, true_implies, implies_true, false_implies]
  exact q
theorem m_isSettlement (h : mOk ad nm) {x : Int32} {d : Nat} (hx : x = nI d) (hd : d ≤ 450 ∨ (d < 2 ^ 31 ∧ I 20 d = 0)) {Q : Int32 → jM → Prop} (q : Q (bI1 (stF I d)) (mM ad nm n I J μ0)) : wX10_isSettlement z (ad 0) x (mM ad nm n I J μ0) Q := by
  unfold wX10_isSettlement wX10_isSettlement_0
  subst hx
  unfold stF at q
  by_cases h450 : d ≤ 450
  · simp only [mg22 h, mZ h (show d < 451 by omega) rfl, Option.some.injEq, Value.int.injEq, Value.long.injEq, jrf_inj, jrf_ref, jrf_null, exists_eq_left, exists_eq_left', exists_eq_right, forall_eq, forall_eq', and_true, true_and, not_true_eq_false, not_false_eq_true, false_and, and_false, true_implies, implies_true, false_implies]
    refine ⟨fun c => ?_, fun c => ⟨fun e => ?_, fun _ => ⟨fun e => ?_, fun e => ?_⟩⟩⟩
    · rw [decide_eq_false (fun y => y c)] at q; exact q
    · exact absurd (show nI 450 < nI d from e) (Int32.not_lt.mpr (nI_le (by omega) (by omega)))
    · rw [decide_eq_false e, Bool.and_false] at q; exact q
    · rw [decide_eq_true c, decide_eq_true e] at q; exact q
  · have hd2 : d < 2 ^ 31 ∧ I 20 d = 0 := by
      rcases hd with hd | hd
      · omega
      · exact hd
    have hlt : (450 : Int32) < nI d := nI_lt (a := 450) (by omega) hd2.1
    refine ⟨fun c => ?_, fun c => ⟨fun _ => ?_, fun e => absurd hlt e⟩⟩
    · rw [decide_eq_false (fun y => y c)] at q; exact q
    · rw [decide_eq_true c, decide_eq_true hd2.2] at q; exact q
theorem m_isBelow (h : mOk ad nm) (hA10 : A ≤ 10) (hp : parOk A I) {x x2 : Int32} {k t : Nat} (hx : x = nI k) (hk : k < A) (hx2 : x2 = nI t) (ht : t < A) {Q : Int32 → jM → Prop} (q : Q (bI1 (blF I t k)) (mM ad nm n I J μ0)) : wX10_isBelow z (ad 0) x x2 (mM ad nm n I J μ0) Q := by
  unfold wX10_isBelow wX10_isBelow_0
  subst hx hx2
  have tp : ¬ (-1 : Int32) = nI t := fun e => by have := nI_pos (n := t) (by omega); rw [← e] at this; exact this (by decide)
  have here : ∀ k, k < A → k = t → Q 1 (mM ad nm n I J μ0) → ∃ c, wX10_isBelow_2 z (ad 0) Q c (nI t) (nI k) (mM ad nm n I J μ0) := by
    intro k hk e q1
    refine ⟨1, ?_⟩
    show wX10_isBelow_2_b z (ad 0) Q (wX10_isBelow_2 z (ad 0) Q 0) _ _ _
    unfold wX10_isBelow_2_b wX10_isBelow_22
    rw [e]
    exact ⟨fun _ => ⟨fun c => absurd rfl c, fun _ => q1⟩, fun c => absurd rfl c⟩
  have next : ∀ k c, k < A → k ≠ t → wX10_isBelow_2 z (ad 0) Q c (nI t) (I 3 k) (mM ad nm n I J μ0) → wX10_isBelow_2 z (ad 0) Q (c + 1) (nI t) (nI k) (mM ad nm n I J μ0) := by
    intro k c hk e w
    show wX10_isBelow_2_b z (ad 0) Q (wX10_isBelow_2 z (ad 0) Q c) _ _ _
    unfold wX10_isBelow_2_b
    have kp : ¬ nI k = -1 := fun e => by have := nI_pos (n := k) (by omega); rw [e] at this; exact this (by decide)
    simp only [mg5 h, mI h (k := 3) (by omega) (by omega) (show k < mlen 3 by show k < 10; omega) rfl, Option.some.injEq, Value.int.injEq, Value.long.injEq, jrf_inj, jrf_ref, jrf_null, exists_eq_left, exists_eq_left', exists_eq_right, forall_eq, forall_eq', and_true, true_and, not_true_eq_false, not_false_eq_true, false_and, and_false, true_implies, implies_true, false_implies]
    exact ⟨fun d => absurd (by have y := congrArg Int32.toNatClampNeg d; rw [nI_clamp (by omega), nI_clamp (by omega)] at y; exact y) e, fun _ => ⟨fun d => absurd d kp, fun _ => w⟩⟩
  have top : ∀ k, k < A → k ≠ t → I 3 k = -1 → Q 0 (mM ad nm n I J μ0) → ∃ c, wX10_isBelow_2 z (ad 0) Q c (nI t) (nI k) (mM ad nm n I J μ0) := by
    intro k hk e e3 q
    refine ⟨2, next k 1 hk e ?_⟩
    rw [e3]
    show wX10_isBelow_2_b z (ad 0) Q (wX10_isBelow_2 z (ad 0) Q 0) _ _ _
    unfold wX10_isBelow_2_b wX10_isBelow_22
    exact ⟨fun d => absurd d tp, fun _ => ⟨fun _ => ⟨fun _ => q, fun d => absurd d tp⟩, fun d => absurd rfl d⟩⟩
  have all : ∀ f k, k ≤ f → k < A → Q (bI1 (belF I t f k)) (mM ad nm n I J μ0) → ∃ c, wX10_isBelow_2 z (ad 0) Q c (nI t) (nI k) (mM ad nm n I J μ0) := by
    intro f
    induction f with
    | zero =>
      intro k hf hk q
      unfold belF at q
      by_cases e : k = t
      · rw [decide_eq_true e] at q; exact here k hk e q
      · rw [decide_eq_false e] at q
        refine top k hk e ?_ q
        rcases hp k hk with y | ⟨p, hp, _⟩
        · exact y
        · omega
    | succ f ih =>
      intro k hf hk q
      unfold belF at q
      by_cases e : k = t
      · rw [if_pos e] at q; exact here k hk e q
      · rw [if_neg e] at q
        by_cases e3 : I 3 k = -1
        · rw [if_pos e3] at q; exact top k hk e e3 q
        · rw [if_neg e3] at q
          obtain ⟨ep, lp⟩ := pI_lt hp hA10 hk e3
          obtain ⟨c, w⟩ := ih (pI I k) (by omega) (by omega) q
          exact ⟨c + 1, next k c hk e (by rw [ep]; exact w)⟩
  exact all k k (Nat.le_refl _) hk q
theorem m_sumOf (h : mOk ad nm) (hA : n 0 = nI A) (hA10 : A ≤ 10) (hp : parOk A I) {x x2 : Int32} {t : Nat} (hx2 : x2 = nI t) (ht : t < A) {Q : Int64 → jM → Prop} (q : Q (sumF I A (J 1) x t) (mM ad nm n I J μ0)) : wX10_sumOf z (ad 0) x x2 (mM ad nm n I J μ0) Q := by
  unfold wX10_sumOf wX10_sumOf_0
  subst hx2
  simp only [Option.some.injEq, Value.int.injEq, Value.long.injEq, jrf_inj, jrf_ref, jrf_null, exists_eq_left, exists_eq_left', exists_eq_right, forall_eq, forall_eq', and_true, true_and, not_true_eq_false, not_false_eq_true, false_and, and_false, true_implies, implies_true, false_implies]
  refine jfor (fun f k s => wX10_sumOf_5 z (ad 0) Q f x (nI t) s (nI k) (mM ad nm n I J μ0)) A (sumS I (J 1) x t) 0 ?_ ?_
  · intro f k hk hw
    generalize itr (sumS I (J 1) x t) k 0 = s at hw ⊢
    show wX10_sumOf_5_b z (ad 0) Q (wX10_sumOf_5 z (ad 0) Q f) x (nI t) s (nI k) _
    unfold wX10_sumOf_5_b
    have e0 : nI k + 1 = nI (k + 1) := nI_1 k
    have e1 : (0 : Int32) + nI k = nI k := Int32.zero_add _
    simp only [mg0 h, mg6 h, mI h (k := 4) (by omega) (by omega) (show k < mlen 4 by show k < 10; omega) rfl, e0, Option.some.injEq, Value.int.injEq, Value.long.injEq, jrf_inj, jrf_ref, jrf_null, exists_eq_left, exists_eq_left', exists_eq_right, forall_eq, forall_eq', and_true, true_and, not_true_eq_false, not_false_eq_true, false_and, and_false, true_implies, implies_true, false_implies]
    unfold sumS at hw
    refine ⟨fun c => absurd (hA ▸ c) (nI_ge hk (by omega)), fun _ => ⟨fun c => ?_, fun c => ⟨mhere h, m_isBelow h hA10 hp rfl hk rfl ht ?_⟩⟩⟩
    · rw [if_neg (fun y => c y.1)] at hw; exact hw
    · simp only [mg3 h, mJ h (k := 1) (Or.inl rfl) (show k < mlen 1 by show k < 109; omega) e1, Option.some.injEq, Value.int.injEq, Value.long.injEq, jrf_inj, jrf_ref, jrf_null, exists_eq_left, exists_eq_left', exists_eq_right, forall_eq, forall_eq', and_true, true_and, not_true_eq_false, not_false_eq_true, false_and, and_false, true_implies, implies_true, false_implies]
      cases hb : blF I t k with
      | true =>
        rw [if_pos ⟨c, hb⟩] at hw
        exact ⟨fun d => absurd d (by decide), fun _ => hw⟩
      | false =>
        rw [if_neg (fun y => by rw [hb] at y; cases y.2)] at hw
        exact ⟨fun _ => hw, fun d => absurd rfl d⟩
  · show wX10_sumOf_5_b z (ad 0) Q (wX10_sumOf_5 z (ad 0) Q 0) x (nI t) _ (nI A) _
    unfold wX10_sumOf_5_b
    simp only [mg0 h, Option.some.injEq, Value.int.injEq, Value.long.injEq, jrf_inj, jrf_ref, jrf_null, exists_eq_left, exists_eq_left', exists_eq_right, forall_eq, forall_eq', and_true, true_and, not_true_eq_false, not_false_eq_true, false_and, and_false, true_implies, implies_true, false_implies]
    exact ⟨fun _ => q, fun c => absurd (show n 0 ≤ nI A by rw [hA]; exact Int32.le_refl _) c⟩
end M7
