/-! ===== the reference's banks: exposure, excess, room, who gives, who gets ===== -/
def tI (I : Nat → Nat → Int32) (k : Nat) : Nat := (I 4 k).toNatClampNeg
def bI (I : Nat → Nat → Int32) (k : Nat) : Nat := (I 5 k).toNatClampNeg
/-- the accounts' pools and banks -/
def acOk (A : Nat) (I : Nat → Nat → Int32) : Prop := ∀ k, k < A → I 4 k = nI (tI I k) ∧ tI I k ≤ k ∧ I 5 k = nI (bI I k) ∧ bI I k < 4
def expS (I : Nat → Nat → Int32) (y : Nat → Int64) (B k : Nat) (s : Int64) : Int64 := if I 5 k = nI B ∧ 0 < y k then s + y k else s
def expF (I : Nat → Nat → Int32) (A : Nat) (y : Nat → Int64) (B : Nat) : Int64 := itr (expS I y B) A 0
def excF (I : Nat → Nat → Int32) (A : Nat) (y : Nat → Int64) (B : Nat) : Int64 := if I 14 B = -1 then 0 else if 0 ≤ expF I A y B - (I 14 B).toInt64 then expF I A y B - (I 14 B).toInt64 else 0
def rmF (I : Nat → Nat → Int32) (A : Nat) (y : Nat → Int64) (B : Nat) : Int64 := if I 14 B = -1 then 4000000000000000000 else if 0 ≤ (I 14 B).toInt64 - expF I A y B then (I 14 B).toInt64 - expF I A y B else 0
def oI : Option Nat → Int32
  | none => -1
  | some k => nI k
theorem oI_none {o : Option Nat} (h : ∀ k, o = some k → k < 2 ^ 31) : oI o = -1 ↔ o = none := by
  cases o with
  | none => simp [oI]
  | some k =>
    have hk := h k rfl
    simp only [oI, reduceCtorEq, iff_false]
    intro e
    have h0 := nI_pos hk
    rw [e] at h0
    exact h0 (by decide)
noncomputable def getS (I : Nat → Nat → Int32) (A : Nat) (y : Nat → Int64) (p k : Nat) (f : Option Nat) : Option Nat :=
  @ite _ ( I 4 k = nI p ∧ 0 ≤ y k ∧ 0 < rmF I A y (bI I k) ∧ (∀ g, f = some g → rmF I A y (bI I g) < rmF I A y (bI I k))) (Classical.propDecidable _) (some k) f
noncomputable def getF (I : Nat → Nat → Int32) (A : Nat) (y : Nat → Int64) (p : Nat) : Option Nat := itr (getS I A y p) A none
def gvF (I : Nat → Nat → Int32) (A : Nat) (y : Nat → Int64) (k g : Nat) : Prop :=
  0 < excF I A y (bI I k) - excF I A y (bI I g) ∨ (excF I A y (bI I k) - excF I A y (bI I g) = 0 ∧ (0 < I 5 g - I 5 k ∨ (I 5 g - I 5 k = 0 ∧ y g < y k)))

noncomputable def givS (I : Nat → Nat → Int32) (A : Nat) (y : Nat → Int64) (k : Nat) (f : Option Nat) : Option Nat :=
  @ite _ (0 < y k ∧ 0 < excF I A y (bI I k) ∧ ¬ getF I A y (tI I k) = none ∧ (∀ g, f = some g → gvF I A y k g)) (Classical.propDecidable _) (some k) f
noncomputable def givF (I : Nat → Nat → Int32) (A : Nat) (y : Nat → Int64) : Option Nat := itr (givS I A y) A none
theorem itr_lt {f : Nat → Option Nat → Option Nat} (h : ∀ k o, f k o = some k ∨ f k o = o) : ∀ n g, itr f n none = some g → g < n := by
  intro n
  induction n with
  | zero => intro g e; cases e
  | succ n ih =>
    intro g e
    have e : f n (itr f n none) = some g := e
    rcases h n (itr f n none) with c | c
    · rw [c] at e; cases e; omega
    · rw [c] at e; have := ih g e; omega
theorem getS_or (I : Nat → Nat → Int32) (A : Nat) (y : Nat → Int64) (p k : Nat) (o : Option Nat) : getS I A y p k o = some k ∨ getS I A y p k o = o := by
  unfold getS
  split
  · exact Or.inl rfl
  · exact Or.inr rfl
theorem givS_or (I : Nat → Nat → Int32) (A : Nat) (y : Nat → Int64) (k : Nat) (o : Option Nat) : givS I A y k o = some k ∨ givS I A y k o = o := by
  unfold givS
  split
  · exact Or.inl rfl
  · exact Or.inr rfl
section M3
variable {ad nm : Nat → Nat} {n : Nat → Int32} {I : Nat → Nat → Int32} {J : Nat → Nat → Int64} {μ0 : jM} {z : Nat × Nat} {A : Nat}
theorem m_exposed (h : mOk ad nm) (hA : n 0 = nI A) (hA10 : A ≤ 10) {x : Int32} {B : Nat} (hx : x = nI B) {Q : Int64 → jM → Prop} (q : Q (expF I A (J 1) B) (mM ad nm n I J μ0)) : wX10_exposed z (ad 0) x (mM ad nm n I J μ0) Q := by
  unfold wX10_exposed wX10_exposed_0
  subst hx
  simp only [Option.some.injEq, Value.int.injEq, Value.long.injEq, jrf_inj, jrf_ref, jrf_null, exists_eq_left, exists_eq_left', exists_eq_right, forall_eq, forall_eq', and_true, true_and, not_true_eq_false, not_false_eq_true, false_and, and_false, true_implies, implies_true, false_implies]
  refine jfor (fun f k s => wX10_exposed_5 z (ad 0) Q f (nI B) s (nI k) (mM ad nm n I J μ0)) A (expS I (J 1) B) 0 ?_ ?_
  · intro f k hk hw
    generalize itr (expS I (J 1) B) k 0 = s at hw ⊢
    show wX10_exposed_5_b z (ad 0) Q (wX10_exposed_5 z (ad 0) Q f) (nI B) s (nI k) _
    unfold wX10_exposed_5_b
    have e0 : nI k + 1 = nI (k + 1) := nI_1 k
    have e1 : (0 : Int32) + nI k = nI k := Int32.zero_add _
    simp only [mg0 h, mg7 h, mg3 h, mI h (k := 5) (by omega) (by omega) (show k < mlen 5 by show k < 10; omega) rfl, mJ h (k := 1) (Or.inl rfl) (show k < mlen 1 by show k < 109; omega) e1, Int64.add_zero, e0, Option.some.injEq, Value.int.injEq, Value.long.injEq, jrf_inj, jrf_ref, jrf_null, exists_eq_left, exists_eq_left', exists_eq_right, forall_eq, forall_eq', and_true, true_and, not_true_eq_false, not_false_eq_true, false_and, and_false, true_implies, implies_true, false_implies]
    unfold expS at hw
    refine ⟨fun c => absurd (hA ▸ c) (nI_ge hk (by omega)), fun _ => ⟨fun c => ?_, fun c => ⟨fun d => ?_, fun d => ?_⟩⟩⟩
    · rw [if_neg (fun e => c e.1)] at hw
      exact hw
    · rw [if_neg (fun e => absurd e.2 (Int64.not_lt.mpr d))] at hw
      exact hw
    · rw [if_pos ⟨c, Int64.not_le.mp d⟩] at hw
      exact hw
  · show wX10_exposed_5_b z (ad 0) Q (wX10_exposed_5 z (ad 0) Q 0) (nI B) _ (nI A) _
    unfold wX10_exposed_5_b
    simp only [mg0 h, Option.some.injEq, Value.int.injEq, Value.long.injEq, jrf_inj, jrf_ref, jrf_null, exists_eq_left, exists_eq_left', exists_eq_right, forall_eq, forall_eq', and_true, true_and, not_true_eq_false, not_false_eq_true, false_and, and_false, true_implies, implies_true, false_implies]
    exact ⟨fun _ => q, fun c => absurd (show n 0 ≤ nI A by rw [hA]; exact Int32.le_refl _) c⟩
theorem m_excess (h : mOk ad nm) (hA : n 0 = nI A) (hA10 : A ≤ 10) {x : Int32} {B : Nat} (hx : x = nI B) (hB : B < 4) {Q : Int64 → jM → Prop} (q : Q (excF I A (J 1) B) (mM ad nm n I J μ0)) : wX10_excess z (ad 0) x (mM ad nm n I J μ0) Q := by
  unfold wX10_excess wX10_excess_0
  refine ⟨mhere h, m_exposed h hA hA10 hx ?_⟩
  simp only [mg16 h, mI h (k := 14) (by omega) (by omega) (show B < mlen 14 from hB) hx, Option.some.injEq, Value.int.injEq, Value.long.injEq, jrf_inj, jrf_ref, jrf_null, exists_eq_left, exists_eq_left', exists_eq_right, forall_eq, forall_eq', and_true, true_and, not_true_eq_false, not_false_eq_true, false_and, and_false, true_implies, implies_true, false_implies]
  unfold excF at q
  refine ⟨fun c => ?_, fun c => ⟨fun d => ?_, fun d => ?_⟩⟩
  · rw [if_pos c] at q; exact q
  · rw [if_neg c, if_pos d] at q; exact q
  · rw [if_neg c, if_neg d] at q; exact q
theorem m_room (h : mOk ad nm) (hA : n 0 = nI A) (hA10 : A ≤ 10) {x : Int32} {B : Nat} (hx : x = nI B) (hB : B < 4) {Q : Int64 → jM → Prop} (q : Q (rmF I A (J 1) B) (mM ad nm n I J μ0)) : wX10_room z (ad 0) x (mM ad nm n I J μ0) Q := by
  unfold wX10_room wX10_room_0
  simp only [mg16 h, mI h (k := 14) (by omega) (by omega) (show B < mlen 14 from hB) hx, Option.some.injEq, Value.int.injEq, Value.long.injEq, jrf_inj, jrf_ref, jrf_null, exists_eq_left, exists_eq_left', exists_eq_right, forall_eq, forall_eq', and_true, true_and, not_true_eq_false, not_false_eq_true, false_and, and_false, true_implies, implies_true, false_implies]
  refine ⟨mhere h, m_exposed h hA hA10 hx ?_⟩
  simp only [mg16 h, mI h (k := 14) (by omega) (by omega) (show B < mlen 14 from hB) hx, Option.some.injEq, Value.int.injEq, Value.long.injEq, jrf_inj, jrf_ref, jrf_null, exists_eq_left, exists_eq_left', exists_eq_right, forall_eq, forall_eq', and_true, true_and, not_true_eq_false, not_false_eq_true, false_and, and_false, true_implies, implies_true, false_implies]
  unfold rmF at q
  refine ⟨fun c => ⟨fun d => ?_, fun d => ?_⟩, fun c => ?_⟩
  · rw [if_neg c, if_pos d] at q; exact q
  · rw [if_neg c, if_neg d] at q; exact q
  · rw [if_pos c] at q; exact q
end M3
