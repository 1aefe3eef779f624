/-! ===== the reference's banks: exposure, excess, room, who gives, who gets ===== -/
def tI (I : Nat → Nat → Int32) (k : Nat) : Nat := (I 4 k).toNatClampNeg
def bI (I : Nat → Nat → Int32) (k : Nat) : Nat := (I 5 k).toNatClampNeg
/-- the accounts' pools and banks -/
def acOk (A : Nat) (I : Nat → Nat → Int32) : Prop := ∀ k, k < A → I 4 k = nI (tI I k) ∧ tI I k ≤ k ∧ I 5 k = nI (bI I k) ∧ bI I k < 4
def expS (I : Nat → Nat → Int32) (y : Nat → Int64) (B k : Nat) (s : Int64) : Int64 := if I 5 k = nI B ∧ 0 < y k then s + y k else s
def expF (I : Nat → Nat → Int32) (A : Nat) (y : Nat → Int64) (B : Nat) : Int64 := itr (expS I y B) A 0
def excF (I : Nat → Nat → Int32) (A : Nat) (y : Nat → Int64) (B : Nat) : Int64 := if I 14 B = -1 then 0 else if 0 ≤ expF I A y B - (I 14 B).toInt64 then expF I A y B - (I 14 B).toInt64 else 0
def rmF (I : Nat → Nat → Int32) (A : Nat) (y : Nat → Int64) (B : Nat) : Int64 := if I 14 B = -1 then 4000000000000000000 else if 0 ≤ (I 14 B).toInt64 - expF I A y B then (I 14 B).toInt64 - expF I A y B else 0
def oI : Option Nat → Int32
  | none => -1
  | some k => nI k
theorem oI_none {o : Option Nat} (h : ∀ k, o = some k → k < 2 ^ 31) : oI o = -1 ↔ o = none := by
  cases o with
  | none => simp [oI]
  | some k =>
    have hk := h k rfl
    simp only [oI, reduceCtorEq, iff_false]
    intro e
    have h0 := nI_pos hk
    rw [e] at h0
    exact h0 (by decide)
noncomputable def getS (I : Nat → Nat → Int32) (A : Nat) (y : Nat → Int64) (p k : Nat) (f : Option Nat) : Option Nat :=
  @ite _ ( I 4 k = nI p ∧ 0 ≤ y k ∧ 0 < rmF I A y (bI I k) ∧ (∀ g, f = some g → rmF I A y (bI I g) < rmF I A y (bI I k))) (Classical.propDecidable _) (some k) f
noncomputable def getF (I : Nat → Nat → Int32) (A : Nat) (y : Nat → Int64) (p : Nat) : Option Nat := itr (getS I A y p) A none
def gvF (I : Nat → Nat → Int32) (A : Nat) (y : Nat → Int64) (k g : Nat) : Prop :=
  0 < excF I A y (bI I k) - excF I A y (bI I g) ∨ (excF I A y (bI I k) - excF I A y (bI I g) = 0 ∧ (0 < I 5 g - I 5 k ∨ (I 5 g - I 5 k = 0 ∧ y g < y k)))

noncomputable def givS (I : Nat → Nat → Int32) (A : Nat) (y : Nat → Int64) (k : Nat) (f : Option Nat) : Option Nat :=
  @ite _ (0 < y k ∧ 0 < excF I A y (bI I k) ∧ ¬ getF I A y (tI I k) = none ∧ (∀ g, f = some g → gvF I A y k g)) (Classical.propDecidable _) (some k) f
noncomputable def givF (I : Nat → Nat → Int32) (A : Nat) (y : Nat → Int64) : Option Nat := itr (givS I A y) A none
theorem itr_lt {f : Nat → Option Nat → Option Nat} (h : ∀ k o, f k o = some k ∨ f k o = o) : ∀ n g, itr f n none = some g → g < n := by
  intro n
  induction n with
  | zero => intro g e; cases e
  | succ n ih =>
    intro g e
    have e : f n (itr f n none) = some g := e
    rcases h n (itr f n none) with c | c
    · rw [c] at e; cases e; omega
    · rw [c] at e; have := ih g e; omega
theorem getS_or (I : Nat → Nat → Int32) (A : Nat) (y : Nat → Int64) (p k : Nat) (o : Option Nat) : getS I A y p k o = some k ∨ getS I A y p k o = o := by
  unfold getS
  split
  · exact Or.inl rfl
  · exact Or.inr rfl
theorem givS_or (I : Nat → Nat → Int32) (A : Nat) (y : Nat → Int64) (k : Nat) (o : Option Nat) : givS I A y k o = some k ∨ givS I A y k o = o := by
  unfold givS
  split
  · exact Or.inl rfl
  · exact Or.inr rfl
section M3
variable {ad nm : Nat → Nat} {n : Nat → Int32} {I : Nat → Nat → Int32} {J : Nat → Nat → Int64} {μ0 : jM} {z : Nat × Nat} {A : Nat}
end M3
