/-! ===== the reference eases banks ===== -/
theorem itr_prop {f : Nat → Option Nat → Option Nat} {P : Nat → Prop} (h : ∀ k o, (f k o = some k ∧ P k) ∨ f k o = o) : ∀ n g, itr f n none = some g → g < n ∧ P g := by
  intro n
  induction n with
  | zero => intro g e; cases e
  | succ n ih =>
    intro g e
    have e : f n (itr f n none) = some g := e
    rcases h n (itr f n none) with ⟨c, p⟩ | c
    · rw [c] at e; cases e; exact ⟨by omega, p⟩
    · rw [c] at e; have := ih g e; exact ⟨by omega, this.2⟩
theorem getF_some {I : Nat → Nat → Int32} {A : Nat} {y : Nat → Int64} {p g : Nat} (h : getF I A y p = some g) : g < A ∧ I 4 g = nI p ∧ 0 ≤ y g ∧ 0 < rmF I A y (bI I g) := by
  refine itr_prop (P := fun g => I 4 g = nI p ∧ 0 ≤ y g ∧ 0 < rmF I A y (bI I g)) (fun k o => ?_) A g h
  by_cases c : I 4 k = nI p ∧ 0 ≤ y k ∧ 0 < rmF I A y (bI I k) ∧ (∀ g, o = some g → rmF I A y (bI I g) < rmF I A y (bI I k))
  · exact Or.inl ⟨getS_pos c, c.1, c.2.1, c.2.2.1⟩
  · exact Or.inr (getS_neg c)
theorem givF_some {I : Nat → Nat → Int32} {A : Nat} {y : Nat → Int64} {g : Nat} (h : givF I A y = some g) : g < A ∧ 0 < y g ∧ 0 < excF I A y (bI I g) ∧ ¬ getF I A y (tI I g) = none := by
  refine itr_prop (P := fun g => 0 < y g ∧ 0 < excF I A y (bI I g) ∧ ¬ getF I A y (tI I g) = none) (fun k o => ?_) A g h
  by_cases c : 0 < y k ∧ 0 < excF I A y (bI I k) ∧ ¬ getF I A y (tI I k) = none ∧ (∀ g, o = some g → gvF I A y k g)
  · exact Or.inl ⟨givS_pos c, c.1, c.2.1, c.2.2.1⟩
  · exact Or.inr (givS_neg c)
/-- how much goes from i to j -/
def amtF (I : Nat → Nat → Int32) (A : Nat) (i j : Nat) (y : Nat → Int64) : Int64 :=
  if (if excF I A y (bI I i) ≤ y i then excF I A y (bI I i) else y i) ≤ rmF I A y (bI I j) then (if excF I A y (bI I i) ≤ y i then excF I A y (bI I i) else y i) else rmF I A y (bI I j)
noncomputable def nextE (I : Nat → Nat → Int32) (A : Nat) (y : Nat → Int64) : Option (Nat → Int64) := (givF I A y).bind (fun i => (getF I A y (tI I i)).map (fun j => movF i j (amtF I A i j y) y))
noncomputable def easeF (I : Nat → Nat → Int32) (A : Nat) : Nat → (Nat → Int64) → Nat → Int64
  | 0, y => y
  | f + 1, y => match nextE I A y with
    | none => y
    | some y' => easeF I A f y'
def easeEnds (I : Nat → Nat → Int32) (A : Nat) : Nat → (Nat → Int64) → Prop
  | 0, y => nextE I A y = none
  | f + 1, y => ∀ y', nextE I A y = some y' → easeEnds I A f y'
section M5
variable {ad nm : Nat → Nat} {n : Nat → Int32} {I : Nat → Nat → Int32} {J : Nat → Nat → Int64} {μ0 : jM} {z : Nat × Nat} {A : Nat}
end M5
