/-! ===== the reference covers pools ===== -/
noncomputable def nlS (I : Nat → Nat → Int32) (y : Nat → Int64) (p : Nat) (dr : Bool) (k : Nat) (f : Option Nat) : Option Nat :=
  @ite _ ((I 11 k = nI p ∧ (if dr then y (70 + k) < (I 12 k).toInt64 else 0 < y (70 + k))) ∧ (∀ g, f = some g → (if dr then I 13 k < I 13 g else I 13 g ≤ I 13 k))) (Classical.propDecidable _) (some k) f
noncomputable def nlF (I : Nat → Nat → Int32) (Ln : Nat) (y : Nat → Int64) (p : Nat) (dr : Bool) : Option Nat := itr (nlS I y p dr) Ln none
section NL
variable {I : Nat → Nat → Int32} {y : Nat → Int64} {p k : Nat} {dr : Bool} {o : Option Nat}
theorem nlS_pos (h : (I 11 k = nI p ∧ (if dr then y (70 + k) < (I 12 k).toInt64 else 0 < y (70 + k))) ∧ (∀ g, o = some g → (if dr then I 13 k < I 13 g else I 13 g ≤ I 13 k))) : nlS I y p dr k o = some k := by
  unfold nlS; exact if_pos h
theorem nlS_neg (h : ¬ ((I 11 k = nI p ∧ (if dr then y (70 + k) < (I 12 k).toInt64 else 0 < y (70 + k))) ∧ (∀ g, o = some g → (if dr then I 13 k < I 13 g else I 13 g ≤ I 13 k)))) : nlS I y p dr k o = o := by
  unfold nlS; exact if_neg h
theorem nlS_or : nlS I y p dr k o = some k ∨ nlS I y p dr k o = o := by
  by_cases h : (I 11 k = nI p ∧ (if dr then y (70 + k) < (I 12 k).toInt64 else 0 < y (70 + k))) ∧ (∀ g, o = some g → (if dr then I 13 k < I 13 g else I 13 g ≤ I 13 k))
  · exact Or.inl (nlS_pos h)
  · exact Or.inr (nlS_neg h)
end NL
def bI1 (d : Bool) : Int32 := if d then 1 else 0
theorem bI1_t : bI1 true = 1 := rfl
theorem bI1_f : bI1 false = 0 := rfl
/-- what is drawn of a line, or paid back -/
def camt (I : Nat → Nat → Int32) (dr : Bool) (p l : Nat) (y : Nat → Int64) : Int64 :=
  if dr then (if -(y p) ≤ (I 12 l).toInt64 - y (70 + l) then -(y p) else (I 12 l).toInt64 - y (70 + l)) else (if y p ≤ y (70 + l) then y p else y (70 + l))
def csg (dr : Bool) (v : Int64) : Int64 := if dr then v else -v
def covS (I : Nat → Nat → Int32) (dr : Bool) (p l : Nat) (y : Nat → Int64) : Nat → Int64 := vp_updL (vp_updL y (70 + l) (y (70 + l) + csg dr (camt I dr p l y))) p (y p + csg dr (camt I dr p l y))
noncomputable def nextC (I : Nat → Nat → Int32) (Ln : Nat) (dr : Bool) (p : Nat) (y : Nat → Int64) : Option (Nat → Int64) := if y p = 0 then none else (nlF I Ln y p dr).map (fun l => covS I dr p l y)
noncomputable def covF (I : Nat → Nat → Int32) (Ln : Nat) (dr : Bool) (p : Nat) : Nat → (Nat → Int64) → Nat → Int64
  | 0, y => y
  | f + 1, y => match nextC I Ln dr p y with
    | none => y
    | some y' => covF I Ln dr p f y'
def covEnds (I : Nat → Nat → Int32) (Ln : Nat) (dr : Bool) (p : Nat) : Nat → (Nat → Int64) → Prop
  | 0, y => nextC I Ln dr p y = none
  | f + 1, y => ∀ y', nextC I Ln dr p y = some y' → covEnds I Ln dr p f y'
section M6
variable {ad nm : Nat → Nat} {n : Nat → Int32} {I : Nat → Nat → Int32} {J : Nat → Nat → Int64} {μ0 : jM} {z : Nat × Nat} {Ln : Nat}
end M6
