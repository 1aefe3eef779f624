/-! ===== the reference keeps, goes back, settles ===== -/
def cpF (a b : Nat → Int64) : Nat → Int64 := fun i => if i < 109 then a i else b i
def cpS (a : Nat → Int64) (k : Nat) (o : Nat → Int64) : Nat → Int64 := vp_updL o k (a k)
theorem cp_itr {a b : Nat → Int64} : ∀ m, itr (cpS a) m b = fun i => if i < m then a i else b i := by
  intro m
  induction m with
  | zero => funext i; exact (if_neg (Nat.not_lt_zero i)).symm
  | succ m ih =>
    show cpS a m (itr (cpS a) m b) = _
    rw [ih]
    funext i
    unfold cpS vp_updL
    by_cases h : i = m
    · subst h; simp
    · simp only [h]
      by_cases h2 : i < m
      · simp [h2, Nat.lt_succ_of_lt h2]
      · have h3 : ¬ i < m + 1 := by omega
        simp [h2, h3]
def stlF (I : Nat → Nat → Int32) : Nat → Nat → Option Nat
  | 0, _ => none
  | f + 1, d => if stF I d = true then some d else stlF I f (d + 1)
section M13
variable {ad nm : Nat → Nat} {n : Nat → Int32} {I : Nat → Nat → Int32} {J : Nat → Nat → Int64} {μ0 : jM} {z : Nat × Nat} {A Ln F : Nat}
theorem upR_tw {α : Type} {f : Nat → Nat → α} {k : Nat} {g g' : Nat → α} : upR (upR f k g) k g' = upR f k g' := by
  funext j
  unfold upR
  by_cases h : j = k
  · simp [h]
  · simp [h]
theorem upR_self {α : Type} {f : Nat → Nat → α} {k : Nat} : upR f k (f k) = f := by
  funext j
  unfold upR
  by_cases h : j = k
  · simp [h]
  · simp [h]
end M13
