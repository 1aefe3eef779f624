/-! ===== the reference's sweep ===== -/
def pI (I : Nat → Nat → Int32) (k : Nat) : Nat := (I 3 k).toNatClampNeg
def upS (I : Nat → Nat → Int32) (k : Nat) (y : Nat → Int64) : Nat → Int64 :=
  if I 3 k ≠ -1 ∧ 0 < surpF I k (y k) then movF k (pI I k) (surpF I k (y k)) y else y
def gotF (I : Nat → Nat → Int32) (k : Nat) (y : Nat → Int64) : Int64 :=
  if 0 < y (pI I k) - (I 8 (pI I k)).toInt64 then (if -(surpF I k (y k)) ≤ y (pI I k) - (I 8 (pI I k)).toInt64 then -(surpF I k (y k)) else y (pI I k) - (I 8 (pI I k)).toInt64) else 0
def dnS (I : Nat → Nat → Int32) (k : Nat) (y : Nat → Int64) : Nat → Int64 :=
  if I 3 k ≠ -1 ∧ surpF I k (y k) < 0 then movF (pI I k) k (gotF I k y) y else y
def sweepF (I : Nat → Nat → Int32) (A : Nat) (y : Nat → Int64) : Nat → Int64 := itr (dnS I) A (itd (upS I) A y)
/-- parents come before their children -/
def parOk (A : Nat) (I : Nat → Nat → Int32) : Prop := ∀ k, k < A → I 3 k = -1 ∨ ∃ p, p < k ∧ I 3 k = nI p
theorem pI_lt {A : Nat} {I : Nat → Nat → Int32} (h : parOk A I) (hA : A ≤ 10) {k : Nat} (hk : k < A) (hn : ¬ I 3 k = -1) : I 3 k = nI (pI I k) ∧ pI I k < k := by
  rcases h k hk with h | ⟨p, hp, e⟩
  · exact absurd h hn
  · have e2 : pI I k = p := by unfold pI; rw [e]; exact nI_clamp (by omega)
    rw [e2]
    exact ⟨e, hp⟩
section M2
variable {ad nm : Nat → Nat} {n : Nat → Int32} {I : Nat → Nat → Int32} {J : Nat → Nat → Int64} {μ0 : jM} {z : Nat × Nat} {A : Nat}
end M2
