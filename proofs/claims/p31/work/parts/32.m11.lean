/-! ===== the reference passes a day ===== -/
def fA (I : Nat → Nat → Int32) (k : Nat) : Nat := (I 15 k).toNatClampNeg
/-- flows go to accounts -/
def flOk (F : Nat) (I : Nat → Nat → Int32) : Prop := ∀ k, k < F → ∃ a, a < 10 ∧ I 15 k = nI a
theorem fA_lt {F : Nat} {I : Nat → Nat → Int32} (h : flOk F I) {k : Nat} (hk : k < F) : I 15 k = nI (fA I k) ∧ fA I k < 10 := by
  obtain ⟨p, hp, e⟩ := h k hk
  have e2 : fA I k = p := by unfold fA; rw [e]; exact nI_clamp (by omega)
  rw [e2]
  exact ⟨e, hp⟩
def flwC (I : Nat → Nat → Int32) (d k : Nat) (y : Nat → Int64) : Prop := y (88 + k) < (I 19 k).toInt64 ∧ I 17 k + (y (88 + k)).toInt32 * I 18 k ≤ nI d
def flwS (I : Nat → Nat → Int32) (k : Nat) (y : Nat → Int64) : Nat → Int64 := vp_updL (vp_updL y (fA I k) (y (fA I k) + (I 16 k).toInt64)) (88 + k) (y (88 + k) + 1)
noncomputable def flwF (I : Nat → Nat → Int32) (d k : Nat) : Nat → (Nat → Int64) → Nat → Int64
  | 0, y => y
  | f + 1, y => @ite _ (flwC I d k y) (Classical.propDecidable _) (flwF I d k f (flwS I k y)) y
def flwN (I : Nat → Nat → Int32) (k : Nat) (y : Nat → Int64) : Nat := ((I 19 k).toInt64.toInt - (y (88 + k)).toInt).toNat
noncomputable def flowS (I : Nat → Nat → Int32) (d k : Nat) (y : Nat → Int64) : Nat → Int64 := flwF I d k (flwN I k y) y
theorem flwN_s {I : Nat → Nat → Int32} {k : Nat} {y : Nat → Int64} (h : y (88 + k) < (I 19 k).toInt64) (hf : fA I k < 10) : flwN I k (flwS I k y) + 1 = flwN I k y := by
  have h1 : (y (88 + k)).toInt < (I 19 k).toInt64.toInt := Int64.lt_iff_toInt_lt.mp h
  have h2 := Int64.toInt_lt (I 19 k).toInt64
  have h3 := Int64.le_toInt (y (88 + k))
  have e : flwS I k y (88 + k) = y (88 + k) + 1 := by
    unfold flwS
    rw [pk_uLs]
  have e2 : (y (88 + k) + 1).toInt = (y (88 + k)).toInt + 1 := by
    rw [Int64.toInt_add]
    show Int.bmod ((y (88 + k)).toInt + 1) (2 ^ 64) = _
    rw [Int.bmod_eq_of_le] <;> omega
  unfold flwN
  rw [e, e2]
  omega
section M11
variable {ad nm : Nat → Nat} {n : Nat → Int32} {I : Nat → Nat → Int32} {J : Nat → Nat → Int64} {μ0 : jM} {z : Nat × Nat} {A Ln F : Nat}
end M11
