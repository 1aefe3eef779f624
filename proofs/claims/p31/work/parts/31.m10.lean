/-! ===== the reference books interest ===== -/
def bkW (k : Nat) (cr db : Int64) (y : Nat → Int64) : Nat → Int64 :=
  vp_updL (vp_updL (vp_updL y (10 + k) (y (10 + k) - y (10 + k) / 3600000 * 3600000)) (20 + k) (y (20 + k) - y (20 + k) / 3600000 * 3600000)) (60 + k) (y (60 + k) + (cr - db))
def bkS (I : Nat → Nat → Int32) (A k : Nat) (s : (Nat → Int64) × (Nat → Int64)) : (Nat → Int64) × (Nat → Int64) :=
  if I 3 k = -1 then (bkW k (s.1 (10 + k) / 3600000) (s.1 (20 + k) / 3600000) (splF I A k (s.1 (20 + k) / 3600000) 40 (-1) (splF I A k (s.1 (10 + k) / 3600000) 30 1 s)).1, (splF I A k (s.1 (20 + k) / 3600000) 40 (-1) (splF I A k (s.1 (10 + k) / 3600000) 30 1 s)).2) else s
def wzS (k : Nat) (y : Nat → Int64) : Nat → Int64 := vp_updL (vp_updL y (30 + k) 0) (40 + k) 0
def pL (I : Nat → Nat → Int32) (k : Nat) : Nat := (I 11 k).toNatClampNeg
def lcW (I : Nat → Nat → Int32) (k : Nat) (c : Int64) (y : Nat → Int64) : Nat → Int64 :=
  vp_updL (vp_updL (vp_updL y (76 + k) (y (76 + k) - y (76 + k) / 3600000 * 3600000)) (82 + k) (y (82 + k) + c)) (pL I k) (y (pL I k) - c)
def lcS (I : Nat → Nat → Int32) (k : Nat) (y : Nat → Int64) : Nat → Int64 := lcW I k (y (76 + k) / 3600000) y
def bkF (I : Nat → Nat → Int32) (A Ln : Nat) (s : (Nat → Int64) × (Nat → Int64)) : (Nat → Int64) × (Nat → Int64) := (itr (lcS I) Ln (itr wzS A (itr (bkS I A) A s).1), (itr (bkS I A) A s).2)
/-- lines belong to pools -/
def lnOk (Ln : Nat) (I : Nat → Nat → Int32) : Prop := ∀ k, k < Ln → ∃ p, p < 10 ∧ I 11 k = nI p
theorem pL_lt {Ln : Nat} {I : Nat → Nat → Int32} (h : lnOk Ln I) {k : Nat} (hk : k < Ln) : I 11 k = nI (pL I k) ∧ pL I k < 10 := by
  obtain ⟨p, hp, e⟩ := h k hk
  have e2 : pL I k = p := by unfold pL; rw [e]; exact nI_clamp (by omega)
  rw [e2]
  exact ⟨e, hp⟩
section M10
variable {ad nm : Nat → Nat} {n : Nat → Int32} {I : Nat → Nat → Int32} {J : Nat → Nat → Int64} {μ0 : jM} {z : Nat × Nat} {A Ln : Nat}
end M10
