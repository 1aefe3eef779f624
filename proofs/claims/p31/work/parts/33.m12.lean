/-! ===== the reference passes a day, the whole of it ===== -/
noncomputable def covP (I : Nat → Nat → Int32) (Ln fc k : Nat) (y : Nat → Int64) : Nat → Int64 := if I 3 k = -1 then covF I Ln (decide (y k < 0)) k fc y else y
noncomputable def setl1 (I : Nat → Nat → Int32) (A F d : Nat) (y : Nat → Int64) : Nat → Int64 := sweepF I A (itr (flowS I d) F y)
noncomputable def setlF (I : Nat → Nat → Int32) (A Ln F fc fe d : Nat) (y : Nat → Int64) : Nat → Int64 := easeF I A fe (itr (covP I Ln fc) A (setl1 I A F d y))
def setlE (I : Nat → Nat → Int32) (A Ln F fc fe d : Nat) (y : Nat → Int64) : Prop :=
  (∀ k, k < A → I 3 k = -1 → covEnds I Ln (decide (itr (covP I Ln fc) k (setl1 I A F d y) k < 0)) k fc (itr (covP I Ln fc) k (setl1 I A F d y))) ∧ easeEnds I A fe (itr (covP I Ln fc) A (setl1 I A F d y))
def dayW (d : Nat) (y : Nat → Int64) : Nat → Int64 := vp_updL y 108 (nI (d + 1)).toInt64
def restF (I : Nat → Nat → Int32) (A Ln d : Nat) (s : (Nat → Int64) × (Nat → Int64)) : (Nat → Int64) × (Nat → Int64) :=
  if nI (d + 1) - nI (d + 1) / 20 * 20 = 0 then (dayW d (bkF I A Ln (accF I A Ln s.1, s.2)).1, (bkF I A Ln (accF I A Ln s.1, s.2)).2) else (dayW d (accF I A Ln s.1), s.2)
noncomputable def passF (I : Nat → Nat → Int32) (A Ln F fc fe d : Nat) (s : (Nat → Int64) × (Nat → Int64)) : (Nat → Int64) × (Nat → Int64) :=
  restF I A Ln d (if stF I d = true then setlF I A Ln F fc fe d s.1 else s.1, s.2)
section M12
variable {ad nm : Nat → Nat} {n : Nat → Int32} {I : Nat → Nat → Int32} {J : Nat → Nat → Int64} {μ0 : jM} {z : Nat × Nat} {A Ln F : Nat}
end M12
