/-! ===== methods that read the script: its array is never written ===== -/
def jXS (b L : Nat) (xs : Nat → Int32) (A : Nat → Prop) (s : State) (H0 : Heap) : Prop := va_X b L xs s H0 ∧ b < H0.size ∧ ¬ A b
def jPreS (D : jD) (z : Nat × Nat) (μ : jM) (sz : Nat) (av : List Value) (b L : Nat) (xs : Nat → Int32) (P : Prop) : Array Value → State → Prop := va_Pc av (fun U => U.heap.size = sz ∧ jHz D z μ U.heap ∧ μ z.1 = some jZ0 ∧ jK D U ∧ jG2 z (jA z μ sz) U U.heap ∧ P ∧ jXS b L xs (jA z μ sz) U U.heap)
theorem jPreS_blind {D : jD} {z : Nat × Nat} {μ : jM} {sz : Nat} {av : List Value} {b L : Nat} {xs : Nat → Int32} {P : Prop} : FrameBlind (jPreS D z μ sz av b L xs P) := by
  intro a U g mk h
  obtain ⟨h0, h1, h2, h2z, h3, h4, h5, h6, h7⟩ := h
  exact ⟨h0, h1, h2, h2z, va_K.moved (u := U) (U := U.calling g mk a) (Vm.Alike.refl U.vm) h3, jG2.same (u := U) (U := U.calling g mk a) rfl h4, h5, va_X.moved (u := U) (U := U.calling g mk a) (Vm.Alike.refl U.vm) h6, h7⟩
section JPS
variable {p : Program} {l : Launch} {e : Env} {R : Room} {s : State} {m : MethodId} {args : Array Value} {H : Heap} {locs : List Loc} {D : jD} {A : Nat → Prop} {μ : jM} {z : Nat × Nat} {P : Prop} {As : List Value} {b L : Nat} {xs : Nat → Int32}
theorem j_preS0 (hK : jK D s) (hG : jG2 z A s s.heap) (hI : jIz D z A s.heap μ H locs) (hP : P) (hS : jXS b L xs A s s.heap) {av : List Value} (U : State) (hU : U.heap = H) (hW : s.WarmedH U.vm) : jPreS D z μ H.size av b L xs P av.toArray U := by
  obtain ⟨h0, h1, h2, h2z, h3, h4, h5⟩ := j_pre2z hK hG hI hP (av := av) U hU hW
  obtain ⟨x1, x2, x3⟩ := hS
  refine ⟨h0, h1, h2, h2z, h3, h4, h5, ?_, ?_, fun q => x3 (hI.dom _ q)⟩
  · rw [hU]
    exact (x1.kept (hI.2.2.1.2.1 b x2 x3)).moved hW.alike
  · rw [hU]
    exact Nat.lt_of_lt_of_le x2 hI.2.2.1.1
theorem j_preS (hK : jK D s) (hG : jG2 z A s s.heap) (hI : jIz D z A s.heap μ H locs) (hP : P) (hS : jXS b L xs A s s.heap) : PreS s H (jPreS D z μ H.size As b L xs P) As := ⟨jPreS_blind, j_preS0 hK hG hI hP hS⟩
end JPS
