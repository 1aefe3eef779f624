/-- what holds all along the law -/
def jAL (s : State) : Nat → Prop := fun q => s.heap.size ≤ q
def jXL (D : jD) (z : Nat × Nat) (p : Program) (l : Launch) (s : State) (m : MethodId) (b L : Nat) (xs : Nat → Int32) (meth : Method) (c : Code) : Prop :=
  p.tables.exec = Jvm.exec ∧ c.code = cL_law ∧ c.maxLocals = 1 ∧ s.vm.findClass RL = some m.cls ∧ (∀ w ∈ wsL_law, w.before #[Value.ref b] s = true) ∧ meth.sig.returnType = ret ∧ meth.locks = false ∧ jK D s ∧ jG2 z (jAL s) s s.heap ∧ l.stackTraces = false ∧ va_X b L xs s s.heap ∧ b < s.heap.size
def wL_law_0 (z : Nat × Nat) (b : Nat) (L : Nat) (xs : Nat → Int32)  (μ : jM) : Prop :=
  wL_desk z b L xs (0 : Int32) μ (fun v1 μ2 => ((v1 = 0) → (False)) ∧ (¬ (v1 = 0) → (wL_desk z b L xs (125 : Int32) μ2 (fun v3 μ4 => ((v3 = 0) → (False)) ∧ (¬ (v3 = 0) → (wL_desk z b L xs (250 : Int32) μ4 (fun v5 μ6 => ((v5 = 0) → (False)) ∧ (¬ (v5 = 0) → (True)))))))))
